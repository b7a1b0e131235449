def l_z_X12_member : List Cond := [.methodLink RX12 542 yX12_isPicture, .instanceMethod yX12_isPicture, .selects RX12 yX12_isPicture yX12_isPicture, .initialized RX12, .fieldLink RX12 388 "HeapWorksModel" "thrown" "I", .fieldLink RX12 183 "HeapWorksModel" "things" "[I", .code yX12_isPicture cX12_isPicture 2 (some .boolean)]
def w_z_X12_member : List Cond := .code yX12_member cX12_member 8 (some .int) :: (l_z_X12_member ++ (wsX120))
theorem in_z_X12_member_X12 : ∀ w ∈ wsX120, w ∈ w_z_X12_member := fun w h => List.mem_cons_of_mem _ (List.mem_append_right _ (h))
theorem g_z_X12_member_z_X12_isPicture_542 : GoodIn w_z_X12_member (wsV RX12 542 RX12 yX12_isPicture w_z_X12_isPicture) := goodIn_app (goodIn_r (([.methodLink RX12 542 yX12_isPicture, .instanceMethod yX12_isPicture, .selects RX12 yX12_isPicture yX12_isPicture, .initialized RX12] : List Cond)) [1, 2, 3, 4] rfl (by decide +kernel)) (goodIn_r (.code yX12_isPicture cX12_isPicture 2 (some .boolean) :: l_z_X12_isPicture) [7] rfl (by decide +kernel))
set_option maxHeartbeats 4000000 in
set_option maxRecDepth 100000 in
theorem z_X12_member (l : Launch) (dC : Nat → ClassId) (dI : Nat → Nat → Nat) (sz : Nat) (Ad0 : Nat) (Fs0 : List Value) (Ad1 : Nat) (Fa0 : Nat → Int32) (Ka0 : ClassId) (Va0 : Int32) (Va1 : Int32) (Va2 : Int32) (Va3 : Int32) (k_Fs0 : fh Fs0 150 [(0, .int 0), (48, .ref Ad1)]) (hz_Fa0 : ∀ j, Fa0 j = 0) : Met l yX12_member w_z_X12_member ({ frames := 1, cells := 0, slots := 0, locals := 21 }) (va_Pc [.ref Ad0, .int Va0, .int Va1, .int Va2, .int Va3] (fun U => U.heap.size = sz ∧ Wd dC dI [(Ka0, .int)] (fun _ => True) [(Ad0, .inr (15, Fs0)), (Ad1, .inl (Ka0, 5, .inl Fa0))] U)) (va_Qi (fun (r : Int32) (u : List Value) => (Va0 < 0 ∧ r = 0 ∧ ow Fs0 (u) 150 [0] [(0, .int 1), (48, .ref Ad1)]) ∨ (¬ Va0 < 0 ∧ 4 ≤ Va0 ∧ r = 0 ∧ ow Fs0 (u) 150 [0] [(0, .int 1), (48, .ref Ad1)]) ∨ (¬ Va0 < 0 ∧ ¬ 4 ≤ Va0 ∧ Va2 < 0 ∧ r = 0 ∧ ow Fs0 (u) 150 [0] [(0, .int 1), (48, .ref Ad1)]) ∨ (¬ Va0 < 0 ∧ ¬ 4 ≤ Va0 ∧ ¬ Va2 < 0 ∧ Va1 < 0 ∧ r = 0 ∧ ow Fs0 (u) 150 [0] [(0, .int 1), (48, .ref Ad1)]) ∨ (¬ Va0 < 0 ∧ ¬ 4 ≤ Va0 ∧ ¬ Va2 < 0 ∧ ¬ Va1 < 0 ∧ 2 ≤ Va1 ∧ r = 0 ∧ ow Fs0 (u) 150 [0] [(0, .int 1), (48, .ref Ad1)]) ∨ (¬ Va0 < 0 ∧ ¬ 4 ≤ Va0 ∧ ¬ Va2 < 0 ∧ ¬ Va1 < 0 ∧ ¬ 2 ≤ Va1 ∧ Va3 < 0 ∧ r = 0 ∧ ow Fs0 (u) 150 [0] [(0, .int 1), (48, .ref Ad1)]) ∨ (¬ Va0 < 0 ∧ ¬ 4 ≤ Va0 ∧ ¬ Va2 < 0 ∧ ¬ Va1 < 0 ∧ ¬ 2 ≤ Va1 ∧ ¬ Va3 < 0 ∧ r = 0 ∧ ow Fs0 (u) 150 [0] [(0, .int 1), (48, .ref Ad1)])) (fun (u : List Value) t => Wd dC dI [(Ka0, .int)] (va_A [(Ad0, .inr (15, Fs0)), (Ad1, .inl (Ka0, 5, .inl Fa0))] sz) [(Ad0, .inr (15, (u))), (Ad1, .inl (Ka0, 5, .inl Fa0))] t) (va_A [(Ad0, .inr (15, Fs0)), (Ad1, .inl (Ka0, 5, .inl Fa0))] sz))  0 0 (va_A [(Ad0, .inr (15, Fs0)), (Ad1, .inl (Ka0, 5, .inl Fa0))] sz) := by
  refine Met.ofW (cc := cX12_member) (maxL := 8) (ret := (some .int)) (by decide) rfl ?_
  intro p e s m args below meth c s₁ B hml hv
  obtain ⟨rfl, hsz, hP, hK, hD0⟩ := hv
  have hx := B.exec
  have hb := B.bytes
  have hr := B.returns
  have hts := atoms_spec (ws := w_z_X12_member) B.pre
  have hown : s.vm.findClass RX12 = some m.cls := findClass_of_methodNamed B.named
  have hlocks := B.notSynchronized
  subst hsz
  have hD := hD0.self (sz := s.heap.size)
  generalize hAe : va_A [(Ad0, .inr (15, Fs0)), (Ad1, .inl (Ka0, 5, .inl Fa0))] s.heap.size = A at hD ⊢
  have hA : ∀ q : Nat, s.heap.size ≤ q → A q := fun q h => by rw [← hAe]; exact Or.inr h
  have hS : va_S A s.heap s.heap [] := va_S.rf
  have hl := lv_entry ([.ref Ad0, .int Va0, .int Va1, .int Va2, .int Va3]) (n := 8) (Nat.le_of_ble_eq_true rfl)
  rw [lg_entry_eq]
  generalize (lg_sl ([.ref Ad0, .int Va0, .int Va1, .int Va2, .int Va3]) ++ List.replicate (8 - (lg_sl ([.ref Ad0, .int Va0, .int Va1, .int Va2, .int Va3])).length) Slot.unset).toArray = ls at hl ⊢
  have hl : lv_has ls 8 [(0, .ref Ad0), (1, .int Va0), (2, .int Va1), (3, .int Va2), (4, .int Va3)] := hl
  have o_Fs0 := ow_0 k_Fs0
  refine lv_iconst (v := (-1)) hx hb dX12_member_0 (by decide) ?_
  refine lv_istore (lv' := [(5, .int (-1)), (0, .ref Ad0), (1, .int Va0), (2, .int Va1), (3, .int Va2), (4, .int Va3)]) hx hb dX12_member_1 hl (by decide) rfl (fun ls hl => ?_)
  refine lv_iload hx hb dX12_member_3 (lv_at hl 5 rfl) ?_
  refine lv_istore (lv' := [(6, .int Va3), (5, .int (-1)), (0, .ref Ad0), (1, .int Va0), (2, .int Va1), (3, .int Va2), (4, .int Va3)]) hx hb dX12_member_5 hl (by decide) rfl (fun ls hl => ?_)
  refine lv_iconst (v := 0) hx hb dX12_member_7 (by decide) ?_
  refine lv_istore (lv' := [(7, .int 0), (6, .int Va3), (5, .int (-1)), (0, .ref Ad0), (1, .int Va0), (2, .int Va1), (3, .int Va2), (4, .int Va3)]) hx hb dX12_member_8 hl (by decide) rfl (fun ls hl => ?_)
  refine lv_aload_n hx hb dX12_member_10 rfl (lv_at hl 3 rfl) ?_
  refine lv_iload_n hx hb dX12_member_11 rfl (lv_at hl 4 rfl) ?_
  have hPc := hP.sub (ws' := []) [] rfl
  have hDc := hD.sub (ws' := []) [] (by decide) rfl
  have hKc := hK.sub (tys' := []) [] rfl
  have hFc := va_free (wc := []) hD hS hA [] rfl
  refine va_calli (va_runV (As := [.int Va0]) (rest := []) ⟨hx, hb, hml, hown, hts⟩ (z_X12_isPicture l dC dI s.heap.size Ad0 Va0  ) (cwV 1 hts g_z_X12_member_z_X12_isPicture_542 rfl rfl rfl (by decide +kernel) ⟨Nat.le_of_ble_eq_true rfl, Nat.le_of_ble_eq_true rfl⟩) ⟨fun a U g mk q => by obtain ⟨q0, q1, qP, qK, qD⟩ := q; exact ⟨q0, q1, qP, va_K.moved (u := U) (U := U.calling g mk a) (Vm.Alike.refl U.vm) qK, qD⟩, va_recv hK hP (ci := 15) (q0 := 0) rfl rfl, fun U hU hW => ⟨rfl, by rw [hU], by rw [hU]; exact hPc, va_K.moved hW.alike hKc, hDc.weaken (fun _ _ _ _ => trivial)⟩⟩ rfl rfl hl.1 rfl (lv_room (Nat.le_of_ble_eq_true rfl)) dX12_member_12 ⟨Nat.le_of_ble_eq_true rfl, Nat.le_of_ble_eq_true rfl⟩) hS (fun q _ h => hFc q h) hFc (fun r101 u t H1 locs ht hvm hw hB hz1 hk1 hS => ?_)
  obtain ⟨hP1, hK1, hD1⟩ := hB
  rw [ht] at hP1
  try dsimp only at hw
  obtain ⟨hP, hD⟩ := va_join (wr := [(Ad0, .inr (15, Fs0)), (Ad1, .inl (Ka0, 5, .inl Fa0))]) (w1 := []) hP hD [] [0, 1] rfl rfl (by decide) (by decide) hk1 hFc hP1 hD1
  have hK := hK.sub (tys' := [(Ka0, .int)]) [0] rfl
  generalize H1 = H at hP hS ⊢
  have hP : va_P (dC, dI) vwCl [(Ad0, .inr (15, Fs0)), (Ad1, .inl (Ka0, 5, .inl Fa0))] H := hP
  have hD : va_D A [(Ad0, .inr (15, Fs0)), (Ad1, .inl (Ka0, 5, .inl Fa0))] := hD
  rcases hw with ⟨c102, er103⟩ | ⟨c104, c105, er106⟩ | ⟨c107, c108, er109⟩
  · skip
    subst er103
    refine lv_if_eq (tgt := 109) hx hb dX12_member_15 (by decide) (fun c110 => ?_) (fun c110 => absurd c110 (by decide))
    refine lv_aload_n hx hb dX12_member_109 rfl (lv_at hl 3 rfl) ?_
    refine lv_iload hx hb dX12_member_110 (lv_at hl 2 rfl) ?_
    refine lv_iconst (v := (-1)) hx hb dX12_member_112 (by decide) ?_
    refine lv_icmp_ne (tgt := 120) hx hb dX12_member_113 (by decide) (fun c111 => absurd c111 (by decide)) (fun c111 => ?_)
    refine lv_iconst (v := 1) hx hb dX12_member_116 (by decide) ?_
    refine lv_goto (tgt := 121) hx hb dX12_member_117 (by decide) ?_
    refine va_put (D := (dC, dI)) (ci := 15) (v := .int 1) (ty := .int) (C := RX12) (T := TX12) (N := 150) hx hb hts (in_z_X12_member_X12) tyX12 tyX12_ok nmX12 hown hK hP hD hS 0 rfl rfl 0 (by decide) (hts (.fieldLink RX12 388 "HeapWorksModel" "thrown" "I") (by decide +kernel)) (fun _ h9 => h9) rfl (by decide +kernel) rfl rfl (by rw [o_Fs0.2.1]; decide) dX12_member_121 (fun H locs hP hD hS => ?_)
    have hP : va_P (dC, dI) vwCl [(Ad0, .inr (15, (Fs0.set 0 (.int 1)))), (Ad1, .inl (Ka0, 5, .inl Fa0))] H := hP
    have hD : va_D A [(Ad0, .inr (15, (Fs0.set 0 (.int 1)))), (Ad1, .inl (Ka0, 5, .inl Fa0))] := hD
    have o_s112 := ow_set o_Fs0 0 (.int 1) (by decide) (l' := [(0, .int 1), (48, .ref Ad1)]) (w' := [0]) rfl rfl
    generalize (Fs0.set 0 (.int 1)) = s112 at hP hD o_s112
    refine lv_aload_n hx hb dX12_member_124 rfl (lv_at hl 3 rfl) ?_
    refine va_get (D := (dC, dI)) (ci := 15) (v := .int 1) (C := RX12) (T := TX12) (N := 150) hx hb hts (in_z_X12_member_X12) hown hK hP 0 rfl rfl 0 (by decide) (hts (.fieldLink RX12 388 "HeapWorksModel" "thrown" "I") (by decide +kernel)) (fun _ h9 => h9) (ow_at o_s112 0 rfl) dX12_member_125 ?_
    refine lv_if_le (tgt := 135) hx hb dX12_member_128 (by decide) (fun c113 => absurd c113 (by decide)) (fun c113 => ?_)
    refine lv_iconst (v := 0) hx hb dX12_member_131 (by decide) ?_
    refine lv_goto (tgt := 137) hx hb dX12_member_132 (by decide) ?_
    have hP9 := hP.sub (ws' := [(Ad0, .inr (15, s112)), (Ad1, .inl (Ka0, 5, .inl Fa0))]) [0, 1] rfl
    have hD9 := hD.sub (ws' := [(Ad0, .inr (15, s112)), (Ad1, .inl (Ka0, 5, .inl Fa0))]) [0, 1] (by decide) rfl
    have hK9 := hK.sub (tys' := [(Ka0, .int)]) [0] rfl
    exact W.iret (v := 0) hx hb hr (fun t ht hW => ⟨⟨0, s112, rfl, (Or.inl ⟨c102, rfl, o_s112⟩), by rw [ht]; exact hP9, va_K.moved hW.alike hK9, hD9⟩, hS.F ht⟩) hS.2.2 dX12_member_137
  · skip
    subst er106
    refine lv_if_eq (tgt := 109) hx hb dX12_member_15 (by decide) (fun c114 => ?_) (fun c114 => absurd c114 (by decide))
    refine lv_aload_n hx hb dX12_member_109 rfl (lv_at hl 3 rfl) ?_
    refine lv_iload hx hb dX12_member_110 (lv_at hl 2 rfl) ?_
    refine lv_iconst (v := (-1)) hx hb dX12_member_112 (by decide) ?_
    refine lv_icmp_ne (tgt := 120) hx hb dX12_member_113 (by decide) (fun c115 => absurd c115 (by decide)) (fun c115 => ?_)
    refine lv_iconst (v := 1) hx hb dX12_member_116 (by decide) ?_
    refine lv_goto (tgt := 121) hx hb dX12_member_117 (by decide) ?_
    refine va_put (D := (dC, dI)) (ci := 15) (v := .int 1) (ty := .int) (C := RX12) (T := TX12) (N := 150) hx hb hts (in_z_X12_member_X12) tyX12 tyX12_ok nmX12 hown hK hP hD hS 0 rfl rfl 0 (by decide) (hts (.fieldLink RX12 388 "HeapWorksModel" "thrown" "I") (by decide +kernel)) (fun _ h9 => h9) rfl (by decide +kernel) rfl rfl (by rw [o_Fs0.2.1]; decide) dX12_member_121 (fun H locs hP hD hS => ?_)
    have hP : va_P (dC, dI) vwCl [(Ad0, .inr (15, (Fs0.set 0 (.int 1)))), (Ad1, .inl (Ka0, 5, .inl Fa0))] H := hP
    have hD : va_D A [(Ad0, .inr (15, (Fs0.set 0 (.int 1)))), (Ad1, .inl (Ka0, 5, .inl Fa0))] := hD
    have o_s116 := ow_set o_Fs0 0 (.int 1) (by decide) (l' := [(0, .int 1), (48, .ref Ad1)]) (w' := [0]) rfl rfl
    generalize (Fs0.set 0 (.int 1)) = s116 at hP hD o_s116
    refine lv_aload_n hx hb dX12_member_124 rfl (lv_at hl 3 rfl) ?_
    refine va_get (D := (dC, dI)) (ci := 15) (v := .int 1) (C := RX12) (T := TX12) (N := 150) hx hb hts (in_z_X12_member_X12) hown hK hP 0 rfl rfl 0 (by decide) (hts (.fieldLink RX12 388 "HeapWorksModel" "thrown" "I") (by decide +kernel)) (fun _ h9 => h9) (ow_at o_s116 0 rfl) dX12_member_125 ?_
    refine lv_if_le (tgt := 135) hx hb dX12_member_128 (by decide) (fun c117 => absurd c117 (by decide)) (fun c117 => ?_)
    refine lv_iconst (v := 0) hx hb dX12_member_131 (by decide) ?_
    refine lv_goto (tgt := 137) hx hb dX12_member_132 (by decide) ?_
    have hP9 := hP.sub (ws' := [(Ad0, .inr (15, s116)), (Ad1, .inl (Ka0, 5, .inl Fa0))]) [0, 1] rfl
    have hD9 := hD.sub (ws' := [(Ad0, .inr (15, s116)), (Ad1, .inl (Ka0, 5, .inl Fa0))]) [0, 1] (by decide) rfl
    have hK9 := hK.sub (tys' := [(Ka0, .int)]) [0] rfl
    exact W.iret (v := 0) hx hb hr (fun t ht hW => ⟨⟨0, s116, rfl, (Or.inr (Or.inl ⟨c104, c105, rfl, o_s116⟩)), by rw [ht]; exact hP9, va_K.moved hW.alike hK9, hD9⟩, hS.F ht⟩) hS.2.2 dX12_member_137
  · skip
    subst er109
    refine lv_if_eq (tgt := 109) hx hb dX12_member_15 (by decide) (fun c118 => absurd c118 (by decide)) (fun c118 => ?_)
    refine lv_iload_n hx hb dX12_member_18 rfl (lv_at hl 6 rfl) ?_
    refine lv_if_lt (tgt := 109) hx hb dX12_member_19 (by decide) (fun c119 => ?_) (fun c119 => ?_)
    · skip
      refine lv_aload_n hx hb dX12_member_109 rfl (lv_at hl 3 rfl) ?_
      refine lv_iload hx hb dX12_member_110 (lv_at hl 2 rfl) ?_
      refine lv_iconst (v := (-1)) hx hb dX12_member_112 (by decide) ?_
      refine lv_icmp_ne (tgt := 120) hx hb dX12_member_113 (by decide) (fun c120 => absurd c120 (by decide)) (fun c120 => ?_)
      refine lv_iconst (v := 1) hx hb dX12_member_116 (by decide) ?_
      refine lv_goto (tgt := 121) hx hb dX12_member_117 (by decide) ?_
      refine va_put (D := (dC, dI)) (ci := 15) (v := .int 1) (ty := .int) (C := RX12) (T := TX12) (N := 150) hx hb hts (in_z_X12_member_X12) tyX12 tyX12_ok nmX12 hown hK hP hD hS 0 rfl rfl 0 (by decide) (hts (.fieldLink RX12 388 "HeapWorksModel" "thrown" "I") (by decide +kernel)) (fun _ h9 => h9) rfl (by decide +kernel) rfl rfl (by rw [o_Fs0.2.1]; decide) dX12_member_121 (fun H locs hP hD hS => ?_)
      have hP : va_P (dC, dI) vwCl [(Ad0, .inr (15, (Fs0.set 0 (.int 1)))), (Ad1, .inl (Ka0, 5, .inl Fa0))] H := hP
      have hD : va_D A [(Ad0, .inr (15, (Fs0.set 0 (.int 1)))), (Ad1, .inl (Ka0, 5, .inl Fa0))] := hD
      have o_s121 := ow_set o_Fs0 0 (.int 1) (by decide) (l' := [(0, .int 1), (48, .ref Ad1)]) (w' := [0]) rfl rfl
      generalize (Fs0.set 0 (.int 1)) = s121 at hP hD o_s121
      refine lv_aload_n hx hb dX12_member_124 rfl (lv_at hl 3 rfl) ?_
      refine va_get (D := (dC, dI)) (ci := 15) (v := .int 1) (C := RX12) (T := TX12) (N := 150) hx hb hts (in_z_X12_member_X12) hown hK hP 0 rfl rfl 0 (by decide) (hts (.fieldLink RX12 388 "HeapWorksModel" "thrown" "I") (by decide +kernel)) (fun _ h9 => h9) (ow_at o_s121 0 rfl) dX12_member_125 ?_
      refine lv_if_le (tgt := 135) hx hb dX12_member_128 (by decide) (fun c122 => absurd c122 (by decide)) (fun c122 => ?_)
      refine lv_iconst (v := 0) hx hb dX12_member_131 (by decide) ?_
      refine lv_goto (tgt := 137) hx hb dX12_member_132 (by decide) ?_
      have hP9 := hP.sub (ws' := [(Ad0, .inr (15, s121)), (Ad1, .inl (Ka0, 5, .inl Fa0))]) [0, 1] rfl
      have hD9 := hD.sub (ws' := [(Ad0, .inr (15, s121)), (Ad1, .inl (Ka0, 5, .inl Fa0))]) [0, 1] (by decide) rfl
      have hK9 := hK.sub (tys' := [(Ka0, .int)]) [0] rfl
      exact W.iret (v := 0) hx hb hr (fun t ht hW => ⟨⟨0, s121, rfl, (Or.inr (Or.inr (Or.inl ⟨c107, c108, c119, rfl, o_s121⟩))), by rw [ht]; exact hP9, va_K.moved hW.alike hK9, hD9⟩, hS.F ht⟩) hS.2.2 dX12_member_137
    · skip
      refine lv_iload_n hx hb dX12_member_22 rfl (lv_at hl 5 rfl) ?_
      refine lv_if_lt (tgt := 109) hx hb dX12_member_23 (by decide) (fun c123 => ?_) (fun c123 => ?_)
      · skip
        refine lv_aload_n hx hb dX12_member_109 rfl (lv_at hl 3 rfl) ?_
        refine lv_iload hx hb dX12_member_110 (lv_at hl 2 rfl) ?_
        refine lv_iconst (v := (-1)) hx hb dX12_member_112 (by decide) ?_
        refine lv_icmp_ne (tgt := 120) hx hb dX12_member_113 (by decide) (fun c124 => absurd c124 (by decide)) (fun c124 => ?_)
        refine lv_iconst (v := 1) hx hb dX12_member_116 (by decide) ?_
        refine lv_goto (tgt := 121) hx hb dX12_member_117 (by decide) ?_
        refine va_put (D := (dC, dI)) (ci := 15) (v := .int 1) (ty := .int) (C := RX12) (T := TX12) (N := 150) hx hb hts (in_z_X12_member_X12) tyX12 tyX12_ok nmX12 hown hK hP hD hS 0 rfl rfl 0 (by decide) (hts (.fieldLink RX12 388 "HeapWorksModel" "thrown" "I") (by decide +kernel)) (fun _ h9 => h9) rfl (by decide +kernel) rfl rfl (by rw [o_Fs0.2.1]; decide) dX12_member_121 (fun H locs hP hD hS => ?_)
        have hP : va_P (dC, dI) vwCl [(Ad0, .inr (15, (Fs0.set 0 (.int 1)))), (Ad1, .inl (Ka0, 5, .inl Fa0))] H := hP
        have hD : va_D A [(Ad0, .inr (15, (Fs0.set 0 (.int 1)))), (Ad1, .inl (Ka0, 5, .inl Fa0))] := hD
        have o_s125 := ow_set o_Fs0 0 (.int 1) (by decide) (l' := [(0, .int 1), (48, .ref Ad1)]) (w' := [0]) rfl rfl
        generalize (Fs0.set 0 (.int 1)) = s125 at hP hD o_s125
        refine lv_aload_n hx hb dX12_member_124 rfl (lv_at hl 3 rfl) ?_
        refine va_get (D := (dC, dI)) (ci := 15) (v := .int 1) (C := RX12) (T := TX12) (N := 150) hx hb hts (in_z_X12_member_X12) hown hK hP 0 rfl rfl 0 (by decide) (hts (.fieldLink RX12 388 "HeapWorksModel" "thrown" "I") (by decide +kernel)) (fun _ h9 => h9) (ow_at o_s125 0 rfl) dX12_member_125 ?_
        refine lv_if_le (tgt := 135) hx hb dX12_member_128 (by decide) (fun c126 => absurd c126 (by decide)) (fun c126 => ?_)
        refine lv_iconst (v := 0) hx hb dX12_member_131 (by decide) ?_
        refine lv_goto (tgt := 137) hx hb dX12_member_132 (by decide) ?_
        have hP9 := hP.sub (ws' := [(Ad0, .inr (15, s125)), (Ad1, .inl (Ka0, 5, .inl Fa0))]) [0, 1] rfl
        have hD9 := hD.sub (ws' := [(Ad0, .inr (15, s125)), (Ad1, .inl (Ka0, 5, .inl Fa0))]) [0, 1] (by decide) rfl
        have hK9 := hK.sub (tys' := [(Ka0, .int)]) [0] rfl
        exact W.iret (v := 0) hx hb hr (fun t ht hW => ⟨⟨0, s125, rfl, (Or.inr (Or.inr (Or.inr (Or.inl ⟨c107, c108, c119, c123, rfl, o_s125⟩)))), by rw [ht]; exact hP9, va_K.moved hW.alike hK9, hD9⟩, hS.F ht⟩) hS.2.2 dX12_member_137
      · skip
        refine lv_iload_n hx hb dX12_member_26 rfl (lv_at hl 5 rfl) ?_
        refine lv_iconst (v := 2) hx hb dX12_member_27 (by decide) ?_
        refine lv_icmp_ge (tgt := 109) hx hb dX12_member_28 (by decide) (fun c127 => ?_) (fun c127 => ?_)
        · skip
          refine lv_aload_n hx hb dX12_member_109 rfl (lv_at hl 3 rfl) ?_
          refine lv_iload hx hb dX12_member_110 (lv_at hl 2 rfl) ?_
          refine lv_iconst (v := (-1)) hx hb dX12_member_112 (by decide) ?_
          refine lv_icmp_ne (tgt := 120) hx hb dX12_member_113 (by decide) (fun c128 => absurd c128 (by decide)) (fun c128 => ?_)
          refine lv_iconst (v := 1) hx hb dX12_member_116 (by decide) ?_
          refine lv_goto (tgt := 121) hx hb dX12_member_117 (by decide) ?_
          refine va_put (D := (dC, dI)) (ci := 15) (v := .int 1) (ty := .int) (C := RX12) (T := TX12) (N := 150) hx hb hts (in_z_X12_member_X12) tyX12 tyX12_ok nmX12 hown hK hP hD hS 0 rfl rfl 0 (by decide) (hts (.fieldLink RX12 388 "HeapWorksModel" "thrown" "I") (by decide +kernel)) (fun _ h9 => h9) rfl (by decide +kernel) rfl rfl (by rw [o_Fs0.2.1]; decide) dX12_member_121 (fun H locs hP hD hS => ?_)
          have hP : va_P (dC, dI) vwCl [(Ad0, .inr (15, (Fs0.set 0 (.int 1)))), (Ad1, .inl (Ka0, 5, .inl Fa0))] H := hP
          have hD : va_D A [(Ad0, .inr (15, (Fs0.set 0 (.int 1)))), (Ad1, .inl (Ka0, 5, .inl Fa0))] := hD
          have o_s129 := ow_set o_Fs0 0 (.int 1) (by decide) (l' := [(0, .int 1), (48, .ref Ad1)]) (w' := [0]) rfl rfl
          generalize (Fs0.set 0 (.int 1)) = s129 at hP hD o_s129
          refine lv_aload_n hx hb dX12_member_124 rfl (lv_at hl 3 rfl) ?_
          refine va_get (D := (dC, dI)) (ci := 15) (v := .int 1) (C := RX12) (T := TX12) (N := 150) hx hb hts (in_z_X12_member_X12) hown hK hP 0 rfl rfl 0 (by decide) (hts (.fieldLink RX12 388 "HeapWorksModel" "thrown" "I") (by decide +kernel)) (fun _ h9 => h9) (ow_at o_s129 0 rfl) dX12_member_125 ?_
          refine lv_if_le (tgt := 135) hx hb dX12_member_128 (by decide) (fun c130 => absurd c130 (by decide)) (fun c130 => ?_)
          refine lv_iconst (v := 0) hx hb dX12_member_131 (by decide) ?_
          refine lv_goto (tgt := 137) hx hb dX12_member_132 (by decide) ?_
          have hP9 := hP.sub (ws' := [(Ad0, .inr (15, s129)), (Ad1, .inl (Ka0, 5, .inl Fa0))]) [0, 1] rfl
          have hD9 := hD.sub (ws' := [(Ad0, .inr (15, s129)), (Ad1, .inl (Ka0, 5, .inl Fa0))]) [0, 1] (by decide) rfl
          have hK9 := hK.sub (tys' := [(Ka0, .int)]) [0] rfl
          exact W.iret (v := 0) hx hb hr (fun t ht hW => ⟨⟨0, s129, rfl, (Or.inr (Or.inr (Or.inr (Or.inr (Or.inl ⟨c107, c108, c119, c123, c127, rfl, o_s129⟩))))), by rw [ht]; exact hP9, va_K.moved hW.alike hK9, hD9⟩, hS.F ht⟩) hS.2.2 dX12_member_137
        · skip
          refine lv_iload hx hb dX12_member_31 (lv_at hl 7 rfl) ?_
          refine lv_if_lt (tgt := 109) hx hb dX12_member_33 (by decide) (fun c131 => ?_) (fun c131 => ?_)
          · skip
            refine lv_aload_n hx hb dX12_member_109 rfl (lv_at hl 3 rfl) ?_
            refine lv_iload hx hb dX12_member_110 (lv_at hl 2 rfl) ?_
            refine lv_iconst (v := (-1)) hx hb dX12_member_112 (by decide) ?_
            refine lv_icmp_ne (tgt := 120) hx hb dX12_member_113 (by decide) (fun c132 => absurd c132 (by decide)) (fun c132 => ?_)
            refine lv_iconst (v := 1) hx hb dX12_member_116 (by decide) ?_
            refine lv_goto (tgt := 121) hx hb dX12_member_117 (by decide) ?_
            refine va_put (D := (dC, dI)) (ci := 15) (v := .int 1) (ty := .int) (C := RX12) (T := TX12) (N := 150) hx hb hts (in_z_X12_member_X12) tyX12 tyX12_ok nmX12 hown hK hP hD hS 0 rfl rfl 0 (by decide) (hts (.fieldLink RX12 388 "HeapWorksModel" "thrown" "I") (by decide +kernel)) (fun _ h9 => h9) rfl (by decide +kernel) rfl rfl (by rw [o_Fs0.2.1]; decide) dX12_member_121 (fun H locs hP hD hS => ?_)
            have hP : va_P (dC, dI) vwCl [(Ad0, .inr (15, (Fs0.set 0 (.int 1)))), (Ad1, .inl (Ka0, 5, .inl Fa0))] H := hP
            have hD : va_D A [(Ad0, .inr (15, (Fs0.set 0 (.int 1)))), (Ad1, .inl (Ka0, 5, .inl Fa0))] := hD
            have o_s133 := ow_set o_Fs0 0 (.int 1) (by decide) (l' := [(0, .int 1), (48, .ref Ad1)]) (w' := [0]) rfl rfl
            generalize (Fs0.set 0 (.int 1)) = s133 at hP hD o_s133
            refine lv_aload_n hx hb dX12_member_124 rfl (lv_at hl 3 rfl) ?_
            refine va_get (D := (dC, dI)) (ci := 15) (v := .int 1) (C := RX12) (T := TX12) (N := 150) hx hb hts (in_z_X12_member_X12) hown hK hP 0 rfl rfl 0 (by decide) (hts (.fieldLink RX12 388 "HeapWorksModel" "thrown" "I") (by decide +kernel)) (fun _ h9 => h9) (ow_at o_s133 0 rfl) dX12_member_125 ?_
            refine lv_if_le (tgt := 135) hx hb dX12_member_128 (by decide) (fun c134 => absurd c134 (by decide)) (fun c134 => ?_)
            refine lv_iconst (v := 0) hx hb dX12_member_131 (by decide) ?_
            refine lv_goto (tgt := 137) hx hb dX12_member_132 (by decide) ?_
            have hP9 := hP.sub (ws' := [(Ad0, .inr (15, s133)), (Ad1, .inl (Ka0, 5, .inl Fa0))]) [0, 1] rfl
            have hD9 := hD.sub (ws' := [(Ad0, .inr (15, s133)), (Ad1, .inl (Ka0, 5, .inl Fa0))]) [0, 1] (by decide) rfl
            have hK9 := hK.sub (tys' := [(Ka0, .int)]) [0] rfl
            exact W.iret (v := 0) hx hb hr (fun t ht hW => ⟨⟨0, s133, rfl, (Or.inr (Or.inr (Or.inr (Or.inr (Or.inr (Or.inl ⟨c107, c108, c119, c123, c127, c131, rfl, o_s133⟩)))))), by rw [ht]; exact hP9, va_K.moved hW.alike hK9, hD9⟩, hS.F ht⟩) hS.2.2 dX12_member_137
          · skip
            refine lv_iload hx hb dX12_member_36 (lv_at hl 0 rfl) ?_
            refine lv_aload_n hx hb dX12_member_38 rfl (lv_at hl 3 rfl) ?_
            refine va_get (D := (dC, dI)) (ci := 15) (v := .ref Ad1) (C := RX12) (T := TX12) (N := 150) hx hb hts (in_z_X12_member_X12) hown hK hP 0 rfl rfl 48 (by decide) (hts (.fieldLink RX12 183 "HeapWorksModel" "things" "[I") (by decide +kernel)) (fun _ h9 => h9) (ow_at o_Fs0 1 rfl) dX12_member_39 ?_
            refine lv_iload_n hx hb dX12_member_42 rfl (lv_at hl 4 rfl) ?_
            refine va_iald hx hb hK hP 1 0 rfl rfl (by rw [vp_in_iff]; (try simp only [i_lt, i_le, i_eq, kc_0, kc_4] at c107 c108); omega) dX12_member_43 ?_
            refine lv_topi (fun x135 ex135 => ?_)
            obtain rfl : x135 = 0 := ex135.trans (hz_Fa0 _)
            refine lv_icmp_ge (tgt := 109) hx hb dX12_member_44 (by decide) (fun c136 => ?_) (fun c136 => absurd c136 (by decide))
            refine lv_aload_n hx hb dX12_member_109 rfl (lv_at hl 3 rfl) ?_
            refine lv_iload hx hb dX12_member_110 (lv_at hl 2 rfl) ?_
            refine lv_iconst (v := (-1)) hx hb dX12_member_112 (by decide) ?_
            refine lv_icmp_ne (tgt := 120) hx hb dX12_member_113 (by decide) (fun c137 => absurd c137 (by decide)) (fun c137 => ?_)
            refine lv_iconst (v := 1) hx hb dX12_member_116 (by decide) ?_
            refine lv_goto (tgt := 121) hx hb dX12_member_117 (by decide) ?_
            refine va_put (D := (dC, dI)) (ci := 15) (v := .int 1) (ty := .int) (C := RX12) (T := TX12) (N := 150) hx hb hts (in_z_X12_member_X12) tyX12 tyX12_ok nmX12 hown hK hP hD hS 0 rfl rfl 0 (by decide) (hts (.fieldLink RX12 388 "HeapWorksModel" "thrown" "I") (by decide +kernel)) (fun _ h9 => h9) rfl (by decide +kernel) rfl rfl (by rw [o_Fs0.2.1]; decide) dX12_member_121 (fun H locs hP hD hS => ?_)
            have hP : va_P (dC, dI) vwCl [(Ad0, .inr (15, (Fs0.set 0 (.int 1)))), (Ad1, .inl (Ka0, 5, .inl Fa0))] H := hP
            have hD : va_D A [(Ad0, .inr (15, (Fs0.set 0 (.int 1)))), (Ad1, .inl (Ka0, 5, .inl Fa0))] := hD
            have o_s138 := ow_set o_Fs0 0 (.int 1) (by decide) (l' := [(0, .int 1), (48, .ref Ad1)]) (w' := [0]) rfl rfl
            generalize (Fs0.set 0 (.int 1)) = s138 at hP hD o_s138
            refine lv_aload_n hx hb dX12_member_124 rfl (lv_at hl 3 rfl) ?_
            refine va_get (D := (dC, dI)) (ci := 15) (v := .int 1) (C := RX12) (T := TX12) (N := 150) hx hb hts (in_z_X12_member_X12) hown hK hP 0 rfl rfl 0 (by decide) (hts (.fieldLink RX12 388 "HeapWorksModel" "thrown" "I") (by decide +kernel)) (fun _ h9 => h9) (ow_at o_s138 0 rfl) dX12_member_125 ?_
            refine lv_if_le (tgt := 135) hx hb dX12_member_128 (by decide) (fun c139 => absurd c139 (by decide)) (fun c139 => ?_)
            refine lv_iconst (v := 0) hx hb dX12_member_131 (by decide) ?_
            refine lv_goto (tgt := 137) hx hb dX12_member_132 (by decide) ?_
            have hP9 := hP.sub (ws' := [(Ad0, .inr (15, s138)), (Ad1, .inl (Ka0, 5, .inl Fa0))]) [0, 1] rfl
            have hD9 := hD.sub (ws' := [(Ad0, .inr (15, s138)), (Ad1, .inl (Ka0, 5, .inl Fa0))]) [0, 1] (by decide) rfl
            have hK9 := hK.sub (tys' := [(Ka0, .int)]) [0] rfl
            exact W.iret (v := 0) hx hb hr (fun t ht hW => ⟨⟨0, s138, rfl, (Or.inr (Or.inr (Or.inr (Or.inr (Or.inr (Or.inr (⟨c107, c108, c119, c123, c127, c131, rfl, o_s138⟩))))))), by rw [ht]; exact hP9, va_K.moved hW.alike hK9, hD9⟩, hS.F ht⟩) hS.2.2 dX12_member_137

def l_z_X12_choose : List Cond := [.fieldLink RX12 388 "HeapWorksModel" "thrown" "I", .methodLink RX12 600 yX12_isThing, .instanceMethod yX12_isThing, .selects RX12 yX12_isThing yX12_isThing, .initialized RX12, .code yX12_isThing cX12_isThing 3 (some .boolean), .methodLink RX12 542 yX12_isPicture, .instanceMethod yX12_isPicture, .selects RX12 yX12_isPicture yX12_isPicture, .fieldLink RX12 183 "HeapWorksModel" "things" "[I", .code yX12_isPicture cX12_isPicture 2 (some .boolean)]
def w_z_X12_choose : List Cond := .code yX12_choose cX12_choose 4 (some .boolean) :: (l_z_X12_choose ++ (wsX120))
theorem in_z_X12_choose_X12 : ∀ w ∈ wsX120, w ∈ w_z_X12_choose := fun w h => List.mem_cons_of_mem _ (List.mem_append_right _ (h))
theorem g_z_X12_choose_z_X12_isThing_600 : GoodIn w_z_X12_choose (wsV RX12 600 RX12 yX12_isThing w_z_X12_isThing) := goodIn_app (goodIn_r (([.methodLink RX12 600 yX12_isThing, .instanceMethod yX12_isThing, .selects RX12 yX12_isThing yX12_isThing, .initialized RX12] : List Cond)) [2, 3, 4, 5] rfl (by decide +kernel)) (goodIn_ca (goodIn_r (.code yX12_isThing cX12_isThing 3 (some .boolean) :: l_z_X12_isThing) [6, 7, 8, 9, 5, 10, 11] rfl (by decide +kernel)) (goodIn_in (in_z_X12_choose_X12) gd_X12))
set_option maxHeartbeats 4000000 in
set_option maxRecDepth 100000 in
theorem z_X12_choose (l : Launch) (dC : Nat → ClassId) (dI : Nat → Nat → Nat) (sz : Nat) (Ad0 : Nat) (Fs0 : List Value) (Ad1 : Nat) (Fa0 : Nat → Int32) (Ka0 : ClassId) (Va0 : Int32) (Va1 : Int32) (k_Fs0 : fh Fs0 150 [(48, .ref Ad1)]) (hz_Fa0 : ∀ j, Fa0 j = 0) : Met l yX12_choose w_z_X12_choose ({ frames := 2, cells := 0, slots := 0, locals := 43 }) (va_Pc [.ref Ad0, .int Va0, .int Va1, .int 0] (fun U => U.heap.size = sz ∧ Wd dC dI [(Ka0, .int)] (fun _ => True) [(Ad0, .inr (15, Fs0)), (Ad1, .inl (Ka0, 5, .inl Fa0))] U)) (va_Qi (fun (r : Int32) (u : List Value) => (Va0 < 0 ∧ r = 0 ∧ ow Fs0 (u) 150 [0] [(0, .int 0), (48, .ref Ad1)]) ∨ (¬ Va0 < 0 ∧ 4 ≤ Va0 ∧ r = 0 ∧ ow Fs0 (u) 150 [0] [(0, .int 0), (48, .ref Ad1)]) ∨ (¬ Va0 < 0 ∧ ¬ 4 ≤ Va0 ∧ Va1 < 0 ∧ r = 0 ∧ ow Fs0 (u) 150 [0] [(0, .int 0), (48, .ref Ad1)]) ∨ (¬ Va0 < 0 ∧ ¬ 4 ≤ Va0 ∧ ¬ Va1 < 0 ∧ 0 ≤ Va1 ∧ r = 0 ∧ ow Fs0 (u) 150 [0] [(0, .int 0), (48, .ref Ad1)])) (fun (u : List Value) t => Wd dC dI [(Ka0, .int)] (va_A [(Ad0, .inr (15, Fs0)), (Ad1, .inl (Ka0, 5, .inl Fa0))] sz) [(Ad0, .inr (15, (u))), (Ad1, .inl (Ka0, 5, .inl Fa0))] t) (va_A [(Ad0, .inr (15, Fs0)), (Ad1, .inl (Ka0, 5, .inl Fa0))] sz))  0 0 (va_A [(Ad0, .inr (15, Fs0)), (Ad1, .inl (Ka0, 5, .inl Fa0))] sz) := by
  refine Met.ofW (cc := cX12_choose) (maxL := 4) (ret := (some .boolean)) (by decide) rfl ?_
  intro p e s m args below meth c s₁ B hml hv
  obtain ⟨rfl, hsz, hP, hK, hD0⟩ := hv
  have hx := B.exec
  have hb := B.bytes
  have hr := B.returns
  have hts := atoms_spec (ws := w_z_X12_choose) B.pre
  have hown : s.vm.findClass RX12 = some m.cls := findClass_of_methodNamed B.named
  have hlocks := B.notSynchronized
  subst hsz
  have hD := hD0.self (sz := s.heap.size)
  generalize hAe : va_A [(Ad0, .inr (15, Fs0)), (Ad1, .inl (Ka0, 5, .inl Fa0))] s.heap.size = A at hD ⊢
  have hA : ∀ q : Nat, s.heap.size ≤ q → A q := fun q h => by rw [← hAe]; exact Or.inr h
  have hS : va_S A s.heap s.heap [] := va_S.rf
  have hl := lv_entry ([.ref Ad0, .int Va0, .int Va1, .int 0]) (n := 4) (Nat.le_of_ble_eq_true rfl)
  rw [lg_entry_eq]
  generalize (lg_sl ([.ref Ad0, .int Va0, .int Va1, .int 0]) ++ List.replicate (4 - (lg_sl ([.ref Ad0, .int Va0, .int Va1, .int 0])).length) Slot.unset).toArray = ls at hl ⊢
  have hl : lv_has ls 4 [(0, .ref Ad0), (1, .int Va0), (2, .int Va1), (3, .int 0)] := hl
  have o_Fs0 := ow_0 k_Fs0
  refine lv_aload_n hx hb dX12_choose_0 rfl (lv_at hl 0 rfl) ?_
  refine lv_iconst (v := 0) hx hb dX12_choose_1 (by decide) ?_
  refine va_put (D := (dC, dI)) (ci := 15) (v := .int 0) (ty := .int) (C := RX12) (T := TX12) (N := 150) hx hb hts (in_z_X12_choose_X12) tyX12 tyX12_ok nmX12 hown hK hP hD hS 0 rfl rfl 0 (by decide) (hts (.fieldLink RX12 388 "HeapWorksModel" "thrown" "I") (by decide +kernel)) (fun _ h9 => h9) rfl (by decide +kernel) rfl rfl (by rw [o_Fs0.2.1]; decide) dX12_choose_2 (fun H locs hP hD hS => ?_)
  have hP : va_P (dC, dI) vwCl [(Ad0, .inr (15, (Fs0.set 0 (.int 0)))), (Ad1, .inl (Ka0, 5, .inl Fa0))] H := hP
  have hD : va_D A [(Ad0, .inr (15, (Fs0.set 0 (.int 0)))), (Ad1, .inl (Ka0, 5, .inl Fa0))] := hD
  have o_s101 := ow_set o_Fs0 0 (.int 0) (by decide) (l' := [(0, .int 0), (48, .ref Ad1)]) (w' := [0]) rfl rfl
  generalize (Fs0.set 0 (.int 0)) = s101 at hP hD o_s101
  refine lv_aload_n hx hb dX12_choose_5 rfl (lv_at hl 0 rfl) ?_
  refine lv_iload_n hx hb dX12_choose_6 rfl (lv_at hl 1 rfl) ?_
  refine lv_iload_n hx hb dX12_choose_7 rfl (lv_at hl 2 rfl) ?_
  have hPc := hP.sub (ws' := [(Ad0, .inr (15, s101)), (Ad1, .inl (Ka0, 5, .inl Fa0))]) [0, 1] rfl
  have hDc := hD.sub (ws' := [(Ad0, .inr (15, s101)), (Ad1, .inl (Ka0, 5, .inl Fa0))]) [0, 1] (by decide) rfl
  have hKc := hK.sub (tys' := [(Ka0, .int)]) [0] rfl
  have hFc := va_free (wc := [(Ad0, .inr (15, s101)), (Ad1, .inl (Ka0, 5, .inl Fa0))]) hD hS hA [0, 1] rfl
  refine va_calli (va_runV (As := [.int Va0, .int Va1]) (rest := []) ⟨hx, hb, hml, hown, hts⟩ (z_X12_isThing l dC dI H.size Ad0 s101 Ad1 Fa0 Ka0 Va0 Va1 (fh_sub o_s101.2 [1] rfl) hz_Fa0) (cwV 2 hts g_z_X12_choose_z_X12_isThing_600 rfl rfl rfl (by decide +kernel) ⟨Nat.le_of_ble_eq_true rfl, Nat.le_of_ble_eq_true rfl⟩) ⟨fun a U g mk q => by obtain ⟨q0, q1, qP, qK, qD⟩ := q; exact ⟨q0, q1, qP, va_K.moved (u := U) (U := U.calling g mk a) (Vm.Alike.refl U.vm) qK, qD⟩, va_recv hK hP (ci := 15) (q0 := 0) rfl rfl, fun U hU hW => ⟨rfl, by rw [hU], by rw [hU]; exact hPc, va_K.moved hW.alike hKc, hDc.weaken (fun _ _ _ _ => trivial)⟩⟩ rfl rfl hl.1 rfl (lv_room (Nat.le_of_ble_eq_true rfl)) dX12_choose_8 ⟨Nat.le_of_ble_eq_true rfl, Nat.le_of_ble_eq_true rfl⟩) hS (fun q _ h => hFc q h) hFc (fun r102 u t H1 locs ht hvm hw hB hz1 hk1 hS => ?_)
  obtain ⟨hP1, hK1, hD1⟩ := hB
  rw [ht] at hP1
  try dsimp only at hw
  obtain ⟨hP, hD⟩ := va_join (wr := []) (w1 := [(Ad0, .inr (15, s101)), (Ad1, .inl (Ka0, 5, .inl Fa0))]) hP hD [0, 1] [] rfl rfl (by decide) (by decide) hk1 hFc hP1 hD1
  have hK := hK.sub (tys' := [(Ka0, .int)]) [0] rfl
  generalize H1 = H at hP hS ⊢
  have hP : va_P (dC, dI) vwCl [(Ad0, .inr (15, s101)), (Ad1, .inl (Ka0, 5, .inl Fa0))] H := hP
  have hD : va_D A [(Ad0, .inr (15, s101)), (Ad1, .inl (Ka0, 5, .inl Fa0))] := hD
  rcases hw with ⟨c103, er104⟩ | ⟨c105, c106, er107⟩ | ⟨c108, c109, c110, er111⟩ | ⟨c112, c113, c114, c115, er116⟩
  · skip
    subst er104
    refine lv_if_ne (tgt := 16) hx hb dX12_choose_11 (by decide) (fun c117 => absurd c117 (by decide)) (fun c117 => ?_)
    refine lv_iconst (v := 0) hx hb dX12_choose_14 (by decide) ?_
    have hP9 := hP.sub (ws' := [(Ad0, .inr (15, s101)), (Ad1, .inl (Ka0, 5, .inl Fa0))]) [0, 1] rfl
    have hD9 := hD.sub (ws' := [(Ad0, .inr (15, s101)), (Ad1, .inl (Ka0, 5, .inl Fa0))]) [0, 1] (by decide) rfl
    have hK9 := hK.sub (tys' := [(Ka0, .int)]) [0] rfl
    exact W.zret (v := 0) hx hb hr rfl (fun t ht hW => ⟨⟨0, s101, rfl, (Or.inl ⟨c103, rfl, o_s101⟩), by rw [ht]; exact hP9, va_K.moved hW.alike hK9, hD9⟩, hS.F ht⟩) hS.2.2 dX12_choose_15
  · skip
    subst er107
    refine lv_if_ne (tgt := 16) hx hb dX12_choose_11 (by decide) (fun c118 => absurd c118 (by decide)) (fun c118 => ?_)
    refine lv_iconst (v := 0) hx hb dX12_choose_14 (by decide) ?_
    have hP9 := hP.sub (ws' := [(Ad0, .inr (15, s101)), (Ad1, .inl (Ka0, 5, .inl Fa0))]) [0, 1] rfl
    have hD9 := hD.sub (ws' := [(Ad0, .inr (15, s101)), (Ad1, .inl (Ka0, 5, .inl Fa0))]) [0, 1] (by decide) rfl
    have hK9 := hK.sub (tys' := [(Ka0, .int)]) [0] rfl
    exact W.zret (v := 0) hx hb hr rfl (fun t ht hW => ⟨⟨0, s101, rfl, (Or.inr (Or.inl ⟨c105, c106, rfl, o_s101⟩)), by rw [ht]; exact hP9, va_K.moved hW.alike hK9, hD9⟩, hS.F ht⟩) hS.2.2 dX12_choose_15
  · skip
    subst er111
    refine lv_if_ne (tgt := 16) hx hb dX12_choose_11 (by decide) (fun c119 => absurd c119 (by decide)) (fun c119 => ?_)
    refine lv_iconst (v := 0) hx hb dX12_choose_14 (by decide) ?_
    have hP9 := hP.sub (ws' := [(Ad0, .inr (15, s101)), (Ad1, .inl (Ka0, 5, .inl Fa0))]) [0, 1] rfl
    have hD9 := hD.sub (ws' := [(Ad0, .inr (15, s101)), (Ad1, .inl (Ka0, 5, .inl Fa0))]) [0, 1] (by decide) rfl
    have hK9 := hK.sub (tys' := [(Ka0, .int)]) [0] rfl
    exact W.zret (v := 0) hx hb hr rfl (fun t ht hW => ⟨⟨0, s101, rfl, (Or.inr (Or.inr (Or.inl ⟨c108, c109, c110, rfl, o_s101⟩))), by rw [ht]; exact hP9, va_K.moved hW.alike hK9, hD9⟩, hS.F ht⟩) hS.2.2 dX12_choose_15
  · skip
    subst er116
    refine lv_if_ne (tgt := 16) hx hb dX12_choose_11 (by decide) (fun c120 => absurd c120 (by decide)) (fun c120 => ?_)
    refine lv_iconst (v := 0) hx hb dX12_choose_14 (by decide) ?_
    have hP9 := hP.sub (ws' := [(Ad0, .inr (15, s101)), (Ad1, .inl (Ka0, 5, .inl Fa0))]) [0, 1] rfl
    have hD9 := hD.sub (ws' := [(Ad0, .inr (15, s101)), (Ad1, .inl (Ka0, 5, .inl Fa0))]) [0, 1] (by decide) rfl
    have hK9 := hK.sub (tys' := [(Ka0, .int)]) [0] rfl
    exact W.zret (v := 0) hx hb hr rfl (fun t ht hW => ⟨⟨0, s101, rfl, (Or.inr (Or.inr (Or.inr (⟨c112, c113, c114, c115, rfl, o_s101⟩)))), by rw [ht]; exact hP9, va_K.moved hW.alike hK9, hD9⟩, hS.F ht⟩) hS.2.2 dX12_choose_15

def l_z_X12_choose_1 : List Cond := [.fieldLink RX12 388 "HeapWorksModel" "thrown" "I", .methodLink RX12 600 yX12_isThing, .instanceMethod yX12_isThing, .selects RX12 yX12_isThing yX12_isThing, .initialized RX12, .code yX12_isThing cX12_isThing 3 (some .boolean), .methodLink RX12 542 yX12_isPicture, .instanceMethod yX12_isPicture, .selects RX12 yX12_isPicture yX12_isPicture, .fieldLink RX12 183 "HeapWorksModel" "things" "[I", .code yX12_isPicture cX12_isPicture 2 (some .boolean)]
def w_z_X12_choose_1 : List Cond := .code yX12_choose cX12_choose 4 (some .boolean) :: (l_z_X12_choose_1 ++ (wsX120))
theorem in_z_X12_choose_1_X12 : ∀ w ∈ wsX120, w ∈ w_z_X12_choose_1 := fun w h => List.mem_cons_of_mem _ (List.mem_append_right _ (h))
theorem g_z_X12_choose_1_z_X12_isThing_600 : GoodIn w_z_X12_choose_1 (wsV RX12 600 RX12 yX12_isThing w_z_X12_isThing) := goodIn_app (goodIn_r (([.methodLink RX12 600 yX12_isThing, .instanceMethod yX12_isThing, .selects RX12 yX12_isThing yX12_isThing, .initialized RX12] : List Cond)) [2, 3, 4, 5] rfl (by decide +kernel)) (goodIn_ca (goodIn_r (.code yX12_isThing cX12_isThing 3 (some .boolean) :: l_z_X12_isThing) [6, 7, 8, 9, 5, 10, 11] rfl (by decide +kernel)) (goodIn_in (in_z_X12_choose_1_X12) gd_X12))
set_option maxHeartbeats 4000000 in
set_option maxRecDepth 100000 in
theorem z_X12_choose_1 (l : Launch) (dC : Nat → ClassId) (dI : Nat → Nat → Nat) (sz : Nat) (Ad0 : Nat) (Fs0 : List Value) (Ad1 : Nat) (Fa0 : Nat → Int32) (Ka0 : ClassId) (Va0 : Int32) (Va1 : Int32) (k_Fs0 : fh Fs0 150 [(48, .ref Ad1)]) (hz_Fa0 : ∀ j, Fa0 j = 0) : Met l yX12_choose w_z_X12_choose_1 ({ frames := 2, cells := 0, slots := 0, locals := 43 }) (va_Pc [.ref Ad0, .int Va0, .int Va1, .int 1] (fun U => U.heap.size = sz ∧ Wd dC dI [(Ka0, .int)] (fun _ => True) [(Ad0, .inr (15, Fs0)), (Ad1, .inl (Ka0, 5, .inl Fa0))] U)) (va_Qi (fun (r : Int32) (u : List Value) => (Va0 < 0 ∧ r = 0 ∧ ow Fs0 (u) 150 [0] [(0, .int 0), (48, .ref Ad1)]) ∨ (¬ Va0 < 0 ∧ 4 ≤ Va0 ∧ r = 0 ∧ ow Fs0 (u) 150 [0] [(0, .int 0), (48, .ref Ad1)]) ∨ (¬ Va0 < 0 ∧ ¬ 4 ≤ Va0 ∧ Va1 < 0 ∧ r = 0 ∧ ow Fs0 (u) 150 [0] [(0, .int 0), (48, .ref Ad1)]) ∨ (¬ Va0 < 0 ∧ ¬ 4 ≤ Va0 ∧ ¬ Va1 < 0 ∧ 0 ≤ Va1 ∧ r = 0 ∧ ow Fs0 (u) 150 [0] [(0, .int 0), (48, .ref Ad1)])) (fun (u : List Value) t => Wd dC dI [(Ka0, .int)] (va_A [(Ad0, .inr (15, Fs0)), (Ad1, .inl (Ka0, 5, .inl Fa0))] sz) [(Ad0, .inr (15, (u))), (Ad1, .inl (Ka0, 5, .inl Fa0))] t) (va_A [(Ad0, .inr (15, Fs0)), (Ad1, .inl (Ka0, 5, .inl Fa0))] sz))  0 0 (va_A [(Ad0, .inr (15, Fs0)), (Ad1, .inl (Ka0, 5, .inl Fa0))] sz) := by
  refine Met.ofW (cc := cX12_choose) (maxL := 4) (ret := (some .boolean)) (by decide) rfl ?_
  intro p e s m args below meth c s₁ B hml hv
  obtain ⟨rfl, hsz, hP, hK, hD0⟩ := hv
  have hx := B.exec
  have hb := B.bytes
  have hr := B.returns
  have hts := atoms_spec (ws := w_z_X12_choose_1) B.pre
  have hown : s.vm.findClass RX12 = some m.cls := findClass_of_methodNamed B.named
  have hlocks := B.notSynchronized
  subst hsz
  have hD := hD0.self (sz := s.heap.size)
  generalize hAe : va_A [(Ad0, .inr (15, Fs0)), (Ad1, .inl (Ka0, 5, .inl Fa0))] s.heap.size = A at hD ⊢
  have hA : ∀ q : Nat, s.heap.size ≤ q → A q := fun q h => by rw [← hAe]; exact Or.inr h
  have hS : va_S A s.heap s.heap [] := va_S.rf
  have hl := lv_entry ([.ref Ad0, .int Va0, .int Va1, .int 1]) (n := 4) (Nat.le_of_ble_eq_true rfl)
  rw [lg_entry_eq]
  generalize (lg_sl ([.ref Ad0, .int Va0, .int Va1, .int 1]) ++ List.replicate (4 - (lg_sl ([.ref Ad0, .int Va0, .int Va1, .int 1])).length) Slot.unset).toArray = ls at hl ⊢
  have hl : lv_has ls 4 [(0, .ref Ad0), (1, .int Va0), (2, .int Va1), (3, .int 1)] := hl
  have o_Fs0 := ow_0 k_Fs0
  refine lv_aload_n hx hb dX12_choose_0 rfl (lv_at hl 0 rfl) ?_
  refine lv_iconst (v := 0) hx hb dX12_choose_1 (by decide) ?_
  refine va_put (D := (dC, dI)) (ci := 15) (v := .int 0) (ty := .int) (C := RX12) (T := TX12) (N := 150) hx hb hts (in_z_X12_choose_1_X12) tyX12 tyX12_ok nmX12 hown hK hP hD hS 0 rfl rfl 0 (by decide) (hts (.fieldLink RX12 388 "HeapWorksModel" "thrown" "I") (by decide +kernel)) (fun _ h9 => h9) rfl (by decide +kernel) rfl rfl (by rw [o_Fs0.2.1]; decide) dX12_choose_2 (fun H locs hP hD hS => ?_)
  have hP : va_P (dC, dI) vwCl [(Ad0, .inr (15, (Fs0.set 0 (.int 0)))), (Ad1, .inl (Ka0, 5, .inl Fa0))] H := hP
  have hD : va_D A [(Ad0, .inr (15, (Fs0.set 0 (.int 0)))), (Ad1, .inl (Ka0, 5, .inl Fa0))] := hD
  have o_s101 := ow_set o_Fs0 0 (.int 0) (by decide) (l' := [(0, .int 0), (48, .ref Ad1)]) (w' := [0]) rfl rfl
  generalize (Fs0.set 0 (.int 0)) = s101 at hP hD o_s101
  refine lv_aload_n hx hb dX12_choose_5 rfl (lv_at hl 0 rfl) ?_
  refine lv_iload_n hx hb dX12_choose_6 rfl (lv_at hl 1 rfl) ?_
  refine lv_iload_n hx hb dX12_choose_7 rfl (lv_at hl 2 rfl) ?_
  have hPc := hP.sub (ws' := [(Ad0, .inr (15, s101)), (Ad1, .inl (Ka0, 5, .inl Fa0))]) [0, 1] rfl
  have hDc := hD.sub (ws' := [(Ad0, .inr (15, s101)), (Ad1, .inl (Ka0, 5, .inl Fa0))]) [0, 1] (by decide) rfl
  have hKc := hK.sub (tys' := [(Ka0, .int)]) [0] rfl
  have hFc := va_free (wc := [(Ad0, .inr (15, s101)), (Ad1, .inl (Ka0, 5, .inl Fa0))]) hD hS hA [0, 1] rfl
  refine va_calli (va_runV (As := [.int Va0, .int Va1]) (rest := []) ⟨hx, hb, hml, hown, hts⟩ (z_X12_isThing l dC dI H.size Ad0 s101 Ad1 Fa0 Ka0 Va0 Va1 (fh_sub o_s101.2 [1] rfl) hz_Fa0) (cwV 2 hts g_z_X12_choose_1_z_X12_isThing_600 rfl rfl rfl (by decide +kernel) ⟨Nat.le_of_ble_eq_true rfl, Nat.le_of_ble_eq_true rfl⟩) ⟨fun a U g mk q => by obtain ⟨q0, q1, qP, qK, qD⟩ := q; exact ⟨q0, q1, qP, va_K.moved (u := U) (U := U.calling g mk a) (Vm.Alike.refl U.vm) qK, qD⟩, va_recv hK hP (ci := 15) (q0 := 0) rfl rfl, fun U hU hW => ⟨rfl, by rw [hU], by rw [hU]; exact hPc, va_K.moved hW.alike hKc, hDc.weaken (fun _ _ _ _ => trivial)⟩⟩ rfl rfl hl.1 rfl (lv_room (Nat.le_of_ble_eq_true rfl)) dX12_choose_8 ⟨Nat.le_of_ble_eq_true rfl, Nat.le_of_ble_eq_true rfl⟩) hS (fun q _ h => hFc q h) hFc (fun r102 u t H1 locs ht hvm hw hB hz1 hk1 hS => ?_)
  obtain ⟨hP1, hK1, hD1⟩ := hB
  rw [ht] at hP1
  try dsimp only at hw
  obtain ⟨hP, hD⟩ := va_join (wr := []) (w1 := [(Ad0, .inr (15, s101)), (Ad1, .inl (Ka0, 5, .inl Fa0))]) hP hD [0, 1] [] rfl rfl (by decide) (by decide) hk1 hFc hP1 hD1
  have hK := hK.sub (tys' := [(Ka0, .int)]) [0] rfl
  generalize H1 = H at hP hS ⊢
  have hP : va_P (dC, dI) vwCl [(Ad0, .inr (15, s101)), (Ad1, .inl (Ka0, 5, .inl Fa0))] H := hP
  have hD : va_D A [(Ad0, .inr (15, s101)), (Ad1, .inl (Ka0, 5, .inl Fa0))] := hD
  rcases hw with ⟨c103, er104⟩ | ⟨c105, c106, er107⟩ | ⟨c108, c109, c110, er111⟩ | ⟨c112, c113, c114, c115, er116⟩
  · skip
    subst er104
    refine lv_if_ne (tgt := 16) hx hb dX12_choose_11 (by decide) (fun c117 => absurd c117 (by decide)) (fun c117 => ?_)
    refine lv_iconst (v := 0) hx hb dX12_choose_14 (by decide) ?_
    have hP9 := hP.sub (ws' := [(Ad0, .inr (15, s101)), (Ad1, .inl (Ka0, 5, .inl Fa0))]) [0, 1] rfl
    have hD9 := hD.sub (ws' := [(Ad0, .inr (15, s101)), (Ad1, .inl (Ka0, 5, .inl Fa0))]) [0, 1] (by decide) rfl
    have hK9 := hK.sub (tys' := [(Ka0, .int)]) [0] rfl
    exact W.zret (v := 0) hx hb hr rfl (fun t ht hW => ⟨⟨0, s101, rfl, (Or.inl ⟨c103, rfl, o_s101⟩), by rw [ht]; exact hP9, va_K.moved hW.alike hK9, hD9⟩, hS.F ht⟩) hS.2.2 dX12_choose_15
  · skip
    subst er107
    refine lv_if_ne (tgt := 16) hx hb dX12_choose_11 (by decide) (fun c118 => absurd c118 (by decide)) (fun c118 => ?_)
    refine lv_iconst (v := 0) hx hb dX12_choose_14 (by decide) ?_
    have hP9 := hP.sub (ws' := [(Ad0, .inr (15, s101)), (Ad1, .inl (Ka0, 5, .inl Fa0))]) [0, 1] rfl
    have hD9 := hD.sub (ws' := [(Ad0, .inr (15, s101)), (Ad1, .inl (Ka0, 5, .inl Fa0))]) [0, 1] (by decide) rfl
    have hK9 := hK.sub (tys' := [(Ka0, .int)]) [0] rfl
    exact W.zret (v := 0) hx hb hr rfl (fun t ht hW => ⟨⟨0, s101, rfl, (Or.inr (Or.inl ⟨c105, c106, rfl, o_s101⟩)), by rw [ht]; exact hP9, va_K.moved hW.alike hK9, hD9⟩, hS.F ht⟩) hS.2.2 dX12_choose_15
  · skip
    subst er111
    refine lv_if_ne (tgt := 16) hx hb dX12_choose_11 (by decide) (fun c119 => absurd c119 (by decide)) (fun c119 => ?_)
    refine lv_iconst (v := 0) hx hb dX12_choose_14 (by decide) ?_
    have hP9 := hP.sub (ws' := [(Ad0, .inr (15, s101)), (Ad1, .inl (Ka0, 5, .inl Fa0))]) [0, 1] rfl
    have hD9 := hD.sub (ws' := [(Ad0, .inr (15, s101)), (Ad1, .inl (Ka0, 5, .inl Fa0))]) [0, 1] (by decide) rfl
    have hK9 := hK.sub (tys' := [(Ka0, .int)]) [0] rfl
    exact W.zret (v := 0) hx hb hr rfl (fun t ht hW => ⟨⟨0, s101, rfl, (Or.inr (Or.inr (Or.inl ⟨c108, c109, c110, rfl, o_s101⟩))), by rw [ht]; exact hP9, va_K.moved hW.alike hK9, hD9⟩, hS.F ht⟩) hS.2.2 dX12_choose_15
  · skip
    subst er116
    refine lv_if_ne (tgt := 16) hx hb dX12_choose_11 (by decide) (fun c120 => absurd c120 (by decide)) (fun c120 => ?_)
    refine lv_iconst (v := 0) hx hb dX12_choose_14 (by decide) ?_
    have hP9 := hP.sub (ws' := [(Ad0, .inr (15, s101)), (Ad1, .inl (Ka0, 5, .inl Fa0))]) [0, 1] rfl
    have hD9 := hD.sub (ws' := [(Ad0, .inr (15, s101)), (Ad1, .inl (Ka0, 5, .inl Fa0))]) [0, 1] (by decide) rfl
    have hK9 := hK.sub (tys' := [(Ka0, .int)]) [0] rfl
    exact W.zret (v := 0) hx hb hr rfl (fun t ht hW => ⟨⟨0, s101, rfl, (Or.inr (Or.inr (Or.inr (⟨c112, c113, c114, c115, rfl, o_s101⟩)))), by rw [ht]; exact hP9, va_K.moved hW.alike hK9, hD9⟩, hS.F ht⟩) hS.2.2 dX12_choose_15

def l_z_X12_reach : List Cond := [.fieldLink RX12 183 "HeapWorksModel" "things" "[I", .fieldLink RX12 581 "HeapWorksModel" "queued" "I", .fieldLink RX12 234 "HeapWorksModel" "rootMany" "[I"]
def w_z_X12_reach : List Cond := .code yX12_reach cX12_reach 6 none :: (l_z_X12_reach ++ (wsX120))
theorem in_z_X12_reach_X12 : ∀ w ∈ wsX120, w ∈ w_z_X12_reach := fun w h => List.mem_cons_of_mem _ (List.mem_append_right _ (h))
set_option maxHeartbeats 4000000 in
set_option maxRecDepth 100000 in
theorem z_X12_reach (l : Launch) (dC : Nat → ClassId) (dI : Nat → Nat → Nat) (sz : Nat) (Ad0 : Nat) (Fs0 : List Value) (Ad1 : Nat) (Fa0 : Nat → Int32) (Ka0 : ClassId) (Ad2 : Nat) (Fa1 : Nat → Int32) (Ka1 : ClassId) (Va0 : Int32) (k_Fs0 : fh Fs0 150 [(48, .ref Ad1), (65, .ref Ad2), (73, .int 0)]) (hz_Fa0 : ∀ j, Fa0 j = 0) (hz_Fa1 : ∀ j, Fa1 j = 0) (gv_Va0 : (0 : Int) ≤ Va0.toInt ∧ Va0.toInt ≤ 3) : Met l yX12_reach w_z_X12_reach ({ frames := 0, cells := 0, slots := 0, locals := 0 }) (va_Pc [.ref Ad0, .int Va0, .int (-1), .int (-1), .int 1] (fun U => U.heap.size = sz ∧ Wd dC dI [(Ka0, .int), (Ka1, .int)] (fun _ => True) [(Ad0, .inr (15, Fs0)), (Ad1, .inl (Ka0, 5, .inl Fa0)), (Ad2, .inl (Ka1, 5, .inl Fa1))] U)) (va_Qv (fun (u : List Value) => ow Fs0 (u) 150 [73] [(73, .int 0), (48, .ref Ad1), (65, .ref Ad2)]) (fun (u : List Value) t => Wd dC dI [(Ka0, .int), (Ka1, .int)] (va_A [(Ad0, .inr (15, Fs0)), (Ad1, .inl (Ka0, 5, .inl Fa0)), (Ad2, .inl (Ka1, 5, .inl Fa1))] sz) [(Ad0, .inr (15, (u))), (Ad1, .inl (Ka0, 5, .inl Fa0)), (Ad2, .inl (Ka1, 5, .inl Fa1))] t) (va_A [(Ad0, .inr (15, Fs0)), (Ad1, .inl (Ka0, 5, .inl Fa0)), (Ad2, .inl (Ka1, 5, .inl Fa1))] sz))  0 0 (va_A [(Ad0, .inr (15, Fs0)), (Ad1, .inl (Ka0, 5, .inl Fa0)), (Ad2, .inl (Ka1, 5, .inl Fa1))] sz) := by
  refine Met.ofW (cc := cX12_reach) (maxL := 6) (ret := none) (by decide) rfl ?_
  intro p e s m args below meth c s₁ B hml hv
  obtain ⟨rfl, hsz, hP, hK, hD0⟩ := hv
  have hx := B.exec
  have hb := B.bytes
  have hr := B.returns
  have hts := atoms_spec (ws := w_z_X12_reach) B.pre
  have hown : s.vm.findClass RX12 = some m.cls := findClass_of_methodNamed B.named
  have hlocks := B.notSynchronized
  subst hsz
  have hD := hD0.self (sz := s.heap.size)
  generalize hAe : va_A [(Ad0, .inr (15, Fs0)), (Ad1, .inl (Ka0, 5, .inl Fa0)), (Ad2, .inl (Ka1, 5, .inl Fa1))] s.heap.size = A at hD ⊢
  have hA : ∀ q : Nat, s.heap.size ≤ q → A q := fun q h => by rw [← hAe]; exact Or.inr h
  have hS : va_S A s.heap s.heap [] := va_S.rf
  have hl := lv_entry ([.ref Ad0, .int Va0, .int (-1), .int (-1), .int 1]) (n := 6) (Nat.le_of_ble_eq_true rfl)
  rw [lg_entry_eq]
  generalize (lg_sl ([.ref Ad0, .int Va0, .int (-1), .int (-1), .int 1]) ++ List.replicate (6 - (lg_sl ([.ref Ad0, .int Va0, .int (-1), .int (-1), .int 1])).length) Slot.unset).toArray = ls at hl ⊢
  have hl : lv_has ls 6 [(0, .ref Ad0), (1, .int Va0), (2, .int (-1)), (3, .int (-1)), (4, .int 1)] := hl
  have o_Fs0 := ow_0 k_Fs0
  refine lv_iconst (v := 0) hx hb dX12_reach_0 (by decide) ?_
  refine lv_istore (lv' := [(5, .int 0), (0, .ref Ad0), (1, .int Va0), (2, .int (-1)), (3, .int (-1)), (4, .int 1)]) hx hb dX12_reach_1 hl (by decide) rfl (fun ls hl => ?_)
  refine lv_iload hx hb dX12_reach_3 (lv_at hl 0 rfl) ?_
  refine lv_aload_n hx hb dX12_reach_5 rfl (lv_at hl 1 rfl) ?_
  refine va_get (D := (dC, dI)) (ci := 15) (v := .ref Ad1) (C := RX12) (T := TX12) (N := 150) hx hb hts (in_z_X12_reach_X12) hown hK hP 0 rfl rfl 48 (by decide) (hts (.fieldLink RX12 183 "HeapWorksModel" "things" "[I") (by decide +kernel)) (fun _ h9 => h9) (ow_at o_Fs0 0 rfl) dX12_reach_6 ?_
  refine lv_iload_n hx hb dX12_reach_9 rfl (lv_at hl 2 rfl) ?_
  refine va_iald hx hb hK hP 1 0 rfl rfl (by rw [vp_in_iff]; (try simp only [i_lt, i_le, i_eq] at gv_Va0); omega) dX12_reach_10 ?_
  refine lv_topi (fun x101 ex101 => ?_)
  obtain rfl : x101 = 0 := ex101.trans (hz_Fa0 _)
  refine lv_icmp_ge (tgt := 28) hx hb dX12_reach_11 (by decide) (fun c102 => ?_) (fun c102 => absurd c102 (by decide))
  refine lv_aload_n hx hb dX12_reach_28 rfl (lv_at hl 1 rfl) ?_
  refine lv_iconst (v := 0) hx hb dX12_reach_29 (by decide) ?_
  refine va_put (D := (dC, dI)) (ci := 15) (v := .int 0) (ty := .int) (C := RX12) (T := TX12) (N := 150) hx hb hts (in_z_X12_reach_X12) tyX12 tyX12_ok nmX12 hown hK hP hD hS 0 rfl rfl 73 (by decide) (hts (.fieldLink RX12 581 "HeapWorksModel" "queued" "I") (by decide +kernel)) (fun _ h9 => h9) rfl (by decide +kernel) rfl rfl (by rw [o_Fs0.2.1]; decide) dX12_reach_30 (fun H locs hP hD hS => ?_)
  have hP : va_P (dC, dI) vwCl [(Ad0, .inr (15, (Fs0.set 73 (.int 0)))), (Ad1, .inl (Ka0, 5, .inl Fa0)), (Ad2, .inl (Ka1, 5, .inl Fa1))] H := hP
  have hD : va_D A [(Ad0, .inr (15, (Fs0.set 73 (.int 0)))), (Ad1, .inl (Ka0, 5, .inl Fa0)), (Ad2, .inl (Ka1, 5, .inl Fa1))] := hD
  have o_s103 := ow_set o_Fs0 73 (.int 0) (by decide) (l' := [(73, .int 0), (48, .ref Ad1), (65, .ref Ad2)]) (w' := [73]) rfl rfl
  generalize (Fs0.set 73 (.int 0)) = s103 at hP hD o_s103
  refine lv_iload_n hx hb dX12_reach_33 rfl (lv_at hl 3 rfl) ?_
  refine lv_iconst (v := (-1)) hx hb dX12_reach_34 (by decide) ?_
  refine lv_icmp_ne (tgt := 82) hx hb dX12_reach_35 (by decide) (fun c104 => absurd c104 (by decide)) (fun c104 => ?_)
  refine lv_iconst (v := 0) hx hb dX12_reach_38 (by decide) ?_
  refine lv_istore (lv' := [(5, .int 0), (0, .ref Ad0), (1, .int Va0), (2, .int (-1)), (3, .int (-1)), (4, .int 1)]) hx hb dX12_reach_39 hl (by decide) rfl (fun ls hl => ?_)
  refine lv_iload hx hb dX12_reach_41 (lv_at hl 0 rfl) ?_
  refine lv_aload_n hx hb dX12_reach_43 rfl (lv_at hl 1 rfl) ?_
  refine va_get (D := (dC, dI)) (ci := 15) (v := .ref Ad2) (C := RX12) (T := TX12) (N := 150) hx hb hts (in_z_X12_reach_X12) hown hK hP 0 rfl rfl 65 (by decide) (hts (.fieldLink RX12 234 "HeapWorksModel" "rootMany" "[I") (by decide +kernel)) (fun _ h9 => h9) (ow_at o_s103 2 rfl) dX12_reach_44 ?_
  refine lv_iload_n hx hb dX12_reach_47 rfl (lv_at hl 2 rfl) ?_
  refine va_iald hx hb hK hP 2 1 rfl rfl (by rw [vp_in_iff]; (try simp only [i_lt, i_le, i_eq] at gv_Va0); omega) dX12_reach_48 ?_
  refine lv_topi (fun x105 ex105 => ?_)
  obtain rfl : x105 = 0 := ex105.trans (hz_Fa1 _)
  refine lv_icmp_ge (tgt := 79) hx hb dX12_reach_49 (by decide) (fun c106 => ?_) (fun c106 => absurd c106 (by decide))
  refine lv_goto (tgt := 91) hx hb dX12_reach_79 (by decide) ?_
  refine lv_iconst (v := 0) hx hb dX12_reach_91 (by decide) ?_
  refine lv_istore (lv' := [(5, .int 0), (0, .ref Ad0), (1, .int Va0), (2, .int (-1)), (3, .int (-1)), (4, .int 1)]) hx hb dX12_reach_92 hl (by decide) rfl (fun ls hl => ?_)
  refine lv_iload hx hb dX12_reach_94 (lv_at hl 0 rfl) ?_
  refine lv_aload_n hx hb dX12_reach_96 rfl (lv_at hl 1 rfl) ?_
  refine va_get (D := (dC, dI)) (ci := 15) (v := .int 0) (C := RX12) (T := TX12) (N := 150) hx hb hts (in_z_X12_reach_X12) hown hK hP 0 rfl rfl 73 (by decide) (hts (.fieldLink RX12 581 "HeapWorksModel" "queued" "I") (by decide +kernel)) (fun _ h9 => h9) (ow_at o_s103 0 rfl) dX12_reach_97 ?_
  refine lv_icmp_ge (tgt := 124) hx hb dX12_reach_100 (by decide) (fun c107 => ?_) (fun c107 => absurd c107 (by decide))
  have hP9 := hP.sub (ws' := [(Ad0, .inr (15, s103)), (Ad1, .inl (Ka0, 5, .inl Fa0)), (Ad2, .inl (Ka1, 5, .inl Fa1))]) [0, 1, 2] rfl
  have hD9 := hD.sub (ws' := [(Ad0, .inr (15, s103)), (Ad1, .inl (Ka0, 5, .inl Fa0)), (Ad2, .inl (Ka1, 5, .inl Fa1))]) [0, 1, 2] (by decide) rfl
  have hK9 := hK.sub (tys' := [(Ka0, .int), (Ka1, .int)]) [0, 1] rfl
  exact W.vret hx hb hr (fun t ht hW => ⟨⟨s103, rfl, o_s103, by rw [ht]; exact hP9, va_K.moved hW.alike hK9, hD9⟩, hS.F ht⟩) hS.2.2 dX12_reach_124

def l_z_X12_lost : List Cond := [.methodLink RX12 542 yX12_isPicture, .instanceMethod yX12_isPicture, .selects RX12 yX12_isPicture yX12_isPicture, .initialized RX12, .fieldLink RX12 388 "HeapWorksModel" "thrown" "I", .methodLink RX12 591 yX12_reach, .instanceMethod yX12_reach, .selects RX12 yX12_reach yX12_reach, .fieldLink RX12 225 "HeapWorksModel" "lostMany" "[I", .fieldLink RX12 183 "HeapWorksModel" "things" "[I", .code yX12_isPicture cX12_isPicture 2 (some .boolean), .code yX12_reach cX12_reach 6 none, .fieldLink RX12 581 "HeapWorksModel" "queued" "I", .fieldLink RX12 234 "HeapWorksModel" "rootMany" "[I"]
def w_z_X12_lost : List Cond := .code yX12_lost cX12_lost 3 (some .int) :: (l_z_X12_lost ++ (wsX120))
theorem in_z_X12_lost_X12 : ∀ w ∈ wsX120, w ∈ w_z_X12_lost := fun w h => List.mem_cons_of_mem _ (List.mem_append_right _ (h))
theorem g_z_X12_lost_z_X12_isPicture_542 : GoodIn w_z_X12_lost (wsV RX12 542 RX12 yX12_isPicture w_z_X12_isPicture) := goodIn_app (goodIn_r (([.methodLink RX12 542 yX12_isPicture, .instanceMethod yX12_isPicture, .selects RX12 yX12_isPicture yX12_isPicture, .initialized RX12] : List Cond)) [1, 2, 3, 4] rfl (by decide +kernel)) (goodIn_r (.code yX12_isPicture cX12_isPicture 2 (some .boolean) :: l_z_X12_isPicture) [11] rfl (by decide +kernel))
theorem g_z_X12_lost_z_X12_reach_591 : GoodIn w_z_X12_lost (wsV RX12 591 RX12 yX12_reach w_z_X12_reach) := goodIn_app (goodIn_r (([.methodLink RX12 591 yX12_reach, .instanceMethod yX12_reach, .selects RX12 yX12_reach yX12_reach, .initialized RX12] : List Cond)) [6, 7, 8, 4] rfl (by decide +kernel)) (goodIn_ca (goodIn_r (.code yX12_reach cX12_reach 6 none :: l_z_X12_reach) [12, 10, 13, 14] rfl (by decide +kernel)) (goodIn_in (in_z_X12_lost_X12) gd_X12))
set_option maxHeartbeats 4000000 in
set_option maxRecDepth 100000 in
theorem z_X12_lost (l : Launch) (dC : Nat → ClassId) (dI : Nat → Nat → Nat) (sz : Nat) (Ad0 : Nat) (Fs0 : List Value) (Ad1 : Nat) (Fa0 : Nat → Int32) (Ka0 : ClassId) (Ad2 : Nat) (Fa1 : Nat → Int32) (Ka1 : ClassId) (Ad3 : Nat) (Fa2 : Nat → Int32) (Ka2 : ClassId) (Va0 : Int32) (k_Fs0 : fh Fs0 150 [(0, .int 0), (48, .ref Ad1), (62, .ref Ad2), (65, .ref Ad3), (73, .int 0)]) (hz_Fa0 : ∀ j, Fa0 j = 0) (hz_Fa1 : ∀ j, Fa1 j = 0) (hz_Fa2 : ∀ j, Fa2 j = 0) : Met l yX12_lost w_z_X12_lost ({ frames := 1, cells := 0, slots := 0, locals := 25 }) (va_Pc [.ref Ad0, .int Va0] (fun U => U.heap.size = sz ∧ Wd dC dI [(Ka0, .int), (Ka1, .int), (Ka2, .int)] (fun _ => True) [(Ad0, .inr (15, Fs0)), (Ad1, .inl (Ka0, 5, .inl Fa0)), (Ad2, .inl (Ka1, 5, .inl Fa1)), (Ad3, .inl (Ka2, 5, .inl Fa2))] U)) (va_Qi (fun (r : Int32) (u : List Value × (Nat → Int32)) => (Va0 < 0 ∧ r = 0 ∧ ow Fs0 (u.1) 150 [0] [(0, .int 1), (48, .ref Ad1), (62, .ref Ad2), (65, .ref Ad3), (73, .int 0)] ∧ (∀ j, (u.2) j = 0)) ∨ (¬ Va0 < 0 ∧ 4 ≤ Va0 ∧ r = 0 ∧ ow Fs0 (u.1) 150 [0] [(0, .int 1), (48, .ref Ad1), (62, .ref Ad2), (65, .ref Ad3), (73, .int 0)] ∧ (∀ j, (u.2) j = 0)) ∨ (¬ Va0 < 0 ∧ ¬ 4 ≤ Va0 ∧ r = 0 ∧ ow Fs0 (u.1) 150 [73, 0] [(73, .int 0), (48, .ref Ad1), (65, .ref Ad3), (0, .int 0), (48, .ref Ad1), (62, .ref Ad2), (65, .ref Ad3)] ∧ (∀ j, (u.2) j = 0) ∧ (u.2) Va0.toNatClampNeg = 0)) (fun (u : List Value × (Nat → Int32)) t => Wd dC dI [(Ka0, .int), (Ka1, .int), (Ka2, .int)] (va_A [(Ad0, .inr (15, Fs0)), (Ad1, .inl (Ka0, 5, .inl Fa0)), (Ad2, .inl (Ka1, 5, .inl Fa1)), (Ad3, .inl (Ka2, 5, .inl Fa2))] sz) [(Ad0, .inr (15, (u.1))), (Ad1, .inl (Ka0, 5, .inl Fa0)), (Ad2, .inl (Ka1, 5, .inl ((u.2)))), (Ad3, .inl (Ka2, 5, .inl Fa2))] t) (va_A [(Ad0, .inr (15, Fs0)), (Ad1, .inl (Ka0, 5, .inl Fa0)), (Ad2, .inl (Ka1, 5, .inl Fa1)), (Ad3, .inl (Ka2, 5, .inl Fa2))] sz))  0 0 (va_A [(Ad0, .inr (15, Fs0)), (Ad1, .inl (Ka0, 5, .inl Fa0)), (Ad2, .inl (Ka1, 5, .inl Fa1)), (Ad3, .inl (Ka2, 5, .inl Fa2))] sz) := by
  refine Met.ofW (cc := cX12_lost) (maxL := 3) (ret := (some .int)) (by decide) rfl ?_
  intro p e s m args below meth c s₁ B hml hv
  obtain ⟨rfl, hsz, hP, hK, hD0⟩ := hv
  have hx := B.exec
  have hb := B.bytes
  have hr := B.returns
  have hts := atoms_spec (ws := w_z_X12_lost) B.pre
  have hown : s.vm.findClass RX12 = some m.cls := findClass_of_methodNamed B.named
  have hlocks := B.notSynchronized
  subst hsz
  have hD := hD0.self (sz := s.heap.size)
  generalize hAe : va_A [(Ad0, .inr (15, Fs0)), (Ad1, .inl (Ka0, 5, .inl Fa0)), (Ad2, .inl (Ka1, 5, .inl Fa1)), (Ad3, .inl (Ka2, 5, .inl Fa2))] s.heap.size = A at hD ⊢
  have hA : ∀ q : Nat, s.heap.size ≤ q → A q := fun q h => by rw [← hAe]; exact Or.inr h
  have hS : va_S A s.heap s.heap [] := va_S.rf
  have hl := lv_entry ([.ref Ad0, .int Va0]) (n := 3) (Nat.le_of_ble_eq_true rfl)
  rw [lg_entry_eq]
  generalize (lg_sl ([.ref Ad0, .int Va0]) ++ List.replicate (3 - (lg_sl ([.ref Ad0, .int Va0])).length) Slot.unset).toArray = ls at hl ⊢
  have hl : lv_has ls 3 [(0, .ref Ad0), (1, .int Va0)] := hl
  have o_Fs0 := ow_0 k_Fs0
  refine lv_aload_n hx hb dX12_lost_0 rfl (lv_at hl 0 rfl) ?_
  refine lv_aload_n hx hb dX12_lost_1 rfl (lv_at hl 0 rfl) ?_
  refine lv_iload_n hx hb dX12_lost_2 rfl (lv_at hl 1 rfl) ?_
  have hPc := hP.sub (ws' := []) [] rfl
  have hDc := hD.sub (ws' := []) [] (by decide) rfl
  have hKc := hK.sub (tys' := []) [] rfl
  have hFc := va_free (wc := []) hD hS hA [] rfl
  refine va_calli (va_runV (As := [.int Va0]) (rest := [.ref Ad0]) ⟨hx, hb, hml, hown, hts⟩ (z_X12_isPicture l dC dI s.heap.size Ad0 Va0  ) (cwV 1 hts g_z_X12_lost_z_X12_isPicture_542 rfl rfl rfl (by decide +kernel) ⟨Nat.le_of_ble_eq_true rfl, Nat.le_of_ble_eq_true rfl⟩) ⟨fun a U g mk q => by obtain ⟨q0, q1, qP, qK, qD⟩ := q; exact ⟨q0, q1, qP, va_K.moved (u := U) (U := U.calling g mk a) (Vm.Alike.refl U.vm) qK, qD⟩, va_recv hK hP (ci := 15) (q0 := 0) rfl rfl, fun U hU hW => ⟨rfl, by rw [hU], by rw [hU]; exact hPc, va_K.moved hW.alike hKc, hDc.weaken (fun _ _ _ _ => trivial)⟩⟩ rfl rfl hl.1 rfl (lv_room (Nat.le_of_ble_eq_true rfl)) dX12_lost_3 ⟨Nat.le_of_ble_eq_true rfl, Nat.le_of_ble_eq_true rfl⟩) hS (fun q _ h => hFc q h) hFc (fun r101 u t H1 locs ht hvm hw hB hz1 hk1 hS => ?_)
  obtain ⟨hP1, hK1, hD1⟩ := hB
  rw [ht] at hP1
  try dsimp only at hw
  obtain ⟨hP, hD⟩ := va_join (wr := [(Ad0, .inr (15, Fs0)), (Ad1, .inl (Ka0, 5, .inl Fa0)), (Ad2, .inl (Ka1, 5, .inl Fa1)), (Ad3, .inl (Ka2, 5, .inl Fa2))]) (w1 := []) hP hD [] [0, 1, 2, 3] rfl rfl (by decide) (by decide) hk1 hFc hP1 hD1
  have hK := hK.sub (tys' := [(Ka0, .int), (Ka1, .int), (Ka2, .int)]) [0, 1, 2] rfl
  generalize H1 = H at hP hS ⊢
  have hP : va_P (dC, dI) vwCl [(Ad0, .inr (15, Fs0)), (Ad1, .inl (Ka0, 5, .inl Fa0)), (Ad2, .inl (Ka1, 5, .inl Fa1)), (Ad3, .inl (Ka2, 5, .inl Fa2))] H := hP
  have hD : va_D A [(Ad0, .inr (15, Fs0)), (Ad1, .inl (Ka0, 5, .inl Fa0)), (Ad2, .inl (Ka1, 5, .inl Fa1)), (Ad3, .inl (Ka2, 5, .inl Fa2))] := hD
  rcases hw with ⟨c102, er103⟩ | ⟨c104, c105, er106⟩ | ⟨c107, c108, er109⟩
  · skip
    subst er103
    refine lv_if_eq (tgt := 13) hx hb dX12_lost_6 (by decide) (fun c110 => ?_) (fun c110 => absurd c110 (by decide))
    refine lv_iconst (v := 1) hx hb dX12_lost_13 (by decide) ?_
    refine va_put (D := (dC, dI)) (ci := 15) (v := .int 1) (ty := .int) (C := RX12) (T := TX12) (N := 150) hx hb hts (in_z_X12_lost_X12) tyX12 tyX12_ok nmX12 hown hK hP hD hS 0 rfl rfl 0 (by decide) (hts (.fieldLink RX12 388 "HeapWorksModel" "thrown" "I") (by decide +kernel)) (fun _ h9 => h9) rfl (by decide +kernel) rfl rfl (by rw [o_Fs0.2.1]; decide) dX12_lost_14 (fun H locs hP hD hS => ?_)
    have hP : va_P (dC, dI) vwCl [(Ad0, .inr (15, (Fs0.set 0 (.int 1)))), (Ad1, .inl (Ka0, 5, .inl Fa0)), (Ad2, .inl (Ka1, 5, .inl Fa1)), (Ad3, .inl (Ka2, 5, .inl Fa2))] H := hP
    have hD : va_D A [(Ad0, .inr (15, (Fs0.set 0 (.int 1)))), (Ad1, .inl (Ka0, 5, .inl Fa0)), (Ad2, .inl (Ka1, 5, .inl Fa1)), (Ad3, .inl (Ka2, 5, .inl Fa2))] := hD
    have o_s111 := ow_set o_Fs0 0 (.int 1) (by decide) (l' := [(0, .int 1), (48, .ref Ad1), (62, .ref Ad2), (65, .ref Ad3), (73, .int 0)]) (w' := [0]) rfl rfl
    generalize (Fs0.set 0 (.int 1)) = s111 at hP hD o_s111
    refine lv_aload_n hx hb dX12_lost_17 rfl (lv_at hl 0 rfl) ?_
    refine va_get (D := (dC, dI)) (ci := 15) (v := .int 1) (C := RX12) (T := TX12) (N := 150) hx hb hts (in_z_X12_lost_X12) hown hK hP 0 rfl rfl 0 (by decide) (hts (.fieldLink RX12 388 "HeapWorksModel" "thrown" "I") (by decide +kernel)) (fun _ h9 => h9) (ow_at o_s111 0 rfl) dX12_lost_18 ?_
    refine lv_if_le (tgt := 26) hx hb dX12_lost_21 (by decide) (fun c112 => absurd c112 (by decide)) (fun c112 => ?_)
    refine lv_iconst (v := 0) hx hb dX12_lost_24 (by decide) ?_
    have hP9 := hP.sub (ws' := [(Ad0, .inr (15, s111)), (Ad1, .inl (Ka0, 5, .inl Fa0)), (Ad2, .inl (Ka1, 5, .inl Fa1)), (Ad3, .inl (Ka2, 5, .inl Fa2))]) [0, 1, 2, 3] rfl
    have hD9 := hD.sub (ws' := [(Ad0, .inr (15, s111)), (Ad1, .inl (Ka0, 5, .inl Fa0)), (Ad2, .inl (Ka1, 5, .inl Fa1)), (Ad3, .inl (Ka2, 5, .inl Fa2))]) [0, 1, 2, 3] (by decide) rfl
    have hK9 := hK.sub (tys' := [(Ka0, .int), (Ka1, .int), (Ka2, .int)]) [0, 1, 2] rfl
    exact W.iret (v := 0) hx hb hr (fun t ht hW => ⟨⟨0, (s111, Fa1), rfl, (Or.inl ⟨c102, rfl, o_s111, hz_Fa1⟩), by rw [ht]; exact hP9, va_K.moved hW.alike hK9, hD9⟩, hS.F ht⟩) hS.2.2 dX12_lost_25
  · skip
    subst er106
    refine lv_if_eq (tgt := 13) hx hb dX12_lost_6 (by decide) (fun c113 => ?_) (fun c113 => absurd c113 (by decide))
    refine lv_iconst (v := 1) hx hb dX12_lost_13 (by decide) ?_
    refine va_put (D := (dC, dI)) (ci := 15) (v := .int 1) (ty := .int) (C := RX12) (T := TX12) (N := 150) hx hb hts (in_z_X12_lost_X12) tyX12 tyX12_ok nmX12 hown hK hP hD hS 0 rfl rfl 0 (by decide) (hts (.fieldLink RX12 388 "HeapWorksModel" "thrown" "I") (by decide +kernel)) (fun _ h9 => h9) rfl (by decide +kernel) rfl rfl (by rw [o_Fs0.2.1]; decide) dX12_lost_14 (fun H locs hP hD hS => ?_)
    have hP : va_P (dC, dI) vwCl [(Ad0, .inr (15, (Fs0.set 0 (.int 1)))), (Ad1, .inl (Ka0, 5, .inl Fa0)), (Ad2, .inl (Ka1, 5, .inl Fa1)), (Ad3, .inl (Ka2, 5, .inl Fa2))] H := hP
    have hD : va_D A [(Ad0, .inr (15, (Fs0.set 0 (.int 1)))), (Ad1, .inl (Ka0, 5, .inl Fa0)), (Ad2, .inl (Ka1, 5, .inl Fa1)), (Ad3, .inl (Ka2, 5, .inl Fa2))] := hD
    have o_s114 := ow_set o_Fs0 0 (.int 1) (by decide) (l' := [(0, .int 1), (48, .ref Ad1), (62, .ref Ad2), (65, .ref Ad3), (73, .int 0)]) (w' := [0]) rfl rfl
    generalize (Fs0.set 0 (.int 1)) = s114 at hP hD o_s114
    refine lv_aload_n hx hb dX12_lost_17 rfl (lv_at hl 0 rfl) ?_
    refine va_get (D := (dC, dI)) (ci := 15) (v := .int 1) (C := RX12) (T := TX12) (N := 150) hx hb hts (in_z_X12_lost_X12) hown hK hP 0 rfl rfl 0 (by decide) (hts (.fieldLink RX12 388 "HeapWorksModel" "thrown" "I") (by decide +kernel)) (fun _ h9 => h9) (ow_at o_s114 0 rfl) dX12_lost_18 ?_
    refine lv_if_le (tgt := 26) hx hb dX12_lost_21 (by decide) (fun c115 => absurd c115 (by decide)) (fun c115 => ?_)
    refine lv_iconst (v := 0) hx hb dX12_lost_24 (by decide) ?_
    have hP9 := hP.sub (ws' := [(Ad0, .inr (15, s114)), (Ad1, .inl (Ka0, 5, .inl Fa0)), (Ad2, .inl (Ka1, 5, .inl Fa1)), (Ad3, .inl (Ka2, 5, .inl Fa2))]) [0, 1, 2, 3] rfl
    have hD9 := hD.sub (ws' := [(Ad0, .inr (15, s114)), (Ad1, .inl (Ka0, 5, .inl Fa0)), (Ad2, .inl (Ka1, 5, .inl Fa1)), (Ad3, .inl (Ka2, 5, .inl Fa2))]) [0, 1, 2, 3] (by decide) rfl
    have hK9 := hK.sub (tys' := [(Ka0, .int), (Ka1, .int), (Ka2, .int)]) [0, 1, 2] rfl
    exact W.iret (v := 0) hx hb hr (fun t ht hW => ⟨⟨0, (s114, Fa1), rfl, (Or.inr (Or.inl ⟨c104, c105, rfl, o_s114, hz_Fa1⟩)), by rw [ht]; exact hP9, va_K.moved hW.alike hK9, hD9⟩, hS.F ht⟩) hS.2.2 dX12_lost_25
  · skip
    subst er109
    refine lv_if_eq (tgt := 13) hx hb dX12_lost_6 (by decide) (fun c116 => absurd c116 (by decide)) (fun c116 => ?_)
    refine lv_iconst (v := 0) hx hb dX12_lost_9 (by decide) ?_
    refine lv_goto (tgt := 14) hx hb dX12_lost_10 (by decide) ?_
    refine va_put (D := (dC, dI)) (ci := 15) (v := .int 0) (ty := .int) (C := RX12) (T := TX12) (N := 150) hx hb hts (in_z_X12_lost_X12) tyX12 tyX12_ok nmX12 hown hK hP hD hS 0 rfl rfl 0 (by decide) (hts (.fieldLink RX12 388 "HeapWorksModel" "thrown" "I") (by decide +kernel)) (fun _ h9 => h9) rfl (by decide +kernel) rfl rfl (by rw [o_Fs0.2.1]; decide) dX12_lost_14 (fun H locs hP hD hS => ?_)
    have hP : va_P (dC, dI) vwCl [(Ad0, .inr (15, (Fs0.set 0 (.int 0)))), (Ad1, .inl (Ka0, 5, .inl Fa0)), (Ad2, .inl (Ka1, 5, .inl Fa1)), (Ad3, .inl (Ka2, 5, .inl Fa2))] H := hP
    have hD : va_D A [(Ad0, .inr (15, (Fs0.set 0 (.int 0)))), (Ad1, .inl (Ka0, 5, .inl Fa0)), (Ad2, .inl (Ka1, 5, .inl Fa1)), (Ad3, .inl (Ka2, 5, .inl Fa2))] := hD
    have o_s117 := ow_set o_Fs0 0 (.int 0) (by decide) (l' := [(0, .int 0), (48, .ref Ad1), (62, .ref Ad2), (65, .ref Ad3), (73, .int 0)]) (w' := [0]) rfl rfl
    generalize (Fs0.set 0 (.int 0)) = s117 at hP hD o_s117
    refine lv_aload_n hx hb dX12_lost_17 rfl (lv_at hl 0 rfl) ?_
    refine va_get (D := (dC, dI)) (ci := 15) (v := .int 0) (C := RX12) (T := TX12) (N := 150) hx hb hts (in_z_X12_lost_X12) hown hK hP 0 rfl rfl 0 (by decide) (hts (.fieldLink RX12 388 "HeapWorksModel" "thrown" "I") (by decide +kernel)) (fun _ h9 => h9) (ow_at o_s117 0 rfl) dX12_lost_18 ?_
    refine lv_if_le (tgt := 26) hx hb dX12_lost_21 (by decide) (fun c118 => ?_) (fun c118 => absurd c118 (by decide))
    refine lv_aload_n hx hb dX12_lost_26 rfl (lv_at hl 0 rfl) ?_
    refine lv_iload_n hx hb dX12_lost_27 rfl (lv_at hl 1 rfl) ?_
    refine lv_iconst (v := (-1)) hx hb dX12_lost_28 (by decide) ?_
    refine lv_iconst (v := (-1)) hx hb dX12_lost_29 (by decide) ?_
    refine lv_iconst (v := 1) hx hb dX12_lost_30 (by decide) ?_
    have hPc := hP.sub (ws' := [(Ad0, .inr (15, s117)), (Ad1, .inl (Ka0, 5, .inl Fa0)), (Ad3, .inl (Ka2, 5, .inl Fa2))]) [0, 1, 3] rfl
    have hDc := hD.sub (ws' := [(Ad0, .inr (15, s117)), (Ad1, .inl (Ka0, 5, .inl Fa0)), (Ad3, .inl (Ka2, 5, .inl Fa2))]) [0, 1, 3] (by decide) rfl
    have hKc := hK.sub (tys' := [(Ka0, .int), (Ka2, .int)]) [0, 2] rfl
    have hFc := va_free (wc := [(Ad0, .inr (15, s117)), (Ad1, .inl (Ka0, 5, .inl Fa0)), (Ad3, .inl (Ka2, 5, .inl Fa2))]) hD hS hA [0, 1, 3] rfl
    refine va_callv (va_runV (As := [.int Va0, .int (-1), .int (-1), .int 1]) (rest := []) ⟨hx, hb, hml, hown, hts⟩ (z_X12_reach l dC dI H.size Ad0 s117 Ad1 Fa0 Ka0 Ad3 Fa2 Ka2 Va0 (fh_sub o_s117.2 [1, 3, 4] rfl) hz_Fa0 hz_Fa2 (by (try simp only [i_lt, i_le, i_eq, kc_0, kc_4] at c107 c108); omega)) (cwV 4 hts g_z_X12_lost_z_X12_reach_591 rfl rfl rfl (by decide +kernel) ⟨Nat.le_of_ble_eq_true rfl, Nat.le_of_ble_eq_true rfl⟩) ⟨fun a U g mk q => by obtain ⟨q0, q1, qP, qK, qD⟩ := q; exact ⟨q0, q1, qP, va_K.moved (u := U) (U := U.calling g mk a) (Vm.Alike.refl U.vm) qK, qD⟩, va_recv hK hP (ci := 15) (q0 := 0) rfl rfl, fun U hU hW => ⟨rfl, by rw [hU], by rw [hU]; exact hPc, va_K.moved hW.alike hKc, hDc.weaken (fun _ _ _ _ => trivial)⟩⟩ rfl rfl hl.1 rfl (lv_room (Nat.le_of_ble_eq_true rfl)) dX12_lost_31 ⟨Nat.le_of_ble_eq_true rfl, Nat.le_of_ble_eq_true rfl⟩) hS (fun q _ h => hFc q h) hFc (fun u t H1 locs ht hvm hw hB hz1 hk1 hS => ?_)
    obtain ⟨s119, rfl⟩ : ∃ z, z = u := ⟨_, rfl⟩
    obtain ⟨hP1, hK1, hD1⟩ := hB
    rw [ht] at hP1
    try dsimp only at hw
    obtain ⟨hP, hD⟩ := va_join (wr := [(Ad2, .inl (Ka1, 5, .inl Fa1))]) (w1 := [(Ad0, .inr (15, s119)), (Ad1, .inl (Ka0, 5, .inl Fa0)), (Ad3, .inl (Ka2, 5, .inl Fa2))]) hP hD [0, 1, 3] [2] rfl rfl (by decide) (by decide) hk1 hFc hP1 hD1
    have hK := hK.sub (tys' := [(Ka1, .int), (Ka0, .int), (Ka2, .int)]) [1, 0, 2] rfl
    generalize H1 = H at hP hS ⊢
    have hP : va_P (dC, dI) vwCl [(Ad2, .inl (Ka1, 5, .inl Fa1)), (Ad0, .inr (15, s119)), (Ad1, .inl (Ka0, 5, .inl Fa0)), (Ad3, .inl (Ka2, 5, .inl Fa2))] H := hP
    have hD : va_D A [(Ad2, .inl (Ka1, 5, .inl Fa1)), (Ad0, .inr (15, s119)), (Ad1, .inl (Ka0, 5, .inl Fa0)), (Ad3, .inl (Ka2, 5, .inl Fa2))] := hD
    have o_s119 := hw
    have o_s119 := ow_on o_s117 o_s119 (l' := [(73, .int 0), (48, .ref Ad1), (65, .ref Ad3), (0, .int 0), (48, .ref Ad1), (62, .ref Ad2), (65, .ref Ad3)]) (w' := [73, 0]) rfl rfl
    refine lv_aload_n hx hb dX12_lost_34 rfl (lv_at hl 0 rfl) ?_
    refine va_get (D := (dC, dI)) (ci := 15) (v := .ref Ad2) (C := RX12) (T := TX12) (N := 150) hx hb hts (in_z_X12_lost_X12) hown hK hP 1 rfl rfl 62 (by decide) (hts (.fieldLink RX12 225 "HeapWorksModel" "lostMany" "[I") (by decide +kernel)) (fun _ h9 => h9) (ow_at o_s119 5 rfl) dX12_lost_35 ?_
    refine lv_iload_n hx hb dX12_lost_38 rfl (lv_at hl 1 rfl) ?_
    refine lv_iconst (v := 0) hx hb dX12_lost_39 (by decide) ?_
    refine va_iast hx hb hK hP hD hS 0 0 rfl rfl (by rw [vp_in_iff]; (try simp only [i_lt, i_le, i_eq, kc_0, kc_4] at c107 c108); omega) dX12_lost_40 (fun H locs hP hD hS => ?_)
    have hP : va_P (dC, dI) vwCl [(Ad2, .inl (Ka1, 5, .inl (upd Fa1 (Va0 : Int32).toNatClampNeg 0))), (Ad0, .inr (15, s119)), (Ad1, .inl (Ka0, 5, .inl Fa0)), (Ad3, .inl (Ka2, 5, .inl Fa2))] H := hP
    have hD : va_D A [(Ad2, .inl (Ka1, 5, .inl (upd Fa1 (Va0 : Int32).toNatClampNeg 0))), (Ad0, .inr (15, s119)), (Ad1, .inl (Ka0, 5, .inl Fa0)), (Ad3, .inl (Ka2, 5, .inl Fa2))] := hD
    have q121 : (upd Fa1 (Va0 : Int32).toNatClampNeg 0) (Va0 : Int32).toNatClampNeg = 0 := pk_us
    have z122 : ∀ j, (upd Fa1 (Va0 : Int32).toNatClampNeg 0) j = 0 := az_up hz_Fa1 rfl
    generalize upd Fa1 (Va0 : Int32).toNatClampNeg 0 = f120 at hP hD q121 z122
    refine lv_iconst (v := 0) hx hb dX12_lost_41 (by decide) ?_
    refine lv_istore_n (lv' := [(2, .int 0), (0, .ref Ad0), (1, .int Va0)]) hx hb dX12_lost_42 rfl hl (by decide) rfl (fun ls hl => ?_)
    refine lv_iload_n hx hb dX12_lost_43 rfl (lv_at hl 0 rfl) ?_
    refine lv_aload_n hx hb dX12_lost_44 rfl (lv_at hl 1 rfl) ?_
    refine va_get (D := (dC, dI)) (ci := 15) (v := .ref Ad1) (C := RX12) (T := TX12) (N := 150) hx hb hts (in_z_X12_lost_X12) hown hK hP 1 rfl rfl 48 (by decide) (hts (.fieldLink RX12 183 "HeapWorksModel" "things" "[I") (by decide +kernel)) (fun _ h9 => h9) (ow_at o_s119 1 rfl) dX12_lost_45 ?_
    refine lv_iload_n hx hb dX12_lost_48 rfl (lv_at hl 2 rfl) ?_
    refine va_iald hx hb hK hP 2 1 rfl rfl (by rw [vp_in_iff]; (try simp only [i_lt, i_le, i_eq, kc_0, kc_4] at c107 c108); omega) dX12_lost_49 ?_
    refine lv_topi (fun x123 ex123 => ?_)
    obtain rfl : x123 = 0 := ex123.trans (hz_Fa0 _)
    refine lv_icmp_ge (tgt := 98) hx hb dX12_lost_50 (by decide) (fun c124 => ?_) (fun c124 => absurd c124 (by decide))
    refine lv_aload_n hx hb dX12_lost_98 rfl (lv_at hl 1 rfl) ?_
    refine va_get (D := (dC, dI)) (ci := 15) (v := .ref Ad2) (C := RX12) (T := TX12) (N := 150) hx hb hts (in_z_X12_lost_X12) hown hK hP 1 rfl rfl 62 (by decide) (hts (.fieldLink RX12 225 "HeapWorksModel" "lostMany" "[I") (by decide +kernel)) (fun _ h9 => h9) (ow_at o_s119 5 rfl) dX12_lost_99 ?_
    refine lv_iload_n hx hb dX12_lost_102 rfl (lv_at hl 2 rfl) ?_
    refine va_iald hx hb hK hP 0 0 rfl rfl (by rw [vp_in_iff]; (try simp only [i_lt, i_le, i_eq, kc_0, kc_4] at c107 c108); omega) dX12_lost_103 ?_
    refine lv_topi (fun x125 ex125 => ?_)
    obtain rfl : 0 = x125 := (ex125.trans q121).symm
    have hP9 := hP.sub (ws' := [(Ad0, .inr (15, s119)), (Ad1, .inl (Ka0, 5, .inl Fa0)), (Ad2, .inl (Ka1, 5, .inl f120)), (Ad3, .inl (Ka2, 5, .inl Fa2))]) [1, 2, 0, 3] rfl
    have hD9 := hD.sub (ws' := [(Ad0, .inr (15, s119)), (Ad1, .inl (Ka0, 5, .inl Fa0)), (Ad2, .inl (Ka1, 5, .inl f120)), (Ad3, .inl (Ka2, 5, .inl Fa2))]) [1, 2, 0, 3] (by decide) rfl
    have hK9 := hK.sub (tys' := [(Ka0, .int), (Ka1, .int), (Ka2, .int)]) [1, 0, 2] rfl
    exact W.iret (v := 0) hx hb hr (fun t ht hW => ⟨⟨0, (s119, f120), rfl, (Or.inr (Or.inr (⟨c107, c108, rfl, o_s119, z122, q121⟩))), by rw [ht]; exact hP9, va_K.moved hW.alike hK9, hD9⟩, hS.F ht⟩) hS.2.2 dX12_lost_104

def l_z_X12_lostThing : List Cond := [.fieldLink RX12 388 "HeapWorksModel" "thrown" "I", .methodLink RX12 542 yX12_isPicture, .instanceMethod yX12_isPicture, .selects RX12 yX12_isPicture yX12_isPicture, .initialized RX12, .fieldLink RX12 225 "HeapWorksModel" "lostMany" "[I", .code yX12_isPicture cX12_isPicture 2 (some .boolean)]
def w_z_X12_lostThing : List Cond := .code yX12_lostThing cX12_lostThing 3 (some .int) :: (l_z_X12_lostThing ++ (wsX120))
theorem in_z_X12_lostThing_X12 : ∀ w ∈ wsX120, w ∈ w_z_X12_lostThing := fun w h => List.mem_cons_of_mem _ (List.mem_append_right _ (h))
theorem g_z_X12_lostThing_z_X12_isPicture_542 : GoodIn w_z_X12_lostThing (wsV RX12 542 RX12 yX12_isPicture w_z_X12_isPicture) := goodIn_app (goodIn_r (([.methodLink RX12 542 yX12_isPicture, .instanceMethod yX12_isPicture, .selects RX12 yX12_isPicture yX12_isPicture, .initialized RX12] : List Cond)) [2, 3, 4, 5] rfl (by decide +kernel)) (goodIn_r (.code yX12_isPicture cX12_isPicture 2 (some .boolean) :: l_z_X12_isPicture) [7] rfl (by decide +kernel))
set_option maxHeartbeats 4000000 in
set_option maxRecDepth 100000 in
theorem z_X12_lostThing (l : Launch) (dC : Nat → ClassId) (dI : Nat → Nat → Nat) (sz : Nat) (Ad0 : Nat) (Fs0 : List Value) (Ad1 : Nat) (Fa0 : Nat → Int32) (Ka0 : ClassId) (Va0 : Int32) (Va1 : Int32) (k_Fs0 : fh Fs0 150 [(62, .ref Ad1)]) (hz_Fa0 : ∀ j, Fa0 j = 0) : Met l yX12_lostThing w_z_X12_lostThing ({ frames := 1, cells := 0, slots := 0, locals := 21 }) (va_Pc [.ref Ad0, .int Va0, .int Va1] (fun U => U.heap.size = sz ∧ Wd dC dI [(Ka0, .int)] (fun _ => True) [(Ad0, .inr (15, Fs0)), (Ad1, .inl (Ka0, 5, .inl Fa0))] U)) (va_Qi (fun (r : Int32) (u : List Value) => (Va0 < 0 ∧ r = (-1) ∧ ow Fs0 (u) 150 [0] [(0, .int 0), (62, .ref Ad1)]) ∨ (¬ Va0 < 0 ∧ 4 ≤ Va0 ∧ r = (-1) ∧ ow Fs0 (u) 150 [0] [(0, .int 0), (62, .ref Ad1)]) ∨ (¬ Va0 < 0 ∧ ¬ 4 ≤ Va0 ∧ Va1 < 0 ∧ r = (-1) ∧ ow Fs0 (u) 150 [0] [(0, .int 0), (62, .ref Ad1)]) ∨ (¬ Va0 < 0 ∧ ¬ 4 ≤ Va0 ∧ ¬ Va1 < 0 ∧ 0 ≤ Va1 ∧ r = (-1) ∧ ow Fs0 (u) 150 [0] [(0, .int 0), (62, .ref Ad1)])) (fun (u : List Value) t => Wd dC dI [(Ka0, .int)] (va_A [(Ad0, .inr (15, Fs0)), (Ad1, .inl (Ka0, 5, .inl Fa0))] sz) [(Ad0, .inr (15, (u))), (Ad1, .inl (Ka0, 5, .inl Fa0))] t) (va_A [(Ad0, .inr (15, Fs0)), (Ad1, .inl (Ka0, 5, .inl Fa0))] sz))  0 0 (va_A [(Ad0, .inr (15, Fs0)), (Ad1, .inl (Ka0, 5, .inl Fa0))] sz) := by
  refine Met.ofW (cc := cX12_lostThing) (maxL := 3) (ret := (some .int)) (by decide) rfl ?_
  intro p e s m args below meth c s₁ B hml hv
  obtain ⟨rfl, hsz, hP, hK, hD0⟩ := hv
  have hx := B.exec
  have hb := B.bytes
  have hr := B.returns
  have hts := atoms_spec (ws := w_z_X12_lostThing) B.pre
  have hown : s.vm.findClass RX12 = some m.cls := findClass_of_methodNamed B.named
  have hlocks := B.notSynchronized
  subst hsz
  have hD := hD0.self (sz := s.heap.size)
  generalize hAe : va_A [(Ad0, .inr (15, Fs0)), (Ad1, .inl (Ka0, 5, .inl Fa0))] s.heap.size = A at hD ⊢
  have hA : ∀ q : Nat, s.heap.size ≤ q → A q := fun q h => by rw [← hAe]; exact Or.inr h
  have hS : va_S A s.heap s.heap [] := va_S.rf
  have hl := lv_entry ([.ref Ad0, .int Va0, .int Va1]) (n := 3) (Nat.le_of_ble_eq_true rfl)
  rw [lg_entry_eq]
  generalize (lg_sl ([.ref Ad0, .int Va0, .int Va1]) ++ List.replicate (3 - (lg_sl ([.ref Ad0, .int Va0, .int Va1])).length) Slot.unset).toArray = ls at hl ⊢
  have hl : lv_has ls 3 [(0, .ref Ad0), (1, .int Va0), (2, .int Va1)] := hl
  have o_Fs0 := ow_0 k_Fs0
  refine lv_aload_n hx hb dX12_lostThing_0 rfl (lv_at hl 0 rfl) ?_
  refine lv_iconst (v := 0) hx hb dX12_lostThing_1 (by decide) ?_
  refine va_put (D := (dC, dI)) (ci := 15) (v := .int 0) (ty := .int) (C := RX12) (T := TX12) (N := 150) hx hb hts (in_z_X12_lostThing_X12) tyX12 tyX12_ok nmX12 hown hK hP hD hS 0 rfl rfl 0 (by decide) (hts (.fieldLink RX12 388 "HeapWorksModel" "thrown" "I") (by decide +kernel)) (fun _ h9 => h9) rfl (by decide +kernel) rfl rfl (by rw [o_Fs0.2.1]; decide) dX12_lostThing_2 (fun H locs hP hD hS => ?_)
  have hP : va_P (dC, dI) vwCl [(Ad0, .inr (15, (Fs0.set 0 (.int 0)))), (Ad1, .inl (Ka0, 5, .inl Fa0))] H := hP
  have hD : va_D A [(Ad0, .inr (15, (Fs0.set 0 (.int 0)))), (Ad1, .inl (Ka0, 5, .inl Fa0))] := hD
  have o_s101 := ow_set o_Fs0 0 (.int 0) (by decide) (l' := [(0, .int 0), (62, .ref Ad1)]) (w' := [0]) rfl rfl
  generalize (Fs0.set 0 (.int 0)) = s101 at hP hD o_s101
  refine lv_aload_n hx hb dX12_lostThing_5 rfl (lv_at hl 0 rfl) ?_
  refine lv_iload_n hx hb dX12_lostThing_6 rfl (lv_at hl 1 rfl) ?_
  have hPc := hP.sub (ws' := []) [] rfl
  have hDc := hD.sub (ws' := []) [] (by decide) rfl
  have hKc := hK.sub (tys' := []) [] rfl
  have hFc := va_free (wc := []) hD hS hA [] rfl
  refine va_calli (va_runV (As := [.int Va0]) (rest := []) ⟨hx, hb, hml, hown, hts⟩ (z_X12_isPicture l dC dI H.size Ad0 Va0  ) (cwV 1 hts g_z_X12_lostThing_z_X12_isPicture_542 rfl rfl rfl (by decide +kernel) ⟨Nat.le_of_ble_eq_true rfl, Nat.le_of_ble_eq_true rfl⟩) ⟨fun a U g mk q => by obtain ⟨q0, q1, qP, qK, qD⟩ := q; exact ⟨q0, q1, qP, va_K.moved (u := U) (U := U.calling g mk a) (Vm.Alike.refl U.vm) qK, qD⟩, va_recv hK hP (ci := 15) (q0 := 0) rfl rfl, fun U hU hW => ⟨rfl, by rw [hU], by rw [hU]; exact hPc, va_K.moved hW.alike hKc, hDc.weaken (fun _ _ _ _ => trivial)⟩⟩ rfl rfl hl.1 rfl (lv_room (Nat.le_of_ble_eq_true rfl)) dX12_lostThing_7 ⟨Nat.le_of_ble_eq_true rfl, Nat.le_of_ble_eq_true rfl⟩) hS (fun q _ h => hFc q h) hFc (fun r102 u t H1 locs ht hvm hw hB hz1 hk1 hS => ?_)
  obtain ⟨hP1, hK1, hD1⟩ := hB
  rw [ht] at hP1
  try dsimp only at hw
  obtain ⟨hP, hD⟩ := va_join (wr := [(Ad0, .inr (15, s101)), (Ad1, .inl (Ka0, 5, .inl Fa0))]) (w1 := []) hP hD [] [0, 1] rfl rfl (by decide) (by decide) hk1 hFc hP1 hD1
  have hK := hK.sub (tys' := [(Ka0, .int)]) [0] rfl
  generalize H1 = H at hP hS ⊢
  have hP : va_P (dC, dI) vwCl [(Ad0, .inr (15, s101)), (Ad1, .inl (Ka0, 5, .inl Fa0))] H := hP
  have hD : va_D A [(Ad0, .inr (15, s101)), (Ad1, .inl (Ka0, 5, .inl Fa0))] := hD
  rcases hw with ⟨c103, er104⟩ | ⟨c105, c106, er107⟩ | ⟨c108, c109, er110⟩
  · skip
    subst er104
    refine lv_if_eq (tgt := 41) hx hb dX12_lostThing_10 (by decide) (fun c111 => ?_) (fun c111 => absurd c111 (by decide))
    refine lv_iconst (v := (-1)) hx hb dX12_lostThing_41 (by decide) ?_
    have hP9 := hP.sub (ws' := [(Ad0, .inr (15, s101)), (Ad1, .inl (Ka0, 5, .inl Fa0))]) [0, 1] rfl
    have hD9 := hD.sub (ws' := [(Ad0, .inr (15, s101)), (Ad1, .inl (Ka0, 5, .inl Fa0))]) [0, 1] (by decide) rfl
    have hK9 := hK.sub (tys' := [(Ka0, .int)]) [0] rfl
    exact W.iret (v := (-1)) hx hb hr (fun t ht hW => ⟨⟨(-1), s101, rfl, (Or.inl ⟨c103, rfl, o_s101⟩), by rw [ht]; exact hP9, va_K.moved hW.alike hK9, hD9⟩, hS.F ht⟩) hS.2.2 dX12_lostThing_42
  · skip
    subst er107
    refine lv_if_eq (tgt := 41) hx hb dX12_lostThing_10 (by decide) (fun c112 => ?_) (fun c112 => absurd c112 (by decide))
    refine lv_iconst (v := (-1)) hx hb dX12_lostThing_41 (by decide) ?_
    have hP9 := hP.sub (ws' := [(Ad0, .inr (15, s101)), (Ad1, .inl (Ka0, 5, .inl Fa0))]) [0, 1] rfl
    have hD9 := hD.sub (ws' := [(Ad0, .inr (15, s101)), (Ad1, .inl (Ka0, 5, .inl Fa0))]) [0, 1] (by decide) rfl
    have hK9 := hK.sub (tys' := [(Ka0, .int)]) [0] rfl
    exact W.iret (v := (-1)) hx hb hr (fun t ht hW => ⟨⟨(-1), s101, rfl, (Or.inr (Or.inl ⟨c105, c106, rfl, o_s101⟩)), by rw [ht]; exact hP9, va_K.moved hW.alike hK9, hD9⟩, hS.F ht⟩) hS.2.2 dX12_lostThing_42
  · skip
    subst er110
    refine lv_if_eq (tgt := 41) hx hb dX12_lostThing_10 (by decide) (fun c113 => absurd c113 (by decide)) (fun c113 => ?_)
    refine lv_iload_n hx hb dX12_lostThing_13 rfl (lv_at hl 2 rfl) ?_
    refine lv_if_lt (tgt := 41) hx hb dX12_lostThing_14 (by decide) (fun c114 => ?_) (fun c114 => ?_)
    · skip
      refine lv_iconst (v := (-1)) hx hb dX12_lostThing_41 (by decide) ?_
      have hP9 := hP.sub (ws' := [(Ad0, .inr (15, s101)), (Ad1, .inl (Ka0, 5, .inl Fa0))]) [0, 1] rfl
      have hD9 := hD.sub (ws' := [(Ad0, .inr (15, s101)), (Ad1, .inl (Ka0, 5, .inl Fa0))]) [0, 1] (by decide) rfl
      have hK9 := hK.sub (tys' := [(Ka0, .int)]) [0] rfl
      exact W.iret (v := (-1)) hx hb hr (fun t ht hW => ⟨⟨(-1), s101, rfl, (Or.inr (Or.inr (Or.inl ⟨c108, c109, c114, rfl, o_s101⟩))), by rw [ht]; exact hP9, va_K.moved hW.alike hK9, hD9⟩, hS.F ht⟩) hS.2.2 dX12_lostThing_42
    · skip
      refine lv_iload_n hx hb dX12_lostThing_17 rfl (lv_at hl 2 rfl) ?_
      refine lv_aload_n hx hb dX12_lostThing_18 rfl (lv_at hl 0 rfl) ?_
      refine va_get (D := (dC, dI)) (ci := 15) (v := .ref Ad1) (C := RX12) (T := TX12) (N := 150) hx hb hts (in_z_X12_lostThing_X12) hown hK hP 0 rfl rfl 62 (by decide) (hts (.fieldLink RX12 225 "HeapWorksModel" "lostMany" "[I") (by decide +kernel)) (fun _ h9 => h9) (ow_at o_s101 1 rfl) dX12_lostThing_19 ?_
      refine lv_iload_n hx hb dX12_lostThing_22 rfl (lv_at hl 1 rfl) ?_
      refine va_iald hx hb hK hP 1 0 rfl rfl (by rw [vp_in_iff]; (try simp only [i_lt, i_le, i_eq, kc_0, kc_4] at c108 c109); omega) dX12_lostThing_23 ?_
      refine lv_topi (fun x115 ex115 => ?_)
      obtain rfl : x115 = 0 := ex115.trans (hz_Fa0 _)
      refine lv_icmp_ge (tgt := 41) hx hb dX12_lostThing_24 (by decide) (fun c116 => ?_) (fun c116 => (by exfalso; have bd_Va1 := i_bd Va1; (try simp only [i_lt, i_le, i_eq, kc_0] at c114 c116); omega))
      refine lv_iconst (v := (-1)) hx hb dX12_lostThing_41 (by decide) ?_
      have hP9 := hP.sub (ws' := [(Ad0, .inr (15, s101)), (Ad1, .inl (Ka0, 5, .inl Fa0))]) [0, 1] rfl
      have hD9 := hD.sub (ws' := [(Ad0, .inr (15, s101)), (Ad1, .inl (Ka0, 5, .inl Fa0))]) [0, 1] (by decide) rfl
      have hK9 := hK.sub (tys' := [(Ka0, .int)]) [0] rfl
      exact W.iret (v := (-1)) hx hb hr (fun t ht hW => ⟨⟨(-1), s101, rfl, (Or.inr (Or.inr (Or.inr (⟨c108, c109, c114, c116, rfl, o_s101⟩)))), by rw [ht]; exact hP9, va_K.moved hW.alike hK9, hD9⟩, hS.F ht⟩) hS.2.2 dX12_lostThing_42

def l_z_X12_growth : List Cond := [.methodLink RX12 542 yX12_isPicture, .instanceMethod yX12_isPicture, .selects RX12 yX12_isPicture yX12_isPicture, .initialized RX12, .fieldLink RX12 388 "HeapWorksModel" "thrown" "I", .fieldLink RX12 612 "HeapWorksModel" "grownMany" "I", .fieldLink RX12 183 "HeapWorksModel" "things" "[I", .code yX12_isPicture cX12_isPicture 2 (some .boolean)]
def w_z_X12_growth : List Cond := .code yX12_growth cX12_growth 8 (some .int) :: (l_z_X12_growth ++ (wsX120))
theorem in_z_X12_growth_X12 : ∀ w ∈ wsX120, w ∈ w_z_X12_growth := fun w h => List.mem_cons_of_mem _ (List.mem_append_right _ (h))
theorem g_z_X12_growth_z_X12_isPicture_542 : GoodIn w_z_X12_growth (wsV RX12 542 RX12 yX12_isPicture w_z_X12_isPicture) := goodIn_app (goodIn_r (([.methodLink RX12 542 yX12_isPicture, .instanceMethod yX12_isPicture, .selects RX12 yX12_isPicture yX12_isPicture, .initialized RX12] : List Cond)) [1, 2, 3, 4] rfl (by decide +kernel)) (goodIn_r (.code yX12_isPicture cX12_isPicture 2 (some .boolean) :: l_z_X12_isPicture) [8] rfl (by decide +kernel))
set_option maxHeartbeats 4000000 in
set_option maxRecDepth 100000 in
theorem z_X12_growth (l : Launch) (dC : Nat → ClassId) (dI : Nat → Nat → Nat) (sz : Nat) (Ad0 : Nat) (Fs0 : List Value) (Ad1 : Nat) (Fa0 : Nat → Int32) (Ka0 : ClassId) (Va0 : Int32) (Va1 : Int32) (Va2 : Int32) (k_Fs0 : fh Fs0 150 [(0, .int 0), (48, .ref Ad1), (75, .int 0)]) (hz_Fa0 : ∀ j, Fa0 j = 0) : Met l yX12_growth w_z_X12_growth ({ frames := 1, cells := 0, slots := 0, locals := 21 }) (va_Pc [.ref Ad0, .int Va0, .int Va1, .int Va2] (fun U => U.heap.size = sz ∧ Wd dC dI [(Ka0, .int)] (fun _ => True) [(Ad0, .inr (15, Fs0)), (Ad1, .inl (Ka0, 5, .inl Fa0))] U)) (va_Qi (fun (r : Int32) (u : List Value) => (Va0 < 0 ∧ r = 0 ∧ ow Fs0 (u) 150 [0] [(0, .int 1), (48, .ref Ad1), (75, .int 0)]) ∨ (¬ Va0 < 0 ∧ 4 ≤ Va0 ∧ r = 0 ∧ ow Fs0 (u) 150 [0] [(0, .int 1), (48, .ref Ad1), (75, .int 0)]) ∨ (¬ Va0 < 0 ∧ ¬ 4 ≤ Va0 ∧ Va1 < 0 ∧ r = 0 ∧ ow Fs0 (u) 150 [0] [(0, .int 1), (48, .ref Ad1), (75, .int 0)]) ∨ (¬ Va0 < 0 ∧ ¬ 4 ≤ Va0 ∧ ¬ Va1 < 0 ∧ 4 ≤ Va1 ∧ r = 0 ∧ ow Fs0 (u) 150 [0] [(0, .int 1), (48, .ref Ad1), (75, .int 0)]) ∨ (¬ Va0 < 0 ∧ ¬ 4 ≤ Va0 ∧ ¬ Va1 < 0 ∧ ¬ 4 ≤ Va1 ∧ Va2 < 0 ∧ r = 0 ∧ ow Fs0 (u) 150 [0] [(0, .int 1), (48, .ref Ad1), (75, .int 0)]) ∨ (¬ Va0 < 0 ∧ ¬ 4 ≤ Va0 ∧ ¬ Va1 < 0 ∧ ¬ 4 ≤ Va1 ∧ ¬ Va2 < 0 ∧ Va2 ≤ 2 ∧ ¬ Va2 = 1 ∧ ¬ Va2 = 1 ∧ r = 0 ∧ ow Fs0 (u) 150 [75, 0] [(75, .int 0), (0, .int 0), (48, .ref Ad1)]) ∨ (¬ Va0 < 0 ∧ ¬ 4 ≤ Va0 ∧ ¬ Va1 < 0 ∧ ¬ 4 ≤ Va1 ∧ ¬ Va2 < 0 ∧ Va2 ≤ 2 ∧ ¬ Va2 = 1 ∧ Va2 = 1 ∧ r = 0 ∧ ow Fs0 (u) 150 [75, 0] [(75, .int 0), (0, .int 0), (48, .ref Ad1)]) ∨ (¬ Va0 < 0 ∧ ¬ 4 ≤ Va0 ∧ ¬ Va1 < 0 ∧ ¬ 4 ≤ Va1 ∧ ¬ Va2 < 0 ∧ Va2 ≤ 2 ∧ Va2 = 1 ∧ Va2 = 1 ∧ r = 0 ∧ ow Fs0 (u) 150 [75, 0] [(75, .int 0), (0, .int 0), (48, .ref Ad1)]) ∨ (¬ Va0 < 0 ∧ ¬ 4 ≤ Va0 ∧ ¬ Va1 < 0 ∧ ¬ 4 ≤ Va1 ∧ ¬ Va2 < 0 ∧ ¬ Va2 ≤ 2 ∧ r = 0 ∧ ow Fs0 (u) 150 [0] [(0, .int 1), (48, .ref Ad1), (75, .int 0)])) (fun (u : List Value) t => Wd dC dI [(Ka0, .int)] (va_A [(Ad0, .inr (15, Fs0)), (Ad1, .inl (Ka0, 5, .inl Fa0))] sz) [(Ad0, .inr (15, (u))), (Ad1, .inl (Ka0, 5, .inl Fa0))] t) (va_A [(Ad0, .inr (15, Fs0)), (Ad1, .inl (Ka0, 5, .inl Fa0))] sz))  0 0 (va_A [(Ad0, .inr (15, Fs0)), (Ad1, .inl (Ka0, 5, .inl Fa0))] sz) := by
  refine Met.ofW (cc := cX12_growth) (maxL := 8) (ret := (some .int)) (by decide) rfl ?_
  intro p e s m args below meth c s₁ B hml hv
  obtain ⟨rfl, hsz, hP, hK, hD0⟩ := hv
  have hx := B.exec
  have hb := B.bytes
  have hr := B.returns
  have hts := atoms_spec (ws := w_z_X12_growth) B.pre
  have hown : s.vm.findClass RX12 = some m.cls := findClass_of_methodNamed B.named
  have hlocks := B.notSynchronized
  subst hsz
  have hD := hD0.self (sz := s.heap.size)
  generalize hAe : va_A [(Ad0, .inr (15, Fs0)), (Ad1, .inl (Ka0, 5, .inl Fa0))] s.heap.size = A at hD ⊢
  have hA : ∀ q : Nat, s.heap.size ≤ q → A q := fun q h => by rw [← hAe]; exact Or.inr h
  have hS : va_S A s.heap s.heap [] := va_S.rf
  have hl := lv_entry ([.ref Ad0, .int Va0, .int Va1, .int Va2]) (n := 8) (Nat.le_of_ble_eq_true rfl)
  rw [lg_entry_eq]
  generalize (lg_sl ([.ref Ad0, .int Va0, .int Va1, .int Va2]) ++ List.replicate (8 - (lg_sl ([.ref Ad0, .int Va0, .int Va1, .int Va2])).length) Slot.unset).toArray = ls at hl ⊢
  have hl : lv_has ls 8 [(0, .ref Ad0), (1, .int Va0), (2, .int Va1), (3, .int Va2)] := hl
  have o_Fs0 := ow_0 k_Fs0
  refine lv_aload_n hx hb dX12_growth_0 rfl (lv_at hl 0 rfl) ?_
  refine lv_aload_n hx hb dX12_growth_1 rfl (lv_at hl 0 rfl) ?_
  refine lv_iload_n hx hb dX12_growth_2 rfl (lv_at hl 1 rfl) ?_
  have hPc := hP.sub (ws' := []) [] rfl
  have hDc := hD.sub (ws' := []) [] (by decide) rfl
  have hKc := hK.sub (tys' := []) [] rfl
  have hFc := va_free (wc := []) hD hS hA [] rfl
  refine va_calli (va_runV (As := [.int Va0]) (rest := [.ref Ad0]) ⟨hx, hb, hml, hown, hts⟩ (z_X12_isPicture l dC dI s.heap.size Ad0 Va0  ) (cwV 1 hts g_z_X12_growth_z_X12_isPicture_542 rfl rfl rfl (by decide +kernel) ⟨Nat.le_of_ble_eq_true rfl, Nat.le_of_ble_eq_true rfl⟩) ⟨fun a U g mk q => by obtain ⟨q0, q1, qP, qK, qD⟩ := q; exact ⟨q0, q1, qP, va_K.moved (u := U) (U := U.calling g mk a) (Vm.Alike.refl U.vm) qK, qD⟩, va_recv hK hP (ci := 15) (q0 := 0) rfl rfl, fun U hU hW => ⟨rfl, by rw [hU], by rw [hU]; exact hPc, va_K.moved hW.alike hKc, hDc.weaken (fun _ _ _ _ => trivial)⟩⟩ rfl rfl hl.1 rfl (lv_room (Nat.le_of_ble_eq_true rfl)) dX12_growth_3 ⟨Nat.le_of_ble_eq_true rfl, Nat.le_of_ble_eq_true rfl⟩) hS (fun q _ h => hFc q h) hFc (fun r101 u t H1 locs ht hvm hw hB hz1 hk1 hS => ?_)
  obtain ⟨hP1, hK1, hD1⟩ := hB
  rw [ht] at hP1
  try dsimp only at hw
  obtain ⟨hP, hD⟩ := va_join (wr := [(Ad0, .inr (15, Fs0)), (Ad1, .inl (Ka0, 5, .inl Fa0))]) (w1 := []) hP hD [] [0, 1] rfl rfl (by decide) (by decide) hk1 hFc hP1 hD1
  have hK := hK.sub (tys' := [(Ka0, .int)]) [0] rfl
  generalize H1 = H at hP hS ⊢
  have hP : va_P (dC, dI) vwCl [(Ad0, .inr (15, Fs0)), (Ad1, .inl (Ka0, 5, .inl Fa0))] H := hP
  have hD : va_D A [(Ad0, .inr (15, Fs0)), (Ad1, .inl (Ka0, 5, .inl Fa0))] := hD
  rcases hw with ⟨c102, er103⟩ | ⟨c104, c105, er106⟩ | ⟨c107, c108, er109⟩
  · skip
    subst er103
    refine lv_if_eq (tgt := 26) hx hb dX12_growth_6 (by decide) (fun c110 => ?_) (fun c110 => absurd c110 (by decide))
    refine lv_iconst (v := 1) hx hb dX12_growth_26 (by decide) ?_
    refine lv_goto (tgt := 31) hx hb dX12_growth_27 (by decide) ?_
    refine va_put (D := (dC, dI)) (ci := 15) (v := .int 1) (ty := .int) (C := RX12) (T := TX12) (N := 150) hx hb hts (in_z_X12_growth_X12) tyX12 tyX12_ok nmX12 hown hK hP hD hS 0 rfl rfl 0 (by decide) (hts (.fieldLink RX12 388 "HeapWorksModel" "thrown" "I") (by decide +kernel)) (fun _ h9 => h9) rfl (by decide +kernel) rfl rfl (by rw [o_Fs0.2.1]; decide) dX12_growth_31 (fun H locs hP hD hS => ?_)
    have hP : va_P (dC, dI) vwCl [(Ad0, .inr (15, (Fs0.set 0 (.int 1)))), (Ad1, .inl (Ka0, 5, .inl Fa0))] H := hP
    have hD : va_D A [(Ad0, .inr (15, (Fs0.set 0 (.int 1)))), (Ad1, .inl (Ka0, 5, .inl Fa0))] := hD
    have o_s111 := ow_set o_Fs0 0 (.int 1) (by decide) (l' := [(0, .int 1), (48, .ref Ad1), (75, .int 0)]) (w' := [0]) rfl rfl
    generalize (Fs0.set 0 (.int 1)) = s111 at hP hD o_s111
    refine lv_aload_n hx hb dX12_growth_34 rfl (lv_at hl 0 rfl) ?_
    refine va_get (D := (dC, dI)) (ci := 15) (v := .int 1) (C := RX12) (T := TX12) (N := 150) hx hb hts (in_z_X12_growth_X12) hown hK hP 0 rfl rfl 0 (by decide) (hts (.fieldLink RX12 388 "HeapWorksModel" "thrown" "I") (by decide +kernel)) (fun _ h9 => h9) (ow_at o_s111 0 rfl) dX12_growth_35 ?_
    refine lv_if_le (tgt := 43) hx hb dX12_growth_38 (by decide) (fun c112 => absurd c112 (by decide)) (fun c112 => ?_)
    refine lv_iconst (v := 0) hx hb dX12_growth_41 (by decide) ?_
    have hP9 := hP.sub (ws' := [(Ad0, .inr (15, s111)), (Ad1, .inl (Ka0, 5, .inl Fa0))]) [0, 1] rfl
    have hD9 := hD.sub (ws' := [(Ad0, .inr (15, s111)), (Ad1, .inl (Ka0, 5, .inl Fa0))]) [0, 1] (by decide) rfl
    have hK9 := hK.sub (tys' := [(Ka0, .int)]) [0] rfl
    exact W.iret (v := 0) hx hb hr (fun t ht hW => ⟨⟨0, s111, rfl, (Or.inl ⟨c102, rfl, o_s111⟩), by rw [ht]; exact hP9, va_K.moved hW.alike hK9, hD9⟩, hS.F ht⟩) hS.2.2 dX12_growth_42
  · skip
    subst er106
    refine lv_if_eq (tgt := 26) hx hb dX12_growth_6 (by decide) (fun c113 => ?_) (fun c113 => absurd c113 (by decide))
    refine lv_iconst (v := 1) hx hb dX12_growth_26 (by decide) ?_
    refine lv_goto (tgt := 31) hx hb dX12_growth_27 (by decide) ?_
    refine va_put (D := (dC, dI)) (ci := 15) (v := .int 1) (ty := .int) (C := RX12) (T := TX12) (N := 150) hx hb hts (in_z_X12_growth_X12) tyX12 tyX12_ok nmX12 hown hK hP hD hS 0 rfl rfl 0 (by decide) (hts (.fieldLink RX12 388 "HeapWorksModel" "thrown" "I") (by decide +kernel)) (fun _ h9 => h9) rfl (by decide +kernel) rfl rfl (by rw [o_Fs0.2.1]; decide) dX12_growth_31 (fun H locs hP hD hS => ?_)
    have hP : va_P (dC, dI) vwCl [(Ad0, .inr (15, (Fs0.set 0 (.int 1)))), (Ad1, .inl (Ka0, 5, .inl Fa0))] H := hP
    have hD : va_D A [(Ad0, .inr (15, (Fs0.set 0 (.int 1)))), (Ad1, .inl (Ka0, 5, .inl Fa0))] := hD
    have o_s114 := ow_set o_Fs0 0 (.int 1) (by decide) (l' := [(0, .int 1), (48, .ref Ad1), (75, .int 0)]) (w' := [0]) rfl rfl
    generalize (Fs0.set 0 (.int 1)) = s114 at hP hD o_s114
    refine lv_aload_n hx hb dX12_growth_34 rfl (lv_at hl 0 rfl) ?_
    refine va_get (D := (dC, dI)) (ci := 15) (v := .int 1) (C := RX12) (T := TX12) (N := 150) hx hb hts (in_z_X12_growth_X12) hown hK hP 0 rfl rfl 0 (by decide) (hts (.fieldLink RX12 388 "HeapWorksModel" "thrown" "I") (by decide +kernel)) (fun _ h9 => h9) (ow_at o_s114 0 rfl) dX12_growth_35 ?_
    refine lv_if_le (tgt := 43) hx hb dX12_growth_38 (by decide) (fun c115 => absurd c115 (by decide)) (fun c115 => ?_)
    refine lv_iconst (v := 0) hx hb dX12_growth_41 (by decide) ?_
    have hP9 := hP.sub (ws' := [(Ad0, .inr (15, s114)), (Ad1, .inl (Ka0, 5, .inl Fa0))]) [0, 1] rfl
    have hD9 := hD.sub (ws' := [(Ad0, .inr (15, s114)), (Ad1, .inl (Ka0, 5, .inl Fa0))]) [0, 1] (by decide) rfl
    have hK9 := hK.sub (tys' := [(Ka0, .int)]) [0] rfl
    exact W.iret (v := 0) hx hb hr (fun t ht hW => ⟨⟨0, s114, rfl, (Or.inr (Or.inl ⟨c104, c105, rfl, o_s114⟩)), by rw [ht]; exact hP9, va_K.moved hW.alike hK9, hD9⟩, hS.F ht⟩) hS.2.2 dX12_growth_42
  · skip
    subst er109
    refine lv_if_eq (tgt := 26) hx hb dX12_growth_6 (by decide) (fun c116 => absurd c116 (by decide)) (fun c116 => ?_)
    refine lv_aload_n hx hb dX12_growth_9 rfl (lv_at hl 0 rfl) ?_
    refine lv_iload_n hx hb dX12_growth_10 rfl (lv_at hl 2 rfl) ?_
    have hPc := hP.sub (ws' := []) [] rfl
    have hDc := hD.sub (ws' := []) [] (by decide) rfl
    have hKc := hK.sub (tys' := []) [] rfl
    have hFc := va_free (wc := []) hD hS hA [] rfl
    refine va_calli (va_runV (As := [.int Va1]) (rest := [.ref Ad0]) ⟨hx, hb, hml, hown, hts⟩ (z_X12_isPicture l dC dI H.size Ad0 Va1  ) (cwV 1 hts g_z_X12_growth_z_X12_isPicture_542 rfl rfl rfl (by decide +kernel) ⟨Nat.le_of_ble_eq_true rfl, Nat.le_of_ble_eq_true rfl⟩) ⟨fun a U g mk q => by obtain ⟨q0, q1, qP, qK, qD⟩ := q; exact ⟨q0, q1, qP, va_K.moved (u := U) (U := U.calling g mk a) (Vm.Alike.refl U.vm) qK, qD⟩, va_recv hK hP (ci := 15) (q0 := 0) rfl rfl, fun U hU hW => ⟨rfl, by rw [hU], by rw [hU]; exact hPc, va_K.moved hW.alike hKc, hDc.weaken (fun _ _ _ _ => trivial)⟩⟩ rfl rfl hl.1 rfl (lv_room (Nat.le_of_ble_eq_true rfl)) dX12_growth_11 ⟨Nat.le_of_ble_eq_true rfl, Nat.le_of_ble_eq_true rfl⟩) hS (fun q _ h => hFc q h) hFc (fun r117 u t H1 locs ht hvm hw hB hz1 hk1 hS => ?_)
    obtain ⟨hP1, hK1, hD1⟩ := hB
    rw [ht] at hP1
    try dsimp only at hw
    obtain ⟨hP, hD⟩ := va_join (wr := [(Ad0, .inr (15, Fs0)), (Ad1, .inl (Ka0, 5, .inl Fa0))]) (w1 := []) hP hD [] [0, 1] rfl rfl (by decide) (by decide) hk1 hFc hP1 hD1
    have hK := hK.sub (tys' := [(Ka0, .int)]) [0] rfl
    generalize H1 = H at hP hS ⊢
    have hP : va_P (dC, dI) vwCl [(Ad0, .inr (15, Fs0)), (Ad1, .inl (Ka0, 5, .inl Fa0))] H := hP
    have hD : va_D A [(Ad0, .inr (15, Fs0)), (Ad1, .inl (Ka0, 5, .inl Fa0))] := hD
    rcases hw with ⟨c118, er119⟩ | ⟨c120, c121, er122⟩ | ⟨c123, c124, er125⟩
    · skip
      subst er119
      refine lv_if_eq (tgt := 26) hx hb dX12_growth_14 (by decide) (fun c126 => ?_) (fun c126 => absurd c126 (by decide))
      refine lv_iconst (v := 1) hx hb dX12_growth_26 (by decide) ?_
      refine lv_goto (tgt := 31) hx hb dX12_growth_27 (by decide) ?_
      refine va_put (D := (dC, dI)) (ci := 15) (v := .int 1) (ty := .int) (C := RX12) (T := TX12) (N := 150) hx hb hts (in_z_X12_growth_X12) tyX12 tyX12_ok nmX12 hown hK hP hD hS 0 rfl rfl 0 (by decide) (hts (.fieldLink RX12 388 "HeapWorksModel" "thrown" "I") (by decide +kernel)) (fun _ h9 => h9) rfl (by decide +kernel) rfl rfl (by rw [o_Fs0.2.1]; decide) dX12_growth_31 (fun H locs hP hD hS => ?_)
      have hP : va_P (dC, dI) vwCl [(Ad0, .inr (15, (Fs0.set 0 (.int 1)))), (Ad1, .inl (Ka0, 5, .inl Fa0))] H := hP
      have hD : va_D A [(Ad0, .inr (15, (Fs0.set 0 (.int 1)))), (Ad1, .inl (Ka0, 5, .inl Fa0))] := hD
      have o_s127 := ow_set o_Fs0 0 (.int 1) (by decide) (l' := [(0, .int 1), (48, .ref Ad1), (75, .int 0)]) (w' := [0]) rfl rfl
      generalize (Fs0.set 0 (.int 1)) = s127 at hP hD o_s127
      refine lv_aload_n hx hb dX12_growth_34 rfl (lv_at hl 0 rfl) ?_
      refine va_get (D := (dC, dI)) (ci := 15) (v := .int 1) (C := RX12) (T := TX12) (N := 150) hx hb hts (in_z_X12_growth_X12) hown hK hP 0 rfl rfl 0 (by decide) (hts (.fieldLink RX12 388 "HeapWorksModel" "thrown" "I") (by decide +kernel)) (fun _ h9 => h9) (ow_at o_s127 0 rfl) dX12_growth_35 ?_
      refine lv_if_le (tgt := 43) hx hb dX12_growth_38 (by decide) (fun c128 => absurd c128 (by decide)) (fun c128 => ?_)
      refine lv_iconst (v := 0) hx hb dX12_growth_41 (by decide) ?_
      have hP9 := hP.sub (ws' := [(Ad0, .inr (15, s127)), (Ad1, .inl (Ka0, 5, .inl Fa0))]) [0, 1] rfl
      have hD9 := hD.sub (ws' := [(Ad0, .inr (15, s127)), (Ad1, .inl (Ka0, 5, .inl Fa0))]) [0, 1] (by decide) rfl
      have hK9 := hK.sub (tys' := [(Ka0, .int)]) [0] rfl
      exact W.iret (v := 0) hx hb hr (fun t ht hW => ⟨⟨0, s127, rfl, (Or.inr (Or.inr (Or.inl ⟨c107, c108, c118, rfl, o_s127⟩))), by rw [ht]; exact hP9, va_K.moved hW.alike hK9, hD9⟩, hS.F ht⟩) hS.2.2 dX12_growth_42
    · skip
      subst er122
      refine lv_if_eq (tgt := 26) hx hb dX12_growth_14 (by decide) (fun c129 => ?_) (fun c129 => absurd c129 (by decide))
      refine lv_iconst (v := 1) hx hb dX12_growth_26 (by decide) ?_
      refine lv_goto (tgt := 31) hx hb dX12_growth_27 (by decide) ?_
      refine va_put (D := (dC, dI)) (ci := 15) (v := .int 1) (ty := .int) (C := RX12) (T := TX12) (N := 150) hx hb hts (in_z_X12_growth_X12) tyX12 tyX12_ok nmX12 hown hK hP hD hS 0 rfl rfl 0 (by decide) (hts (.fieldLink RX12 388 "HeapWorksModel" "thrown" "I") (by decide +kernel)) (fun _ h9 => h9) rfl (by decide +kernel) rfl rfl (by rw [o_Fs0.2.1]; decide) dX12_growth_31 (fun H locs hP hD hS => ?_)
      have hP : va_P (dC, dI) vwCl [(Ad0, .inr (15, (Fs0.set 0 (.int 1)))), (Ad1, .inl (Ka0, 5, .inl Fa0))] H := hP
      have hD : va_D A [(Ad0, .inr (15, (Fs0.set 0 (.int 1)))), (Ad1, .inl (Ka0, 5, .inl Fa0))] := hD
      have o_s130 := ow_set o_Fs0 0 (.int 1) (by decide) (l' := [(0, .int 1), (48, .ref Ad1), (75, .int 0)]) (w' := [0]) rfl rfl
      generalize (Fs0.set 0 (.int 1)) = s130 at hP hD o_s130
      refine lv_aload_n hx hb dX12_growth_34 rfl (lv_at hl 0 rfl) ?_
      refine va_get (D := (dC, dI)) (ci := 15) (v := .int 1) (C := RX12) (T := TX12) (N := 150) hx hb hts (in_z_X12_growth_X12) hown hK hP 0 rfl rfl 0 (by decide) (hts (.fieldLink RX12 388 "HeapWorksModel" "thrown" "I") (by decide +kernel)) (fun _ h9 => h9) (ow_at o_s130 0 rfl) dX12_growth_35 ?_
      refine lv_if_le (tgt := 43) hx hb dX12_growth_38 (by decide) (fun c131 => absurd c131 (by decide)) (fun c131 => ?_)
      refine lv_iconst (v := 0) hx hb dX12_growth_41 (by decide) ?_
      have hP9 := hP.sub (ws' := [(Ad0, .inr (15, s130)), (Ad1, .inl (Ka0, 5, .inl Fa0))]) [0, 1] rfl
      have hD9 := hD.sub (ws' := [(Ad0, .inr (15, s130)), (Ad1, .inl (Ka0, 5, .inl Fa0))]) [0, 1] (by decide) rfl
      have hK9 := hK.sub (tys' := [(Ka0, .int)]) [0] rfl
      exact W.iret (v := 0) hx hb hr (fun t ht hW => ⟨⟨0, s130, rfl, (Or.inr (Or.inr (Or.inr (Or.inl ⟨c107, c108, c120, c121, rfl, o_s130⟩)))), by rw [ht]; exact hP9, va_K.moved hW.alike hK9, hD9⟩, hS.F ht⟩) hS.2.2 dX12_growth_42
    · skip
      subst er125
      refine lv_if_eq (tgt := 26) hx hb dX12_growth_14 (by decide) (fun c132 => absurd c132 (by decide)) (fun c132 => ?_)
      refine lv_iload_n hx hb dX12_growth_17 rfl (lv_at hl 3 rfl) ?_
      refine lv_if_lt (tgt := 26) hx hb dX12_growth_18 (by decide) (fun c133 => ?_) (fun c133 => ?_)
      · skip
        refine lv_iconst (v := 1) hx hb dX12_growth_26 (by decide) ?_
        refine lv_goto (tgt := 31) hx hb dX12_growth_27 (by decide) ?_
        refine va_put (D := (dC, dI)) (ci := 15) (v := .int 1) (ty := .int) (C := RX12) (T := TX12) (N := 150) hx hb hts (in_z_X12_growth_X12) tyX12 tyX12_ok nmX12 hown hK hP hD hS 0 rfl rfl 0 (by decide) (hts (.fieldLink RX12 388 "HeapWorksModel" "thrown" "I") (by decide +kernel)) (fun _ h9 => h9) rfl (by decide +kernel) rfl rfl (by rw [o_Fs0.2.1]; decide) dX12_growth_31 (fun H locs hP hD hS => ?_)
        have hP : va_P (dC, dI) vwCl [(Ad0, .inr (15, (Fs0.set 0 (.int 1)))), (Ad1, .inl (Ka0, 5, .inl Fa0))] H := hP
        have hD : va_D A [(Ad0, .inr (15, (Fs0.set 0 (.int 1)))), (Ad1, .inl (Ka0, 5, .inl Fa0))] := hD
        have o_s134 := ow_set o_Fs0 0 (.int 1) (by decide) (l' := [(0, .int 1), (48, .ref Ad1), (75, .int 0)]) (w' := [0]) rfl rfl
        generalize (Fs0.set 0 (.int 1)) = s134 at hP hD o_s134
        refine lv_aload_n hx hb dX12_growth_34 rfl (lv_at hl 0 rfl) ?_
        refine va_get (D := (dC, dI)) (ci := 15) (v := .int 1) (C := RX12) (T := TX12) (N := 150) hx hb hts (in_z_X12_growth_X12) hown hK hP 0 rfl rfl 0 (by decide) (hts (.fieldLink RX12 388 "HeapWorksModel" "thrown" "I") (by decide +kernel)) (fun _ h9 => h9) (ow_at o_s134 0 rfl) dX12_growth_35 ?_
        refine lv_if_le (tgt := 43) hx hb dX12_growth_38 (by decide) (fun c135 => absurd c135 (by decide)) (fun c135 => ?_)
        refine lv_iconst (v := 0) hx hb dX12_growth_41 (by decide) ?_
        have hP9 := hP.sub (ws' := [(Ad0, .inr (15, s134)), (Ad1, .inl (Ka0, 5, .inl Fa0))]) [0, 1] rfl
        have hD9 := hD.sub (ws' := [(Ad0, .inr (15, s134)), (Ad1, .inl (Ka0, 5, .inl Fa0))]) [0, 1] (by decide) rfl
        have hK9 := hK.sub (tys' := [(Ka0, .int)]) [0] rfl
        exact W.iret (v := 0) hx hb hr (fun t ht hW => ⟨⟨0, s134, rfl, (Or.inr (Or.inr (Or.inr (Or.inr (Or.inl ⟨c107, c108, c123, c124, c133, rfl, o_s134⟩))))), by rw [ht]; exact hP9, va_K.moved hW.alike hK9, hD9⟩, hS.F ht⟩) hS.2.2 dX12_growth_42
      · skip
        refine lv_iload_n hx hb dX12_growth_21 rfl (lv_at hl 3 rfl) ?_
        refine lv_iconst (v := 2) hx hb dX12_growth_22 (by decide) ?_
        refine lv_icmp_le (tgt := 30) hx hb dX12_growth_23 (by decide) (fun c136 => ?_) (fun c136 => ?_)
        · skip
          refine lv_iconst (v := 0) hx hb dX12_growth_30 (by decide) ?_
          refine va_put (D := (dC, dI)) (ci := 15) (v := .int 0) (ty := .int) (C := RX12) (T := TX12) (N := 150) hx hb hts (in_z_X12_growth_X12) tyX12 tyX12_ok nmX12 hown hK hP hD hS 0 rfl rfl 0 (by decide) (hts (.fieldLink RX12 388 "HeapWorksModel" "thrown" "I") (by decide +kernel)) (fun _ h9 => h9) rfl (by decide +kernel) rfl rfl (by rw [o_Fs0.2.1]; decide) dX12_growth_31 (fun H locs hP hD hS => ?_)
          have hP : va_P (dC, dI) vwCl [(Ad0, .inr (15, (Fs0.set 0 (.int 0)))), (Ad1, .inl (Ka0, 5, .inl Fa0))] H := hP
          have hD : va_D A [(Ad0, .inr (15, (Fs0.set 0 (.int 0)))), (Ad1, .inl (Ka0, 5, .inl Fa0))] := hD
          have o_s137 := ow_set o_Fs0 0 (.int 0) (by decide) (l' := [(0, .int 0), (48, .ref Ad1), (75, .int 0)]) (w' := [0]) rfl rfl
          generalize (Fs0.set 0 (.int 0)) = s137 at hP hD o_s137
          refine lv_aload_n hx hb dX12_growth_34 rfl (lv_at hl 0 rfl) ?_
          refine va_get (D := (dC, dI)) (ci := 15) (v := .int 0) (C := RX12) (T := TX12) (N := 150) hx hb hts (in_z_X12_growth_X12) hown hK hP 0 rfl rfl 0 (by decide) (hts (.fieldLink RX12 388 "HeapWorksModel" "thrown" "I") (by decide +kernel)) (fun _ h9 => h9) (ow_at o_s137 0 rfl) dX12_growth_35 ?_
          refine lv_if_le (tgt := 43) hx hb dX12_growth_38 (by decide) (fun c138 => ?_) (fun c138 => absurd c138 (by decide))
          refine lv_aload_n hx hb dX12_growth_43 rfl (lv_at hl 0 rfl) ?_
          refine lv_iconst (v := 0) hx hb dX12_growth_44 (by decide) ?_
          refine va_put (D := (dC, dI)) (ci := 15) (v := .int 0) (ty := .int) (C := RX12) (T := TX12) (N := 150) hx hb hts (in_z_X12_growth_X12) tyX12 tyX12_ok nmX12 hown hK hP hD hS 0 rfl rfl 75 (by decide) (hts (.fieldLink RX12 612 "HeapWorksModel" "grownMany" "I") (by decide +kernel)) (fun _ h9 => h9) rfl (by decide +kernel) rfl rfl (by rw [o_s137.2.1]; decide) dX12_growth_45 (fun H locs hP hD hS => ?_)
          have hP : va_P (dC, dI) vwCl [(Ad0, .inr (15, (s137.set 75 (.int 0)))), (Ad1, .inl (Ka0, 5, .inl Fa0))] H := hP
          have hD : va_D A [(Ad0, .inr (15, (s137.set 75 (.int 0)))), (Ad1, .inl (Ka0, 5, .inl Fa0))] := hD
          have o_s139 := ow_set o_s137 75 (.int 0) (by decide) (l' := [(75, .int 0), (0, .int 0), (48, .ref Ad1)]) (w' := [75, 0]) rfl rfl
          generalize (s137.set 75 (.int 0)) = s139 at hP hD o_s139
          refine lv_iload_n hx hb dX12_growth_48 rfl (lv_at hl 3 rfl) ?_
          refine lv_iconst (v := 1) hx hb dX12_growth_49 (by decide) ?_
          refine lv_icmp_ne (tgt := 57) hx hb dX12_growth_50 (by decide) (fun c140 => ?_) (fun c140 => ?_)
          · skip
            refine lv_iload_n hx hb dX12_growth_57 rfl (lv_at hl 2 rfl) ?_
            refine lv_istore (lv' := [(4, .int Va1), (0, .ref Ad0), (1, .int Va0), (2, .int Va1), (3, .int Va2)]) hx hb dX12_growth_58 hl (by decide) rfl (fun ls hl => ?_)
            refine lv_iload_n hx hb dX12_growth_60 rfl (lv_at hl 4 rfl) ?_
            refine lv_iconst (v := 1) hx hb dX12_growth_61 (by decide) ?_
            refine lv_icmp_ne (tgt := 69) hx hb dX12_growth_62 (by decide) (fun c141 => ?_) (fun c141 => ?_)
            · skip
              refine lv_iload_n hx hb dX12_growth_69 rfl (lv_at hl 2 rfl) ?_
              refine lv_istore (lv' := [(5, .int Va0), (4, .int Va1), (0, .ref Ad0), (1, .int Va0), (2, .int Va1), (3, .int Va2)]) hx hb dX12_growth_70 hl (by decide) rfl (fun ls hl => ?_)
              refine lv_iconst (v := 0) hx hb dX12_growth_72 (by decide) ?_
              refine lv_istore (lv' := [(6, .int 0), (5, .int Va0), (4, .int Va1), (0, .ref Ad0), (1, .int Va0), (2, .int Va1), (3, .int Va2)]) hx hb dX12_growth_73 hl (by decide) rfl (fun ls hl => ?_)
              refine lv_iload hx hb dX12_growth_75 (lv_at hl 0 rfl) ?_
              refine lv_aload_n hx hb dX12_growth_77 rfl (lv_at hl 3 rfl) ?_
              refine va_get (D := (dC, dI)) (ci := 15) (v := .ref Ad1) (C := RX12) (T := TX12) (N := 150) hx hb hts (in_z_X12_growth_X12) hown hK hP 0 rfl rfl 48 (by decide) (hts (.fieldLink RX12 183 "HeapWorksModel" "things" "[I") (by decide +kernel)) (fun _ h9 => h9) (ow_at o_s139 2 rfl) dX12_growth_78 ?_
              refine lv_iload hx hb dX12_growth_81 (lv_at hl 2 rfl) ?_
              refine va_iald hx hb hK hP 1 0 rfl rfl (by rw [vp_in_iff]; (try simp only [i_lt, i_le, i_eq, kc_0, kc_4] at c123 c124); omega) dX12_growth_83 ?_
              refine lv_topi (fun x142 ex142 => ?_)
              obtain rfl : x142 = 0 := ex142.trans (hz_Fa0 _)
              refine lv_icmp_ge (tgt := 173) hx hb dX12_growth_84 (by decide) (fun c143 => ?_) (fun c143 => absurd c143 (by decide))
              refine lv_aload_n hx hb dX12_growth_173 rfl (lv_at hl 3 rfl) ?_
              refine va_get (D := (dC, dI)) (ci := 15) (v := .int 0) (C := RX12) (T := TX12) (N := 150) hx hb hts (in_z_X12_growth_X12) hown hK hP 0 rfl rfl 75 (by decide) (hts (.fieldLink RX12 612 "HeapWorksModel" "grownMany" "I") (by decide +kernel)) (fun _ h9 => h9) (ow_at o_s139 0 rfl) dX12_growth_174 ?_
              have hP9 := hP.sub (ws' := [(Ad0, .inr (15, s139)), (Ad1, .inl (Ka0, 5, .inl Fa0))]) [0, 1] rfl
              have hD9 := hD.sub (ws' := [(Ad0, .inr (15, s139)), (Ad1, .inl (Ka0, 5, .inl Fa0))]) [0, 1] (by decide) rfl
              have hK9 := hK.sub (tys' := [(Ka0, .int)]) [0] rfl
              exact W.iret (v := 0) hx hb hr (fun t ht hW => ⟨⟨0, s139, rfl, (Or.inr (Or.inr (Or.inr (Or.inr (Or.inr (Or.inl ⟨c107, c108, c123, c124, c133, c136, c140, c141, rfl, o_s139⟩)))))), by rw [ht]; exact hP9, va_K.moved hW.alike hK9, hD9⟩, hS.F ht⟩) hS.2.2 dX12_growth_177
            · skip
              refine lv_iload_n hx hb dX12_growth_65 rfl (lv_at hl 3 rfl) ?_
              refine lv_goto (tgt := 70) hx hb dX12_growth_66 (by decide) ?_
              refine lv_istore (lv' := [(5, .int Va1), (4, .int Va1), (0, .ref Ad0), (1, .int Va0), (2, .int Va1), (3, .int Va2)]) hx hb dX12_growth_70 hl (by decide) rfl (fun ls hl => ?_)
              refine lv_iconst (v := 0) hx hb dX12_growth_72 (by decide) ?_
              refine lv_istore (lv' := [(6, .int 0), (5, .int Va1), (4, .int Va1), (0, .ref Ad0), (1, .int Va0), (2, .int Va1), (3, .int Va2)]) hx hb dX12_growth_73 hl (by decide) rfl (fun ls hl => ?_)
              refine lv_iload hx hb dX12_growth_75 (lv_at hl 0 rfl) ?_
              refine lv_aload_n hx hb dX12_growth_77 rfl (lv_at hl 3 rfl) ?_
              refine va_get (D := (dC, dI)) (ci := 15) (v := .ref Ad1) (C := RX12) (T := TX12) (N := 150) hx hb hts (in_z_X12_growth_X12) hown hK hP 0 rfl rfl 48 (by decide) (hts (.fieldLink RX12 183 "HeapWorksModel" "things" "[I") (by decide +kernel)) (fun _ h9 => h9) (ow_at o_s139 2 rfl) dX12_growth_78 ?_
              refine lv_iload hx hb dX12_growth_81 (lv_at hl 2 rfl) ?_
              refine va_iald hx hb hK hP 1 0 rfl rfl (by rw [vp_in_iff]; (try simp only [i_lt, i_le, i_eq, kc_0, kc_4] at c123 c124); omega) dX12_growth_83 ?_
              refine lv_topi (fun x144 ex144 => ?_)
              obtain rfl : x144 = 0 := ex144.trans (hz_Fa0 _)
              refine lv_icmp_ge (tgt := 173) hx hb dX12_growth_84 (by decide) (fun c145 => ?_) (fun c145 => absurd c145 (by decide))
              refine lv_aload_n hx hb dX12_growth_173 rfl (lv_at hl 3 rfl) ?_
              refine va_get (D := (dC, dI)) (ci := 15) (v := .int 0) (C := RX12) (T := TX12) (N := 150) hx hb hts (in_z_X12_growth_X12) hown hK hP 0 rfl rfl 75 (by decide) (hts (.fieldLink RX12 612 "HeapWorksModel" "grownMany" "I") (by decide +kernel)) (fun _ h9 => h9) (ow_at o_s139 0 rfl) dX12_growth_174 ?_
              have hP9 := hP.sub (ws' := [(Ad0, .inr (15, s139)), (Ad1, .inl (Ka0, 5, .inl Fa0))]) [0, 1] rfl
              have hD9 := hD.sub (ws' := [(Ad0, .inr (15, s139)), (Ad1, .inl (Ka0, 5, .inl Fa0))]) [0, 1] (by decide) rfl
              have hK9 := hK.sub (tys' := [(Ka0, .int)]) [0] rfl
              exact W.iret (v := 0) hx hb hr (fun t ht hW => ⟨⟨0, s139, rfl, (Or.inr (Or.inr (Or.inr (Or.inr (Or.inr (Or.inr (Or.inl ⟨c107, c108, c123, c124, c133, c136, c140, c141, rfl, o_s139⟩))))))), by rw [ht]; exact hP9, va_K.moved hW.alike hK9, hD9⟩, hS.F ht⟩) hS.2.2 dX12_growth_177
          · skip
            refine lv_iload_n hx hb dX12_growth_53 rfl (lv_at hl 1 rfl) ?_
            refine lv_goto (tgt := 58) hx hb dX12_growth_54 (by decide) ?_
            refine lv_istore (lv' := [(4, .int Va0), (0, .ref Ad0), (1, .int Va0), (2, .int Va1), (3, .int Va2)]) hx hb dX12_growth_58 hl (by decide) rfl (fun ls hl => ?_)
            refine lv_iload_n hx hb dX12_growth_60 rfl (lv_at hl 4 rfl) ?_
            refine lv_iconst (v := 1) hx hb dX12_growth_61 (by decide) ?_
            refine lv_icmp_ne (tgt := 69) hx hb dX12_growth_62 (by decide) (fun c146 => (by exfalso; have bd_Va2 := i_bd Va2; (try simp only [i_lt, i_le, i_eq, kc_0, kc_2, kc_1] at c133 c136 c140 c146); omega)) (fun c146 => ?_)
            refine lv_iload_n hx hb dX12_growth_65 rfl (lv_at hl 3 rfl) ?_
            refine lv_goto (tgt := 70) hx hb dX12_growth_66 (by decide) ?_
            refine lv_istore (lv' := [(5, .int Va1), (4, .int Va0), (0, .ref Ad0), (1, .int Va0), (2, .int Va1), (3, .int Va2)]) hx hb dX12_growth_70 hl (by decide) rfl (fun ls hl => ?_)
            refine lv_iconst (v := 0) hx hb dX12_growth_72 (by decide) ?_
            refine lv_istore (lv' := [(6, .int 0), (5, .int Va1), (4, .int Va0), (0, .ref Ad0), (1, .int Va0), (2, .int Va1), (3, .int Va2)]) hx hb dX12_growth_73 hl (by decide) rfl (fun ls hl => ?_)
            refine lv_iload hx hb dX12_growth_75 (lv_at hl 0 rfl) ?_
            refine lv_aload_n hx hb dX12_growth_77 rfl (lv_at hl 3 rfl) ?_
            refine va_get (D := (dC, dI)) (ci := 15) (v := .ref Ad1) (C := RX12) (T := TX12) (N := 150) hx hb hts (in_z_X12_growth_X12) hown hK hP 0 rfl rfl 48 (by decide) (hts (.fieldLink RX12 183 "HeapWorksModel" "things" "[I") (by decide +kernel)) (fun _ h9 => h9) (ow_at o_s139 2 rfl) dX12_growth_78 ?_
            refine lv_iload hx hb dX12_growth_81 (lv_at hl 2 rfl) ?_
            refine va_iald hx hb hK hP 1 0 rfl rfl (by rw [vp_in_iff]; (try simp only [i_lt, i_le, i_eq, kc_0, kc_4] at c107 c108); omega) dX12_growth_83 ?_
            refine lv_topi (fun x147 ex147 => ?_)
            obtain rfl : x147 = 0 := ex147.trans (hz_Fa0 _)
            refine lv_icmp_ge (tgt := 173) hx hb dX12_growth_84 (by decide) (fun c148 => ?_) (fun c148 => absurd c148 (by decide))
            refine lv_aload_n hx hb dX12_growth_173 rfl (lv_at hl 3 rfl) ?_
            refine va_get (D := (dC, dI)) (ci := 15) (v := .int 0) (C := RX12) (T := TX12) (N := 150) hx hb hts (in_z_X12_growth_X12) hown hK hP 0 rfl rfl 75 (by decide) (hts (.fieldLink RX12 612 "HeapWorksModel" "grownMany" "I") (by decide +kernel)) (fun _ h9 => h9) (ow_at o_s139 0 rfl) dX12_growth_174 ?_
            have hP9 := hP.sub (ws' := [(Ad0, .inr (15, s139)), (Ad1, .inl (Ka0, 5, .inl Fa0))]) [0, 1] rfl
            have hD9 := hD.sub (ws' := [(Ad0, .inr (15, s139)), (Ad1, .inl (Ka0, 5, .inl Fa0))]) [0, 1] (by decide) rfl
            have hK9 := hK.sub (tys' := [(Ka0, .int)]) [0] rfl
            exact W.iret (v := 0) hx hb hr (fun t ht hW => ⟨⟨0, s139, rfl, (Or.inr (Or.inr (Or.inr (Or.inr (Or.inr (Or.inr (Or.inr (Or.inl ⟨c107, c108, c123, c124, c133, c136, c140, c146, rfl, o_s139⟩)))))))), by rw [ht]; exact hP9, va_K.moved hW.alike hK9, hD9⟩, hS.F ht⟩) hS.2.2 dX12_growth_177
        · skip
          refine lv_iconst (v := 1) hx hb dX12_growth_26 (by decide) ?_
          refine lv_goto (tgt := 31) hx hb dX12_growth_27 (by decide) ?_
          refine va_put (D := (dC, dI)) (ci := 15) (v := .int 1) (ty := .int) (C := RX12) (T := TX12) (N := 150) hx hb hts (in_z_X12_growth_X12) tyX12 tyX12_ok nmX12 hown hK hP hD hS 0 rfl rfl 0 (by decide) (hts (.fieldLink RX12 388 "HeapWorksModel" "thrown" "I") (by decide +kernel)) (fun _ h9 => h9) rfl (by decide +kernel) rfl rfl (by rw [o_Fs0.2.1]; decide) dX12_growth_31 (fun H locs hP hD hS => ?_)
          have hP : va_P (dC, dI) vwCl [(Ad0, .inr (15, (Fs0.set 0 (.int 1)))), (Ad1, .inl (Ka0, 5, .inl Fa0))] H := hP
          have hD : va_D A [(Ad0, .inr (15, (Fs0.set 0 (.int 1)))), (Ad1, .inl (Ka0, 5, .inl Fa0))] := hD
          have o_s149 := ow_set o_Fs0 0 (.int 1) (by decide) (l' := [(0, .int 1), (48, .ref Ad1), (75, .int 0)]) (w' := [0]) rfl rfl
          generalize (Fs0.set 0 (.int 1)) = s149 at hP hD o_s149
          refine lv_aload_n hx hb dX12_growth_34 rfl (lv_at hl 0 rfl) ?_
          refine va_get (D := (dC, dI)) (ci := 15) (v := .int 1) (C := RX12) (T := TX12) (N := 150) hx hb hts (in_z_X12_growth_X12) hown hK hP 0 rfl rfl 0 (by decide) (hts (.fieldLink RX12 388 "HeapWorksModel" "thrown" "I") (by decide +kernel)) (fun _ h9 => h9) (ow_at o_s149 0 rfl) dX12_growth_35 ?_
          refine lv_if_le (tgt := 43) hx hb dX12_growth_38 (by decide) (fun c150 => absurd c150 (by decide)) (fun c150 => ?_)
          refine lv_iconst (v := 0) hx hb dX12_growth_41 (by decide) ?_
          have hP9 := hP.sub (ws' := [(Ad0, .inr (15, s149)), (Ad1, .inl (Ka0, 5, .inl Fa0))]) [0, 1] rfl
          have hD9 := hD.sub (ws' := [(Ad0, .inr (15, s149)), (Ad1, .inl (Ka0, 5, .inl Fa0))]) [0, 1] (by decide) rfl
          have hK9 := hK.sub (tys' := [(Ka0, .int)]) [0] rfl
          exact W.iret (v := 0) hx hb hr (fun t ht hW => ⟨⟨0, s149, rfl, (Or.inr (Or.inr (Or.inr (Or.inr (Or.inr (Or.inr (Or.inr (Or.inr (⟨c107, c108, c123, c124, c133, c136, rfl, o_s149⟩))))))))), by rw [ht]; exact hP9, va_K.moved hW.alike hK9, hD9⟩, hS.F ht⟩) hS.2.2 dX12_growth_42

def l_z_X12_grown : List Cond := [.fieldLink RX12 388 "HeapWorksModel" "thrown" "I", .fieldLink RX12 612 "HeapWorksModel" "grownMany" "I"]
def w_z_X12_grown : List Cond := .code yX12_grown cX12_grown 2 (some .int) :: (l_z_X12_grown ++ (wsX120))
theorem in_z_X12_grown_X12 : ∀ w ∈ wsX120, w ∈ w_z_X12_grown := fun w h => List.mem_cons_of_mem _ (List.mem_append_right _ (h))
set_option maxHeartbeats 4000000 in
set_option maxRecDepth 100000 in
theorem z_X12_grown (l : Launch) (dC : Nat → ClassId) (dI : Nat → Nat → Nat) (sz : Nat) (Ad0 : Nat) (Fs0 : List Value) (Va0 : Int32) (k_Fs0 : fh Fs0 150 [(75, .int 0)])  : Met l yX12_grown w_z_X12_grown ({ frames := 0, cells := 0, slots := 0, locals := 0 }) (va_Pc [.ref Ad0, .int Va0] (fun U => U.heap.size = sz ∧ Wd dC dI [] (fun _ => True) [(Ad0, .inr (15, Fs0))] U)) (va_Qi (fun (r : Int32) (u : List Value) => (Va0 < 0 ∧ r = (-1) ∧ ow Fs0 (u) 150 [0] [(0, .int 0), (75, .int 0)]) ∨ (¬ Va0 < 0 ∧ 0 ≤ Va0 ∧ r = (-1) ∧ ow Fs0 (u) 150 [0] [(0, .int 0), (75, .int 0)])) (fun (u : List Value) t => Wd dC dI [] (va_A [(Ad0, .inr (15, Fs0))] sz) [(Ad0, .inr (15, (u)))] t) (va_A [(Ad0, .inr (15, Fs0))] sz))  0 0 (va_A [(Ad0, .inr (15, Fs0))] sz) := by
  refine Met.ofW (cc := cX12_grown) (maxL := 2) (ret := (some .int)) (by decide) rfl ?_
  intro p e s m args below meth c s₁ B hml hv
  obtain ⟨rfl, hsz, hP, hK, hD0⟩ := hv
  have hx := B.exec
  have hb := B.bytes
  have hr := B.returns
  have hts := atoms_spec (ws := w_z_X12_grown) B.pre
  have hown : s.vm.findClass RX12 = some m.cls := findClass_of_methodNamed B.named
  have hlocks := B.notSynchronized
  subst hsz
  have hD := hD0.self (sz := s.heap.size)
  generalize hAe : va_A [(Ad0, .inr (15, Fs0))] s.heap.size = A at hD ⊢
  have hA : ∀ q : Nat, s.heap.size ≤ q → A q := fun q h => by rw [← hAe]; exact Or.inr h
  have hS : va_S A s.heap s.heap [] := va_S.rf
  have hl := lv_entry ([.ref Ad0, .int Va0]) (n := 2) (Nat.le_of_ble_eq_true rfl)
  rw [lg_entry_eq]
  generalize (lg_sl ([.ref Ad0, .int Va0]) ++ List.replicate (2 - (lg_sl ([.ref Ad0, .int Va0])).length) Slot.unset).toArray = ls at hl ⊢
  have hl : lv_has ls 2 [(0, .ref Ad0), (1, .int Va0)] := hl
  have o_Fs0 := ow_0 k_Fs0
  refine lv_aload_n hx hb dX12_grown_0 rfl (lv_at hl 0 rfl) ?_
  refine lv_iconst (v := 0) hx hb dX12_grown_1 (by decide) ?_
  refine va_put (D := (dC, dI)) (ci := 15) (v := .int 0) (ty := .int) (C := RX12) (T := TX12) (N := 150) hx hb hts (in_z_X12_grown_X12) tyX12 tyX12_ok nmX12 hown hK hP hD hS 0 rfl rfl 0 (by decide) (hts (.fieldLink RX12 388 "HeapWorksModel" "thrown" "I") (by decide +kernel)) (fun _ h9 => h9) rfl (by decide +kernel) rfl rfl (by rw [o_Fs0.2.1]; decide) dX12_grown_2 (fun H locs hP hD hS => ?_)
  have hP : va_P (dC, dI) vwCl [(Ad0, .inr (15, (Fs0.set 0 (.int 0))))] H := hP
  have hD : va_D A [(Ad0, .inr (15, (Fs0.set 0 (.int 0))))] := hD
  have o_s101 := ow_set o_Fs0 0 (.int 0) (by decide) (l' := [(0, .int 0), (75, .int 0)]) (w' := [0]) rfl rfl
  generalize (Fs0.set 0 (.int 0)) = s101 at hP hD o_s101
  refine lv_iload_n hx hb dX12_grown_5 rfl (lv_at hl 1 rfl) ?_
  refine lv_if_lt (tgt := 26) hx hb dX12_grown_6 (by decide) (fun c102 => ?_) (fun c102 => ?_)
  · skip
    refine lv_iconst (v := (-1)) hx hb dX12_grown_26 (by decide) ?_
    have hP9 := hP.sub (ws' := [(Ad0, .inr (15, s101))]) [0] rfl
    have hD9 := hD.sub (ws' := [(Ad0, .inr (15, s101))]) [0] (by decide) rfl
    have hK9 := hK.sub (tys' := []) [] rfl
    exact W.iret (v := (-1)) hx hb hr (fun t ht hW => ⟨⟨(-1), s101, rfl, (Or.inl ⟨c102, rfl, o_s101⟩), by rw [ht]; exact hP9, va_K.moved hW.alike hK9, hD9⟩, hS.F ht⟩) hS.2.2 dX12_grown_27
  · skip
    refine lv_iload_n hx hb dX12_grown_9 rfl (lv_at hl 1 rfl) ?_
    refine lv_aload_n hx hb dX12_grown_10 rfl (lv_at hl 0 rfl) ?_
    refine va_get (D := (dC, dI)) (ci := 15) (v := .int 0) (C := RX12) (T := TX12) (N := 150) hx hb hts (in_z_X12_grown_X12) hown hK hP 0 rfl rfl 75 (by decide) (hts (.fieldLink RX12 612 "HeapWorksModel" "grownMany" "I") (by decide +kernel)) (fun _ h9 => h9) (ow_at o_s101 1 rfl) dX12_grown_11 ?_
    refine lv_icmp_ge (tgt := 26) hx hb dX12_grown_14 (by decide) (fun c103 => ?_) (fun c103 => (by exfalso; have bd_Va0 := i_bd Va0; (try simp only [i_lt, i_le, i_eq, kc_0] at c102 c103); omega))
    refine lv_iconst (v := (-1)) hx hb dX12_grown_26 (by decide) ?_
    have hP9 := hP.sub (ws' := [(Ad0, .inr (15, s101))]) [0] rfl
    have hD9 := hD.sub (ws' := [(Ad0, .inr (15, s101))]) [0] (by decide) rfl
    have hK9 := hK.sub (tys' := []) [] rfl
    exact W.iret (v := (-1)) hx hb hr (fun t ht hW => ⟨⟨(-1), s101, rfl, (Or.inr (⟨c102, c103, rfl, o_s101⟩)), by rw [ht]; exact hP9, va_K.moved hW.alike hK9, hD9⟩, hS.F ht⟩) hS.2.2 dX12_grown_27

def l_z_X12_like : List Cond := [.methodLink RX12 600 yX12_isThing, .instanceMethod yX12_isThing, .selects RX12 yX12_isThing yX12_isThing, .initialized RX12, .fieldLink RX12 388 "HeapWorksModel" "thrown" "I", .code yX12_isThing cX12_isThing 3 (some .boolean), .methodLink RX12 542 yX12_isPicture, .instanceMethod yX12_isPicture, .selects RX12 yX12_isPicture yX12_isPicture, .fieldLink RX12 183 "HeapWorksModel" "things" "[I", .code yX12_isPicture cX12_isPicture 2 (some .boolean)]
def w_z_X12_like : List Cond := .code yX12_like cX12_like 15 (some .boolean) :: (l_z_X12_like ++ (wsX120))
theorem in_z_X12_like_X12 : ∀ w ∈ wsX120, w ∈ w_z_X12_like := fun w h => List.mem_cons_of_mem _ (List.mem_append_right _ (h))
theorem g_z_X12_like_z_X12_isThing_600 : GoodIn w_z_X12_like (wsV RX12 600 RX12 yX12_isThing w_z_X12_isThing) := goodIn_app (goodIn_r (([.methodLink RX12 600 yX12_isThing, .instanceMethod yX12_isThing, .selects RX12 yX12_isThing yX12_isThing, .initialized RX12] : List Cond)) [1, 2, 3, 4] rfl (by decide +kernel)) (goodIn_ca (goodIn_r (.code yX12_isThing cX12_isThing 3 (some .boolean) :: l_z_X12_isThing) [6, 7, 8, 9, 4, 10, 11] rfl (by decide +kernel)) (goodIn_in (in_z_X12_like_X12) gd_X12))
set_option maxHeartbeats 4000000 in
set_option maxRecDepth 100000 in
theorem z_X12_like (l : Launch) (dC : Nat → ClassId) (dI : Nat → Nat → Nat) (sz : Nat) (Ad0 : Nat) (Fs0 : List Value) (Ad1 : Nat) (Fa0 : Nat → Int32) (Ka0 : ClassId) (Va0 : Int32) (Va1 : Int32) (Va2 : Int32) (Va3 : Int32) (k_Fs0 : fh Fs0 150 [(0, .int 0), (48, .ref Ad1)]) (hz_Fa0 : ∀ j, Fa0 j = 0) : Met l yX12_like w_z_X12_like ({ frames := 2, cells := 0, slots := 0, locals := 43 }) (va_Pc [.ref Ad0, .int Va0, .int Va1, .int Va2, .int Va3] (fun U => U.heap.size = sz ∧ Wd dC dI [(Ka0, .int)] (fun _ => True) [(Ad0, .inr (15, Fs0)), (Ad1, .inl (Ka0, 5, .inl Fa0))] U)) (va_Qi (fun (r : Int32) (u : List Value) => (Va0 < 0 ∧ r = 0 ∧ ow Fs0 (u) 150 [0] [(0, .int 1), (48, .ref Ad1)]) ∨ (¬ Va0 < 0 ∧ 4 ≤ Va0 ∧ r = 0 ∧ ow Fs0 (u) 150 [0] [(0, .int 1), (48, .ref Ad1)]) ∨ (¬ Va0 < 0 ∧ ¬ 4 ≤ Va0 ∧ Va1 < 0 ∧ r = 0 ∧ ow Fs0 (u) 150 [0] [(0, .int 1), (48, .ref Ad1)]) ∨ (¬ Va0 < 0 ∧ ¬ 4 ≤ Va0 ∧ ¬ Va1 < 0 ∧ 0 ≤ Va1 ∧ r = 0 ∧ ow Fs0 (u) 150 [0] [(0, .int 1), (48, .ref Ad1)])) (fun (u : List Value) t => Wd dC dI [(Ka0, .int)] (va_A [(Ad0, .inr (15, Fs0)), (Ad1, .inl (Ka0, 5, .inl Fa0))] sz) [(Ad0, .inr (15, (u))), (Ad1, .inl (Ka0, 5, .inl Fa0))] t) (va_A [(Ad0, .inr (15, Fs0)), (Ad1, .inl (Ka0, 5, .inl Fa0))] sz))  0 0 (va_A [(Ad0, .inr (15, Fs0)), (Ad1, .inl (Ka0, 5, .inl Fa0))] sz) := by
  refine Met.ofW (cc := cX12_like) (maxL := 15) (ret := (some .boolean)) (by decide) rfl ?_
  intro p e s m args below meth c s₁ B hml hv
  obtain ⟨rfl, hsz, hP, hK, hD0⟩ := hv
  have hx := B.exec
  have hb := B.bytes
  have hr := B.returns
  have hts := atoms_spec (ws := w_z_X12_like) B.pre
  have hown : s.vm.findClass RX12 = some m.cls := findClass_of_methodNamed B.named
  have hlocks := B.notSynchronized
  subst hsz
  have hD := hD0.self (sz := s.heap.size)
  generalize hAe : va_A [(Ad0, .inr (15, Fs0)), (Ad1, .inl (Ka0, 5, .inl Fa0))] s.heap.size = A at hD ⊢
  have hA : ∀ q : Nat, s.heap.size ≤ q → A q := fun q h => by rw [← hAe]; exact Or.inr h
  have hS : va_S A s.heap s.heap [] := va_S.rf
  have hl := lv_entry ([.ref Ad0, .int Va0, .int Va1, .int Va2, .int Va3]) (n := 15) (Nat.le_of_ble_eq_true rfl)
  rw [lg_entry_eq]
  generalize (lg_sl ([.ref Ad0, .int Va0, .int Va1, .int Va2, .int Va3]) ++ List.replicate (15 - (lg_sl ([.ref Ad0, .int Va0, .int Va1, .int Va2, .int Va3])).length) Slot.unset).toArray = ls at hl ⊢
  have hl : lv_has ls 15 [(0, .ref Ad0), (1, .int Va0), (2, .int Va1), (3, .int Va2), (4, .int Va3)] := hl
  have o_Fs0 := ow_0 k_Fs0
  refine lv_aload_n hx hb dX12_like_0 rfl (lv_at hl 0 rfl) ?_
  refine lv_aload_n hx hb dX12_like_1 rfl (lv_at hl 0 rfl) ?_
  refine lv_iload_n hx hb dX12_like_2 rfl (lv_at hl 1 rfl) ?_
  refine lv_iload_n hx hb dX12_like_3 rfl (lv_at hl 2 rfl) ?_
  have hPc := hP.sub (ws' := [(Ad0, .inr (15, Fs0)), (Ad1, .inl (Ka0, 5, .inl Fa0))]) [0, 1] rfl
  have hDc := hD.sub (ws' := [(Ad0, .inr (15, Fs0)), (Ad1, .inl (Ka0, 5, .inl Fa0))]) [0, 1] (by decide) rfl
  have hKc := hK.sub (tys' := [(Ka0, .int)]) [0] rfl
  have hFc := va_free (wc := [(Ad0, .inr (15, Fs0)), (Ad1, .inl (Ka0, 5, .inl Fa0))]) hD hS hA [0, 1] rfl
  refine va_calli (va_runV (As := [.int Va0, .int Va1]) (rest := [.ref Ad0]) ⟨hx, hb, hml, hown, hts⟩ (z_X12_isThing l dC dI s.heap.size Ad0 Fs0 Ad1 Fa0 Ka0 Va0 Va1 (fh_sub o_Fs0.2 [1] rfl) hz_Fa0) (cwV 2 hts g_z_X12_like_z_X12_isThing_600 rfl rfl rfl (by decide +kernel) ⟨Nat.le_of_ble_eq_true rfl, Nat.le_of_ble_eq_true rfl⟩) ⟨fun a U g mk q => by obtain ⟨q0, q1, qP, qK, qD⟩ := q; exact ⟨q0, q1, qP, va_K.moved (u := U) (U := U.calling g mk a) (Vm.Alike.refl U.vm) qK, qD⟩, va_recv hK hP (ci := 15) (q0 := 0) rfl rfl, fun U hU hW => ⟨rfl, by rw [hU], by rw [hU]; exact hPc, va_K.moved hW.alike hKc, hDc.weaken (fun _ _ _ _ => trivial)⟩⟩ rfl rfl hl.1 rfl (lv_room (Nat.le_of_ble_eq_true rfl)) dX12_like_4 ⟨Nat.le_of_ble_eq_true rfl, Nat.le_of_ble_eq_true rfl⟩) hS (fun q _ h => hFc q h) hFc (fun r101 u t H1 locs ht hvm hw hB hz1 hk1 hS => ?_)
  obtain ⟨hP1, hK1, hD1⟩ := hB
  rw [ht] at hP1
  try dsimp only at hw
  obtain ⟨hP, hD⟩ := va_join (wr := []) (w1 := [(Ad0, .inr (15, Fs0)), (Ad1, .inl (Ka0, 5, .inl Fa0))]) hP hD [0, 1] [] rfl rfl (by decide) (by decide) hk1 hFc hP1 hD1
  have hK := hK.sub (tys' := [(Ka0, .int)]) [0] rfl
  generalize H1 = H at hP hS ⊢
  have hP : va_P (dC, dI) vwCl [(Ad0, .inr (15, Fs0)), (Ad1, .inl (Ka0, 5, .inl Fa0))] H := hP
  have hD : va_D A [(Ad0, .inr (15, Fs0)), (Ad1, .inl (Ka0, 5, .inl Fa0))] := hD
  rcases hw with ⟨c102, er103⟩ | ⟨c104, c105, er106⟩ | ⟨c107, c108, c109, er110⟩ | ⟨c111, c112, c113, c114, er115⟩
  · skip
    subst er103
    refine lv_if_eq (tgt := 20) hx hb dX12_like_7 (by decide) (fun c116 => ?_) (fun c116 => absurd c116 (by decide))
    refine lv_iconst (v := 1) hx hb dX12_like_20 (by decide) ?_
    refine lv_goto (tgt := 25) hx hb dX12_like_21 (by decide) ?_
    refine va_put (D := (dC, dI)) (ci := 15) (v := .int 1) (ty := .int) (C := RX12) (T := TX12) (N := 150) hx hb hts (in_z_X12_like_X12) tyX12 tyX12_ok nmX12 hown hK hP hD hS 0 rfl rfl 0 (by decide) (hts (.fieldLink RX12 388 "HeapWorksModel" "thrown" "I") (by decide +kernel)) (fun _ h9 => h9) rfl (by decide +kernel) rfl rfl (by rw [o_Fs0.2.1]; decide) dX12_like_25 (fun H locs hP hD hS => ?_)
    have hP : va_P (dC, dI) vwCl [(Ad0, .inr (15, (Fs0.set 0 (.int 1)))), (Ad1, .inl (Ka0, 5, .inl Fa0))] H := hP
    have hD : va_D A [(Ad0, .inr (15, (Fs0.set 0 (.int 1)))), (Ad1, .inl (Ka0, 5, .inl Fa0))] := hD
    have o_s117 := ow_set o_Fs0 0 (.int 1) (by decide) (l' := [(0, .int 1), (48, .ref Ad1)]) (w' := [0]) rfl rfl
    generalize (Fs0.set 0 (.int 1)) = s117 at hP hD o_s117
    refine lv_aload_n hx hb dX12_like_28 rfl (lv_at hl 0 rfl) ?_
    refine va_get (D := (dC, dI)) (ci := 15) (v := .int 1) (C := RX12) (T := TX12) (N := 150) hx hb hts (in_z_X12_like_X12) hown hK hP 0 rfl rfl 0 (by decide) (hts (.fieldLink RX12 388 "HeapWorksModel" "thrown" "I") (by decide +kernel)) (fun _ h9 => h9) (ow_at o_s117 0 rfl) dX12_like_29 ?_
    refine lv_if_le (tgt := 37) hx hb dX12_like_32 (by decide) (fun c118 => absurd c118 (by decide)) (fun c118 => ?_)
    refine lv_iconst (v := 0) hx hb dX12_like_35 (by decide) ?_
    have hP9 := hP.sub (ws' := [(Ad0, .inr (15, s117)), (Ad1, .inl (Ka0, 5, .inl Fa0))]) [0, 1] rfl
    have hD9 := hD.sub (ws' := [(Ad0, .inr (15, s117)), (Ad1, .inl (Ka0, 5, .inl Fa0))]) [0, 1] (by decide) rfl
    have hK9 := hK.sub (tys' := [(Ka0, .int)]) [0] rfl
    exact W.zret (v := 0) hx hb hr rfl (fun t ht hW => ⟨⟨0, s117, rfl, (Or.inl ⟨c102, rfl, o_s117⟩), by rw [ht]; exact hP9, va_K.moved hW.alike hK9, hD9⟩, hS.F ht⟩) hS.2.2 dX12_like_36
  · skip
    subst er106
    refine lv_if_eq (tgt := 20) hx hb dX12_like_7 (by decide) (fun c119 => ?_) (fun c119 => absurd c119 (by decide))
    refine lv_iconst (v := 1) hx hb dX12_like_20 (by decide) ?_
    refine lv_goto (tgt := 25) hx hb dX12_like_21 (by decide) ?_
    refine va_put (D := (dC, dI)) (ci := 15) (v := .int 1) (ty := .int) (C := RX12) (T := TX12) (N := 150) hx hb hts (in_z_X12_like_X12) tyX12 tyX12_ok nmX12 hown hK hP hD hS 0 rfl rfl 0 (by decide) (hts (.fieldLink RX12 388 "HeapWorksModel" "thrown" "I") (by decide +kernel)) (fun _ h9 => h9) rfl (by decide +kernel) rfl rfl (by rw [o_Fs0.2.1]; decide) dX12_like_25 (fun H locs hP hD hS => ?_)
    have hP : va_P (dC, dI) vwCl [(Ad0, .inr (15, (Fs0.set 0 (.int 1)))), (Ad1, .inl (Ka0, 5, .inl Fa0))] H := hP
    have hD : va_D A [(Ad0, .inr (15, (Fs0.set 0 (.int 1)))), (Ad1, .inl (Ka0, 5, .inl Fa0))] := hD
    have o_s120 := ow_set o_Fs0 0 (.int 1) (by decide) (l' := [(0, .int 1), (48, .ref Ad1)]) (w' := [0]) rfl rfl
    generalize (Fs0.set 0 (.int 1)) = s120 at hP hD o_s120
    refine lv_aload_n hx hb dX12_like_28 rfl (lv_at hl 0 rfl) ?_
    refine va_get (D := (dC, dI)) (ci := 15) (v := .int 1) (C := RX12) (T := TX12) (N := 150) hx hb hts (in_z_X12_like_X12) hown hK hP 0 rfl rfl 0 (by decide) (hts (.fieldLink RX12 388 "HeapWorksModel" "thrown" "I") (by decide +kernel)) (fun _ h9 => h9) (ow_at o_s120 0 rfl) dX12_like_29 ?_
    refine lv_if_le (tgt := 37) hx hb dX12_like_32 (by decide) (fun c121 => absurd c121 (by decide)) (fun c121 => ?_)
    refine lv_iconst (v := 0) hx hb dX12_like_35 (by decide) ?_
    have hP9 := hP.sub (ws' := [(Ad0, .inr (15, s120)), (Ad1, .inl (Ka0, 5, .inl Fa0))]) [0, 1] rfl
    have hD9 := hD.sub (ws' := [(Ad0, .inr (15, s120)), (Ad1, .inl (Ka0, 5, .inl Fa0))]) [0, 1] (by decide) rfl
    have hK9 := hK.sub (tys' := [(Ka0, .int)]) [0] rfl
    exact W.zret (v := 0) hx hb hr rfl (fun t ht hW => ⟨⟨0, s120, rfl, (Or.inr (Or.inl ⟨c104, c105, rfl, o_s120⟩)), by rw [ht]; exact hP9, va_K.moved hW.alike hK9, hD9⟩, hS.F ht⟩) hS.2.2 dX12_like_36
  · skip
    subst er110
    refine lv_if_eq (tgt := 20) hx hb dX12_like_7 (by decide) (fun c122 => ?_) (fun c122 => absurd c122 (by decide))
    refine lv_iconst (v := 1) hx hb dX12_like_20 (by decide) ?_
    refine lv_goto (tgt := 25) hx hb dX12_like_21 (by decide) ?_
    refine va_put (D := (dC, dI)) (ci := 15) (v := .int 1) (ty := .int) (C := RX12) (T := TX12) (N := 150) hx hb hts (in_z_X12_like_X12) tyX12 tyX12_ok nmX12 hown hK hP hD hS 0 rfl rfl 0 (by decide) (hts (.fieldLink RX12 388 "HeapWorksModel" "thrown" "I") (by decide +kernel)) (fun _ h9 => h9) rfl (by decide +kernel) rfl rfl (by rw [o_Fs0.2.1]; decide) dX12_like_25 (fun H locs hP hD hS => ?_)
    have hP : va_P (dC, dI) vwCl [(Ad0, .inr (15, (Fs0.set 0 (.int 1)))), (Ad1, .inl (Ka0, 5, .inl Fa0))] H := hP
    have hD : va_D A [(Ad0, .inr (15, (Fs0.set 0 (.int 1)))), (Ad1, .inl (Ka0, 5, .inl Fa0))] := hD
    have o_s123 := ow_set o_Fs0 0 (.int 1) (by decide) (l' := [(0, .int 1), (48, .ref Ad1)]) (w' := [0]) rfl rfl
    generalize (Fs0.set 0 (.int 1)) = s123 at hP hD o_s123
    refine lv_aload_n hx hb dX12_like_28 rfl (lv_at hl 0 rfl) ?_
    refine va_get (D := (dC, dI)) (ci := 15) (v := .int 1) (C := RX12) (T := TX12) (N := 150) hx hb hts (in_z_X12_like_X12) hown hK hP 0 rfl rfl 0 (by decide) (hts (.fieldLink RX12 388 "HeapWorksModel" "thrown" "I") (by decide +kernel)) (fun _ h9 => h9) (ow_at o_s123 0 rfl) dX12_like_29 ?_
    refine lv_if_le (tgt := 37) hx hb dX12_like_32 (by decide) (fun c124 => absurd c124 (by decide)) (fun c124 => ?_)
    refine lv_iconst (v := 0) hx hb dX12_like_35 (by decide) ?_
    have hP9 := hP.sub (ws' := [(Ad0, .inr (15, s123)), (Ad1, .inl (Ka0, 5, .inl Fa0))]) [0, 1] rfl
    have hD9 := hD.sub (ws' := [(Ad0, .inr (15, s123)), (Ad1, .inl (Ka0, 5, .inl Fa0))]) [0, 1] (by decide) rfl
    have hK9 := hK.sub (tys' := [(Ka0, .int)]) [0] rfl
    exact W.zret (v := 0) hx hb hr rfl (fun t ht hW => ⟨⟨0, s123, rfl, (Or.inr (Or.inr (Or.inl ⟨c107, c108, c109, rfl, o_s123⟩))), by rw [ht]; exact hP9, va_K.moved hW.alike hK9, hD9⟩, hS.F ht⟩) hS.2.2 dX12_like_36
  · skip
    subst er115
    refine lv_if_eq (tgt := 20) hx hb dX12_like_7 (by decide) (fun c125 => ?_) (fun c125 => absurd c125 (by decide))
    refine lv_iconst (v := 1) hx hb dX12_like_20 (by decide) ?_
    refine lv_goto (tgt := 25) hx hb dX12_like_21 (by decide) ?_
    refine va_put (D := (dC, dI)) (ci := 15) (v := .int 1) (ty := .int) (C := RX12) (T := TX12) (N := 150) hx hb hts (in_z_X12_like_X12) tyX12 tyX12_ok nmX12 hown hK hP hD hS 0 rfl rfl 0 (by decide) (hts (.fieldLink RX12 388 "HeapWorksModel" "thrown" "I") (by decide +kernel)) (fun _ h9 => h9) rfl (by decide +kernel) rfl rfl (by rw [o_Fs0.2.1]; decide) dX12_like_25 (fun H locs hP hD hS => ?_)
    have hP : va_P (dC, dI) vwCl [(Ad0, .inr (15, (Fs0.set 0 (.int 1)))), (Ad1, .inl (Ka0, 5, .inl Fa0))] H := hP
    have hD : va_D A [(Ad0, .inr (15, (Fs0.set 0 (.int 1)))), (Ad1, .inl (Ka0, 5, .inl Fa0))] := hD
    have o_s126 := ow_set o_Fs0 0 (.int 1) (by decide) (l' := [(0, .int 1), (48, .ref Ad1)]) (w' := [0]) rfl rfl
    generalize (Fs0.set 0 (.int 1)) = s126 at hP hD o_s126
    refine lv_aload_n hx hb dX12_like_28 rfl (lv_at hl 0 rfl) ?_
    refine va_get (D := (dC, dI)) (ci := 15) (v := .int 1) (C := RX12) (T := TX12) (N := 150) hx hb hts (in_z_X12_like_X12) hown hK hP 0 rfl rfl 0 (by decide) (hts (.fieldLink RX12 388 "HeapWorksModel" "thrown" "I") (by decide +kernel)) (fun _ h9 => h9) (ow_at o_s126 0 rfl) dX12_like_29 ?_
    refine lv_if_le (tgt := 37) hx hb dX12_like_32 (by decide) (fun c127 => absurd c127 (by decide)) (fun c127 => ?_)
    refine lv_iconst (v := 0) hx hb dX12_like_35 (by decide) ?_
    have hP9 := hP.sub (ws' := [(Ad0, .inr (15, s126)), (Ad1, .inl (Ka0, 5, .inl Fa0))]) [0, 1] rfl
    have hD9 := hD.sub (ws' := [(Ad0, .inr (15, s126)), (Ad1, .inl (Ka0, 5, .inl Fa0))]) [0, 1] (by decide) rfl
    have hK9 := hK.sub (tys' := [(Ka0, .int)]) [0] rfl
    exact W.zret (v := 0) hx hb hr rfl (fun t ht hW => ⟨⟨0, s126, rfl, (Or.inr (Or.inr (Or.inr (⟨c111, c112, c113, c114, rfl, o_s126⟩)))), by rw [ht]; exact hP9, va_K.moved hW.alike hK9, hD9⟩, hS.F ht⟩) hS.2.2 dX12_like_36

def l_z_X12_beginText_1 : List Cond := [.fieldLink RX12 673 "HeapWorksModel" "nodeBase" "I", .fieldLink RX12 670 "HeapWorksModel" "nodes" "I", .fieldLink RX12 676 "HeapWorksModel" "nested" "I", .fieldLink RX12 761 "HeapWorksModel" "known" "I", .fieldLink RX12 625 "HeapWorksModel" "stop" "I", .fieldLink RX12 628 "HeapWorksModel" "stopAt" "I", .fieldLink RX12 631 "HeapWorksModel" "at0" "I", .methodLink RX12 661 yX12_advance, .instanceMethod yX12_advance, .selects RX12 yX12_advance yX12_advance, .initialized RX12, .code yX12_advance cX12_advance 5 none, .methodLink RX12 634 yX12_byteAt, .instanceMethod yX12_byteAt, .selects RX12 yX12_byteAt yX12_byteAt, .fieldLink RX12 637 "HeapWorksModel" "from0" "I", .fieldLink RX12 640 "HeapWorksModel" "word" "J", .fieldLink RX12 644 "HeapWorksModel" "kind" "I", .code yX12_byteAt cX12_byteAt 2 (some .int), .fieldLink RX12 391 "HeapWorksModel" "taped" "I"]
def w_z_X12_beginText_1 : List Cond := .code yX12_beginText cX12_beginText 2 none :: (l_z_X12_beginText_1 ++ (wsX120))
theorem in_z_X12_beginText_1_X12 : ∀ w ∈ wsX120, w ∈ w_z_X12_beginText_1 := fun w h => List.mem_cons_of_mem _ (List.mem_append_right _ (h))
theorem g_z_X12_beginText_1_z_X12_advance_661 : GoodIn w_z_X12_beginText_1 (wsV RX12 661 RX12 yX12_advance w_z_X12_advance) := goodIn_app (goodIn_r (([.methodLink RX12 661 yX12_advance, .instanceMethod yX12_advance, .selects RX12 yX12_advance yX12_advance, .initialized RX12] : List Cond)) [8, 9, 10, 11] rfl (by decide +kernel)) (goodIn_ca (goodIn_r (.code yX12_advance cX12_advance 5 none :: l_z_X12_advance) [12, 7, 13, 14, 15, 11, 16, 17, 18, 19, 20] rfl (by decide +kernel)) (goodIn_in (in_z_X12_beginText_1_X12) gd_X12))
set_option maxHeartbeats 4000000 in
set_option maxRecDepth 100000 in
theorem z_X12_beginText_1 (l : Launch) (dC : Nat → ClassId) (dI : Nat → Nat → Nat) (sz : Nat) (Ad0 : Nat) (Fs0 : List Value) (k_Fs0 : fh Fs0 150 [(3, .int 0), (78, .int 0)])  : Met l yX12_beginText w_z_X12_beginText_1 ({ frames := 2, cells := 0, slots := 0, locals := 45 }) (va_Pc [.ref Ad0, .int 0] (fun U => U.heap.size = sz ∧ Wd dC dI [] (fun _ => True) [(Ad0, .inr (15, Fs0))] U)) (va_Qv (fun (u : List Value) => ow Fs0 (u) 150 [80, 85, 79, 78, 84, 83, 94, 93, 92, 91] [(80, .int 0), (85, .long 0), (79, .int 0), (78, .int 0), (3, .int 0), (78, .int 0), (84, .int (-1)), (83, .int 0), (94, .int 0), (93, .int 0), (92, .int 0), (91, .int 0), (3, .int 0)]) (fun (u : List Value) t => Wd dC dI [] (va_A [(Ad0, .inr (15, Fs0))] sz) [(Ad0, .inr (15, (u)))] t) (va_A [(Ad0, .inr (15, Fs0))] sz))  0 0 (va_A [(Ad0, .inr (15, Fs0))] sz) := by
  refine Met.ofW (cc := cX12_beginText) (maxL := 2) (ret := none) (by decide) rfl ?_
  intro p e s m args below meth c s₁ B hml hv
  obtain ⟨rfl, hsz, hP, hK, hD0⟩ := hv
  have hx := B.exec
  have hb := B.bytes
  have hr := B.returns
  have hts := atoms_spec (ws := w_z_X12_beginText_1) B.pre
  have hown : s.vm.findClass RX12 = some m.cls := findClass_of_methodNamed B.named
  have hlocks := B.notSynchronized
  subst hsz
  have hD := hD0.self (sz := s.heap.size)
  generalize hAe : va_A [(Ad0, .inr (15, Fs0))] s.heap.size = A at hD ⊢
  have hA : ∀ q : Nat, s.heap.size ≤ q → A q := fun q h => by rw [← hAe]; exact Or.inr h
  have hS : va_S A s.heap s.heap [] := va_S.rf
  have hl := lv_entry ([.ref Ad0, .int 0]) (n := 2) (Nat.le_of_ble_eq_true rfl)
  rw [lg_entry_eq]
  generalize (lg_sl ([.ref Ad0, .int 0]) ++ List.replicate (2 - (lg_sl ([.ref Ad0, .int 0])).length) Slot.unset).toArray = ls at hl ⊢
  have hl : lv_has ls 2 [(0, .ref Ad0), (1, .int 0)] := hl
  have o_Fs0 := ow_0 k_Fs0
  refine lv_aload_n hx hb dX12_beginText_0 rfl (lv_at hl 0 rfl) ?_
  refine lv_iload_n hx hb dX12_beginText_1 rfl (lv_at hl 1 rfl) ?_
  refine va_put (D := (dC, dI)) (ci := 15) (v := .int 0) (ty := .int) (C := RX12) (T := TX12) (N := 150) hx hb hts (in_z_X12_beginText_1_X12) tyX12 tyX12_ok nmX12 hown hK hP hD hS 0 rfl rfl 91 (by decide) (hts (.fieldLink RX12 673 "HeapWorksModel" "nodeBase" "I") (by decide +kernel)) (fun _ h9 => h9) rfl (by decide +kernel) rfl rfl (by rw [o_Fs0.2.1]; decide) dX12_beginText_2 (fun H locs hP hD hS => ?_)
  have hP : va_P (dC, dI) vwCl [(Ad0, .inr (15, (Fs0.set 91 (.int 0))))] H := hP
  have hD : va_D A [(Ad0, .inr (15, (Fs0.set 91 (.int 0))))] := hD
  have o_s101 := ow_set o_Fs0 91 (.int 0) (by decide) (l' := [(91, .int 0), (3, .int 0), (78, .int 0)]) (w' := [91]) rfl rfl
  generalize (Fs0.set 91 (.int 0)) = s101 at hP hD o_s101
  refine lv_aload_n hx hb dX12_beginText_5 rfl (lv_at hl 0 rfl) ?_
  refine lv_iconst (v := 0) hx hb dX12_beginText_6 (by decide) ?_
  refine va_put (D := (dC, dI)) (ci := 15) (v := .int 0) (ty := .int) (C := RX12) (T := TX12) (N := 150) hx hb hts (in_z_X12_beginText_1_X12) tyX12 tyX12_ok nmX12 hown hK hP hD hS 0 rfl rfl 92 (by decide) (hts (.fieldLink RX12 670 "HeapWorksModel" "nodes" "I") (by decide +kernel)) (fun _ h9 => h9) rfl (by decide +kernel) rfl rfl (by rw [o_s101.2.1]; decide) dX12_beginText_7 (fun H locs hP hD hS => ?_)
  have hP : va_P (dC, dI) vwCl [(Ad0, .inr (15, (s101.set 92 (.int 0))))] H := hP
  have hD : va_D A [(Ad0, .inr (15, (s101.set 92 (.int 0))))] := hD
  have o_s102 := ow_set o_s101 92 (.int 0) (by decide) (l' := [(92, .int 0), (91, .int 0), (3, .int 0), (78, .int 0)]) (w' := [92, 91]) rfl rfl
  generalize (s101.set 92 (.int 0)) = s102 at hP hD o_s102
  refine lv_aload_n hx hb dX12_beginText_10 rfl (lv_at hl 0 rfl) ?_
  refine lv_iconst (v := 0) hx hb dX12_beginText_11 (by decide) ?_
  refine va_put (D := (dC, dI)) (ci := 15) (v := .int 0) (ty := .int) (C := RX12) (T := TX12) (N := 150) hx hb hts (in_z_X12_beginText_1_X12) tyX12 tyX12_ok nmX12 hown hK hP hD hS 0 rfl rfl 93 (by decide) (hts (.fieldLink RX12 676 "HeapWorksModel" "nested" "I") (by decide +kernel)) (fun _ h9 => h9) rfl (by decide +kernel) rfl rfl (by rw [o_s102.2.1]; decide) dX12_beginText_12 (fun H locs hP hD hS => ?_)
  have hP : va_P (dC, dI) vwCl [(Ad0, .inr (15, (s102.set 93 (.int 0))))] H := hP
  have hD : va_D A [(Ad0, .inr (15, (s102.set 93 (.int 0))))] := hD
  have o_s103 := ow_set o_s102 93 (.int 0) (by decide) (l' := [(93, .int 0), (92, .int 0), (91, .int 0), (3, .int 0), (78, .int 0)]) (w' := [93, 92, 91]) rfl rfl
  generalize (s102.set 93 (.int 0)) = s103 at hP hD o_s103
  refine lv_aload_n hx hb dX12_beginText_15 rfl (lv_at hl 0 rfl) ?_
  refine lv_iconst (v := 0) hx hb dX12_beginText_16 (by decide) ?_
  refine va_put (D := (dC, dI)) (ci := 15) (v := .int 0) (ty := .int) (C := RX12) (T := TX12) (N := 150) hx hb hts (in_z_X12_beginText_1_X12) tyX12 tyX12_ok nmX12 hown hK hP hD hS 0 rfl rfl 94 (by decide) (hts (.fieldLink RX12 761 "HeapWorksModel" "known" "I") (by decide +kernel)) (fun _ h9 => h9) rfl (by decide +kernel) rfl rfl (by rw [o_s103.2.1]; decide) dX12_beginText_17 (fun H locs hP hD hS => ?_)
  have hP : va_P (dC, dI) vwCl [(Ad0, .inr (15, (s103.set 94 (.int 0))))] H := hP
  have hD : va_D A [(Ad0, .inr (15, (s103.set 94 (.int 0))))] := hD
  have o_s104 := ow_set o_s103 94 (.int 0) (by decide) (l' := [(94, .int 0), (93, .int 0), (92, .int 0), (91, .int 0), (3, .int 0), (78, .int 0)]) (w' := [94, 93, 92, 91]) rfl rfl
  generalize (s103.set 94 (.int 0)) = s104 at hP hD o_s104
  refine lv_aload_n hx hb dX12_beginText_20 rfl (lv_at hl 0 rfl) ?_
  refine lv_iconst (v := 0) hx hb dX12_beginText_21 (by decide) ?_
  refine va_put (D := (dC, dI)) (ci := 15) (v := .int 0) (ty := .int) (C := RX12) (T := TX12) (N := 150) hx hb hts (in_z_X12_beginText_1_X12) tyX12 tyX12_ok nmX12 hown hK hP hD hS 0 rfl rfl 83 (by decide) (hts (.fieldLink RX12 625 "HeapWorksModel" "stop" "I") (by decide +kernel)) (fun _ h9 => h9) rfl (by decide +kernel) rfl rfl (by rw [o_s104.2.1]; decide) dX12_beginText_22 (fun H locs hP hD hS => ?_)
  have hP : va_P (dC, dI) vwCl [(Ad0, .inr (15, (s104.set 83 (.int 0))))] H := hP
  have hD : va_D A [(Ad0, .inr (15, (s104.set 83 (.int 0))))] := hD
  have o_s105 := ow_set o_s104 83 (.int 0) (by decide) (l' := [(83, .int 0), (94, .int 0), (93, .int 0), (92, .int 0), (91, .int 0), (3, .int 0), (78, .int 0)]) (w' := [83, 94, 93, 92, 91]) rfl rfl
  generalize (s104.set 83 (.int 0)) = s105 at hP hD o_s105
  refine lv_aload_n hx hb dX12_beginText_25 rfl (lv_at hl 0 rfl) ?_
  refine lv_iconst (v := (-1)) hx hb dX12_beginText_26 (by decide) ?_
  refine va_put (D := (dC, dI)) (ci := 15) (v := .int (-1)) (ty := .int) (C := RX12) (T := TX12) (N := 150) hx hb hts (in_z_X12_beginText_1_X12) tyX12 tyX12_ok nmX12 hown hK hP hD hS 0 rfl rfl 84 (by decide) (hts (.fieldLink RX12 628 "HeapWorksModel" "stopAt" "I") (by decide +kernel)) (fun _ h9 => h9) rfl (by decide +kernel) rfl rfl (by rw [o_s105.2.1]; decide) dX12_beginText_27 (fun H locs hP hD hS => ?_)
  have hP : va_P (dC, dI) vwCl [(Ad0, .inr (15, (s105.set 84 (.int (-1)))))] H := hP
  have hD : va_D A [(Ad0, .inr (15, (s105.set 84 (.int (-1)))))] := hD
  have o_s106 := ow_set o_s105 84 (.int (-1)) (by decide) (l' := [(84, .int (-1)), (83, .int 0), (94, .int 0), (93, .int 0), (92, .int 0), (91, .int 0), (3, .int 0), (78, .int 0)]) (w' := [84, 83, 94, 93, 92, 91]) rfl rfl
  generalize (s105.set 84 (.int (-1))) = s106 at hP hD o_s106
  refine lv_aload_n hx hb dX12_beginText_30 rfl (lv_at hl 0 rfl) ?_
  refine lv_iconst (v := 0) hx hb dX12_beginText_31 (by decide) ?_
  refine va_put (D := (dC, dI)) (ci := 15) (v := .int 0) (ty := .int) (C := RX12) (T := TX12) (N := 150) hx hb hts (in_z_X12_beginText_1_X12) tyX12 tyX12_ok nmX12 hown hK hP hD hS 0 rfl rfl 78 (by decide) (hts (.fieldLink RX12 631 "HeapWorksModel" "at0" "I") (by decide +kernel)) (fun _ h9 => h9) rfl (by decide +kernel) rfl rfl (by rw [o_s106.2.1]; decide) dX12_beginText_32 (fun H locs hP hD hS => ?_)
  have hP : va_P (dC, dI) vwCl [(Ad0, .inr (15, (s106.set 78 (.int 0))))] H := hP
  have hD : va_D A [(Ad0, .inr (15, (s106.set 78 (.int 0))))] := hD
  have o_s107 := ow_set o_s106 78 (.int 0) (by decide) (l' := [(78, .int 0), (84, .int (-1)), (83, .int 0), (94, .int 0), (93, .int 0), (92, .int 0), (91, .int 0), (3, .int 0)]) (w' := [78, 84, 83, 94, 93, 92, 91]) rfl rfl
  generalize (s106.set 78 (.int 0)) = s107 at hP hD o_s107
  refine lv_aload_n hx hb dX12_beginText_35 rfl (lv_at hl 0 rfl) ?_
  have hPc := hP.sub (ws' := [(Ad0, .inr (15, s107))]) [0] rfl
  have hDc := hD.sub (ws' := [(Ad0, .inr (15, s107))]) [0] (by decide) rfl
  have hKc := hK.sub (tys' := []) [] rfl
  have hFc := va_free (wc := [(Ad0, .inr (15, s107))]) hD hS hA [0] rfl
  refine va_callv (va_runV (As := []) (rest := []) ⟨hx, hb, hml, hown, hts⟩ (z_X12_advance l dC dI H.size Ad0 s107 (fh_sub o_s107.2 [0, 7] rfl) ) (cwV 0 hts g_z_X12_beginText_1_z_X12_advance_661 rfl rfl rfl (by decide +kernel) ⟨Nat.le_of_ble_eq_true rfl, Nat.le_of_ble_eq_true rfl⟩) ⟨fun a U g mk q => by obtain ⟨q0, q1, qP, qK, qD⟩ := q; exact ⟨q0, q1, qP, va_K.moved (u := U) (U := U.calling g mk a) (Vm.Alike.refl U.vm) qK, qD⟩, va_recv hK hP (ci := 15) (q0 := 0) rfl rfl, fun U hU hW => ⟨rfl, by rw [hU], by rw [hU]; exact hPc, va_K.moved hW.alike hKc, hDc.weaken (fun _ _ _ _ => trivial)⟩⟩ rfl rfl hl.1 rfl (lv_room (Nat.le_of_ble_eq_true rfl)) dX12_beginText_36 ⟨Nat.le_of_ble_eq_true rfl, Nat.le_of_ble_eq_true rfl⟩) hS (fun q _ h => hFc q h) hFc (fun u t H1 locs ht hvm hw hB hz1 hk1 hS => ?_)
  obtain ⟨s108, rfl⟩ : ∃ z, z = u := ⟨_, rfl⟩
  obtain ⟨hP1, hK1, hD1⟩ := hB
  rw [ht] at hP1
  try dsimp only at hw
  obtain ⟨hP, hD⟩ := va_join (wr := []) (w1 := [(Ad0, .inr (15, s108))]) hP hD [0] [] rfl rfl (by decide) (by decide) hk1 hFc hP1 hD1
  have hK := hK.sub (tys' := []) [] rfl
  generalize H1 = H at hP hS ⊢
  have hP : va_P (dC, dI) vwCl [(Ad0, .inr (15, s108))] H := hP
  have hD : va_D A [(Ad0, .inr (15, s108))] := hD
  have o_s108 := hw
  have o_s108 := ow_on o_s107 o_s108 (l' := [(80, .int 0), (85, .long 0), (79, .int 0), (78, .int 0), (3, .int 0), (78, .int 0), (84, .int (-1)), (83, .int 0), (94, .int 0), (93, .int 0), (92, .int 0), (91, .int 0), (3, .int 0)]) (w' := [80, 85, 79, 78, 84, 83, 94, 93, 92, 91]) rfl rfl
  have hP9 := hP.sub (ws' := [(Ad0, .inr (15, s108))]) [0] rfl
  have hD9 := hD.sub (ws' := [(Ad0, .inr (15, s108))]) [0] (by decide) rfl
  have hK9 := hK.sub (tys' := []) [] rfl
  exact W.vret hx hb hr (fun t ht hW => ⟨⟨s108, rfl, o_s108, by rw [ht]; exact hP9, va_K.moved hW.alike hK9, hD9⟩, hS.F ht⟩) hS.2.2 dX12_beginText_39

def l_z_X12_readSet : List Cond := [.fieldLink RX12 625 "HeapWorksModel" "stop" "I", .methodLink RX12 751 yX12_keyAtHand, .instanceMethod yX12_keyAtHand, .selects RX12 yX12_keyAtHand yX12_keyAtHand, .initialized RX12, .methodLink RX12 664 yX12_wrong, .instanceMethod yX12_wrong, .selects RX12 yX12_wrong yX12_wrong, .fieldLink RX12 673 "HeapWorksModel" "nodeBase" "I", .code yX12_keyAtHand cX12_keyAtHand 1 (some .int), .fieldLink RX12 644 "HeapWorksModel" "kind" "I", .code yX12_wrong cX12_wrong 1 none, .fieldLink RX12 637 "HeapWorksModel" "from0" "I", .methodLink RX12 653 yX12_fail, .instanceMethod yX12_fail, .selects RX12 yX12_fail yX12_fail, .code yX12_fail cX12_fail 3 none, .fieldLink RX12 628 "HeapWorksModel" "stopAt" "I"]
def w_z_X12_readSet : List Cond := .code yX12_readSet cX12_readSet 4 (some .int) :: (l_z_X12_readSet ++ (wsX120))
theorem in_z_X12_readSet_X12 : ∀ w ∈ wsX120, w ∈ w_z_X12_readSet := fun w h => List.mem_cons_of_mem _ (List.mem_append_right _ (h))
theorem g_z_X12_readSet_z_X12_keyAtHand_751 : GoodIn w_z_X12_readSet (wsV RX12 751 RX12 yX12_keyAtHand w_z_X12_keyAtHand) := goodIn_app (goodIn_r (([.methodLink RX12 751 yX12_keyAtHand, .instanceMethod yX12_keyAtHand, .selects RX12 yX12_keyAtHand yX12_keyAtHand, .initialized RX12] : List Cond)) [2, 3, 4, 5] rfl (by decide +kernel)) (goodIn_ca (goodIn_r (.code yX12_keyAtHand cX12_keyAtHand 1 (some .int) :: l_z_X12_keyAtHand) [10, 11] rfl (by decide +kernel)) (goodIn_in (in_z_X12_readSet_X12) gd_X12))
theorem g_z_X12_readSet_z_X12_wrong_664 : GoodIn w_z_X12_readSet (wsV RX12 664 RX12 yX12_wrong w_z_X12_wrong) := goodIn_app (goodIn_r (([.methodLink RX12 664 yX12_wrong, .instanceMethod yX12_wrong, .selects RX12 yX12_wrong yX12_wrong, .initialized RX12] : List Cond)) [6, 7, 8, 5] rfl (by decide +kernel)) (goodIn_ca (goodIn_r (.code yX12_wrong cX12_wrong 1 none :: l_z_X12_wrong) [12, 11, 13, 14, 15, 16, 5, 17, 1, 18] rfl (by decide +kernel)) (goodIn_in (in_z_X12_readSet_X12) gd_X12))
set_option maxHeartbeats 4000000 in
set_option maxRecDepth 100000 in
theorem z_X12_readSet (l : Launch) (dC : Nat → ClassId) (dI : Nat → Nat → Nat) (sz : Nat) (Ad0 : Nat) (Fs0 : List Value) (k_Fs0 : fh Fs0 150 [(80, .int 0), (79, .int 0), (83, .int 0), (91, .int 0)])  : Met l yX12_readSet w_z_X12_readSet ({ frames := 2, cells := 0, slots := 0, locals := 42 }) (va_Pc [.ref Ad0] (fun U => U.heap.size = sz ∧ Wd dC dI [] (fun _ => True) [(Ad0, .inr (15, Fs0))] U)) (va_Qi (fun (r : Int32) (u : List Value) => (r = 0 ∧ ow Fs0 (u) 150 [84, 83] [(84, .int 0), (83, .int 1), (80, .int 0), (79, .int 0), (80, .int 0), (79, .int 0), (91, .int 0)])) (fun (u : List Value) t => Wd dC dI [] (va_A [(Ad0, .inr (15, Fs0))] sz) [(Ad0, .inr (15, (u)))] t) (va_A [(Ad0, .inr (15, Fs0))] sz))  0 0 (va_A [(Ad0, .inr (15, Fs0))] sz) := by
  refine Met.ofW (cc := cX12_readSet) (maxL := 4) (ret := (some .int)) (by decide) rfl ?_
  intro p e s m args below meth c s₁ B hml hv
  obtain ⟨rfl, hsz, hP, hK, hD0⟩ := hv
  have hx := B.exec
  have hb := B.bytes
  have hr := B.returns
  have hts := atoms_spec (ws := w_z_X12_readSet) B.pre
  have hown : s.vm.findClass RX12 = some m.cls := findClass_of_methodNamed B.named
  have hlocks := B.notSynchronized
  subst hsz
  have hD := hD0.self (sz := s.heap.size)
  generalize hAe : va_A [(Ad0, .inr (15, Fs0))] s.heap.size = A at hD ⊢
  have hA : ∀ q : Nat, s.heap.size ≤ q → A q := fun q h => by rw [← hAe]; exact Or.inr h
  have hS : va_S A s.heap s.heap [] := va_S.rf
  have hl := lv_entry ([.ref Ad0]) (n := 4) (Nat.le_of_ble_eq_true rfl)
  rw [lg_entry_eq]
  generalize (lg_sl ([.ref Ad0]) ++ List.replicate (4 - (lg_sl ([.ref Ad0])).length) Slot.unset).toArray = ls at hl ⊢
  have hl : lv_has ls 4 [(0, .ref Ad0)] := hl
  have o_Fs0 := ow_0 k_Fs0
  refine lv_aload_n hx hb dX12_readSet_0 rfl (lv_at hl 0 rfl) ?_
  refine va_get (D := (dC, dI)) (ci := 15) (v := .int 0) (C := RX12) (T := TX12) (N := 150) hx hb hts (in_z_X12_readSet_X12) hown hK hP 0 rfl rfl 83 (by decide) (hts (.fieldLink RX12 625 "HeapWorksModel" "stop" "I") (by decide +kernel)) (fun _ h9 => h9) (ow_at o_Fs0 2 rfl) dX12_readSet_1 ?_
  refine lv_if_le (tgt := 12) hx hb dX12_readSet_4 (by decide) (fun c101 => ?_) (fun c101 => absurd c101 (by decide))
  refine lv_aload_n hx hb dX12_readSet_12 rfl (lv_at hl 0 rfl) ?_
  have hPc := hP.sub (ws' := [(Ad0, .inr (15, Fs0))]) [0] rfl
  have hDc := hD.sub (ws' := [(Ad0, .inr (15, Fs0))]) [0] (by decide) rfl
  have hKc := hK.sub (tys' := []) [] rfl
  have hFc := va_free (wc := [(Ad0, .inr (15, Fs0))]) hD hS hA [0] rfl
  refine va_calli (va_runV (As := []) (rest := []) ⟨hx, hb, hml, hown, hts⟩ (z_X12_keyAtHand l dC dI s.heap.size Ad0 Fs0 (fh_sub o_Fs0.2 [0] rfl) ) (cwV 0 hts g_z_X12_readSet_z_X12_keyAtHand_751 rfl rfl rfl (by decide +kernel) ⟨Nat.le_of_ble_eq_true rfl, Nat.le_of_ble_eq_true rfl⟩) ⟨fun a U g mk q => by obtain ⟨q0, q1, qP, qK, qD⟩ := q; exact ⟨q0, q1, qP, va_K.moved (u := U) (U := U.calling g mk a) (Vm.Alike.refl U.vm) qK, qD⟩, va_recv hK hP (ci := 15) (q0 := 0) rfl rfl, fun U hU hW => ⟨rfl, by rw [hU], by rw [hU]; exact hPc, va_K.moved hW.alike hKc, hDc.weaken (fun _ _ _ _ => trivial)⟩⟩ rfl rfl hl.1 rfl (lv_room (Nat.le_of_ble_eq_true rfl)) dX12_readSet_13 ⟨Nat.le_of_ble_eq_true rfl, Nat.le_of_ble_eq_true rfl⟩) hS (fun q _ h => hFc q h) hFc (fun r102 u t H1 locs ht hvm hw hB hz1 hk1 hS => ?_)
  obtain ⟨hP1, hK1, hD1⟩ := hB
  rw [ht] at hP1
  try dsimp only at hw
  obtain ⟨hP, hD⟩ := va_join (wr := []) (w1 := [(Ad0, .inr (15, Fs0))]) hP hD [0] [] rfl rfl (by decide) (by decide) hk1 hFc hP1 hD1
  have hK := hK.sub (tys' := []) [] rfl
  generalize H1 = H at hP hS ⊢
  have hP : va_P (dC, dI) vwCl [(Ad0, .inr (15, Fs0))] H := hP
  have hD : va_D A [(Ad0, .inr (15, Fs0))] := hD
  have er103 := hw
  subst er103
  refine lv_istore_n (lv' := [(1, .int (-1)), (0, .ref Ad0)]) hx hb dX12_readSet_16 rfl hl (by decide) rfl (fun ls hl => ?_)
  refine lv_iload_n hx hb dX12_readSet_17 rfl (lv_at hl 0 rfl) ?_
  refine lv_if_eq (tgt := 49) hx hb dX12_readSet_18 (by decide) (fun c104 => absurd c104 (by decide)) (fun c104 => ?_)
  refine lv_iload_n hx hb dX12_readSet_21 rfl (lv_at hl 0 rfl) ?_
  refine lv_iconst (v := 1) hx hb dX12_readSet_22 (by decide) ?_
  refine lv_icmp_eq (tgt := 49) hx hb dX12_readSet_23 (by decide) (fun c105 => absurd c105 (by decide)) (fun c105 => ?_)
  refine lv_iload_n hx hb dX12_readSet_26 rfl (lv_at hl 0 rfl) ?_
  refine lv_iconst (v := 2) hx hb dX12_readSet_27 (by decide) ?_
  refine lv_icmp_eq (tgt := 49) hx hb dX12_readSet_28 (by decide) (fun c106 => absurd c106 (by decide)) (fun c106 => ?_)
  refine lv_iload_n hx hb dX12_readSet_31 rfl (lv_at hl 0 rfl) ?_
  refine lv_bipush (v := 24) hx hb dX12_readSet_32 (by decide) ?_
  refine lv_icmp_eq (tgt := 49) hx hb dX12_readSet_34 (by decide) (fun c107 => absurd c107 (by decide)) (fun c107 => ?_)
  refine lv_iload_n hx hb dX12_readSet_37 rfl (lv_at hl 0 rfl) ?_
  refine lv_bipush (v := 25) hx hb dX12_readSet_38 (by decide) ?_
  refine lv_icmp_eq (tgt := 49) hx hb dX12_readSet_40 (by decide) (fun c108 => absurd c108 (by decide)) (fun c108 => ?_)
  refine lv_iload_n hx hb dX12_readSet_43 rfl (lv_at hl 0 rfl) ?_
  refine lv_bipush (v := 26) hx hb dX12_readSet_44 (by decide) ?_
  refine lv_icmp_ne (tgt := 53) hx hb dX12_readSet_46 (by decide) (fun c109 => ?_) (fun c109 => absurd c109 (by decide))
  refine lv_iconst (v := 0) hx hb dX12_readSet_53 (by decide) ?_
  refine lv_istore_n (lv' := [(2, .int 0), (1, .int (-1)), (0, .ref Ad0)]) hx hb dX12_readSet_54 rfl hl (by decide) rfl (fun ls hl => ?_)
  refine lv_iload_n hx hb dX12_readSet_55 rfl (lv_at hl 0 rfl) ?_
  refine lv_if_ne (tgt := 68) hx hb dX12_readSet_56 (by decide) (fun c110 => absurd c110 (by decide)) (fun c110 => ?_)
  refine lv_aload_n hx hb dX12_readSet_59 rfl (lv_at hl 2 rfl) ?_
  have hPc := hP.sub (ws' := [(Ad0, .inr (15, Fs0))]) [0] rfl
  have hDc := hD.sub (ws' := [(Ad0, .inr (15, Fs0))]) [0] (by decide) rfl
  have hKc := hK.sub (tys' := []) [] rfl
  have hFc := va_free (wc := [(Ad0, .inr (15, Fs0))]) hD hS hA [0] rfl
  refine va_callv (va_runV (As := []) (rest := []) ⟨hx, hb, hml, hown, hts⟩ (z_X12_wrong l dC dI H.size Ad0 Fs0 (fh_sub o_Fs0.2 [0, 1, 2] rfl) ) (cwV 0 hts g_z_X12_readSet_z_X12_wrong_664 rfl rfl rfl (by decide +kernel) ⟨Nat.le_of_ble_eq_true rfl, Nat.le_of_ble_eq_true rfl⟩) ⟨fun a U g mk q => by obtain ⟨q0, q1, qP, qK, qD⟩ := q; exact ⟨q0, q1, qP, va_K.moved (u := U) (U := U.calling g mk a) (Vm.Alike.refl U.vm) qK, qD⟩, va_recv hK hP (ci := 15) (q0 := 0) rfl rfl, fun U hU hW => ⟨rfl, by rw [hU], by rw [hU]; exact hPc, va_K.moved hW.alike hKc, hDc.weaken (fun _ _ _ _ => trivial)⟩⟩ rfl rfl hl.1 rfl (lv_room (Nat.le_of_ble_eq_true rfl)) dX12_readSet_60 ⟨Nat.le_of_ble_eq_true rfl, Nat.le_of_ble_eq_true rfl⟩) hS (fun q _ h => hFc q h) hFc (fun u t H1 locs ht hvm hw hB hz1 hk1 hS => ?_)
  obtain ⟨s111, rfl⟩ : ∃ z, z = u := ⟨_, rfl⟩
  obtain ⟨hP1, hK1, hD1⟩ := hB
  rw [ht] at hP1
  try dsimp only at hw
  obtain ⟨hP, hD⟩ := va_join (wr := []) (w1 := [(Ad0, .inr (15, s111))]) hP hD [0] [] rfl rfl (by decide) (by decide) hk1 hFc hP1 hD1
  have hK := hK.sub (tys' := []) [] rfl
  generalize H1 = H at hP hS ⊢
  have hP : va_P (dC, dI) vwCl [(Ad0, .inr (15, s111))] H := hP
  have hD : va_D A [(Ad0, .inr (15, s111))] := hD
  have o_s111 := hw
  have o_s111 := ow_on o_Fs0 o_s111 (l' := [(84, .int 0), (83, .int 1), (80, .int 0), (79, .int 0), (80, .int 0), (79, .int 0), (91, .int 0)]) (w' := [84, 83]) rfl rfl
  refine lv_aload_n hx hb dX12_readSet_63 rfl (lv_at hl 2 rfl) ?_
  refine va_get (D := (dC, dI)) (ci := 15) (v := .int 0) (C := RX12) (T := TX12) (N := 150) hx hb hts (in_z_X12_readSet_X12) hown hK hP 0 rfl rfl 91 (by decide) (hts (.fieldLink RX12 673 "HeapWorksModel" "nodeBase" "I") (by decide +kernel)) (fun _ h9 => h9) (ow_at o_s111 6 rfl) dX12_readSet_64 ?_
  have hP9 := hP.sub (ws' := [(Ad0, .inr (15, s111))]) [0] rfl
  have hD9 := hD.sub (ws' := [(Ad0, .inr (15, s111))]) [0] (by decide) rfl
  have hK9 := hK.sub (tys' := []) [] rfl
  exact W.iret (v := 0) hx hb hr (fun t ht hW => ⟨⟨0, s111, rfl, ⟨rfl, o_s111⟩, by rw [ht]; exact hP9, va_K.moved hW.alike hK9, hD9⟩, hS.F ht⟩) hS.2.2 dX12_readSet_67

def l_z_X12_takesKey : List Cond := [.fieldLink RX12 625 "HeapWorksModel" "stop" "I"]
def w_z_X12_takesKey : List Cond := .code yX12_takesKey cX12_takesKey 3 (some .boolean) :: (l_z_X12_takesKey ++ (wsX120))
theorem in_z_X12_takesKey_X12 : ∀ w ∈ wsX120, w ∈ w_z_X12_takesKey := fun w h => List.mem_cons_of_mem _ (List.mem_append_right _ (h))
set_option maxHeartbeats 4000000 in
set_option maxRecDepth 100000 in
theorem z_X12_takesKey (l : Launch) (dC : Nat → ClassId) (dI : Nat → Nat → Nat) (sz : Nat) (Ad0 : Nat) (Fs0 : List Value) (k_Fs0 : fh Fs0 150 [(83, .int 1)])  : Met l yX12_takesKey w_z_X12_takesKey ({ frames := 0, cells := 0, slots := 0, locals := 0 }) (va_Pc [.ref Ad0, .int 3] (fun U => U.heap.size = sz ∧ Wd dC dI [] (fun _ => True) [(Ad0, .inr (15, Fs0))] U)) (va_Qi (fun (r : Int32) (u : Unit) => r = 0) (fun (u : Unit) t => Wd dC dI [] (va_A [(Ad0, .inr (15, Fs0))] sz) [(Ad0, .inr (15, Fs0))] t) (va_A [(Ad0, .inr (15, Fs0))] sz))  0 0 (va_A [(Ad0, .inr (15, Fs0))] sz) := by
  refine Met.ofW (cc := cX12_takesKey) (maxL := 3) (ret := (some .boolean)) (by decide) rfl ?_
  intro p e s m args below meth c s₁ B hml hv
  obtain ⟨rfl, hsz, hP, hK, hD0⟩ := hv
  have hx := B.exec
  have hb := B.bytes
  have hr := B.returns
  have hts := atoms_spec (ws := w_z_X12_takesKey) B.pre
  have hown : s.vm.findClass RX12 = some m.cls := findClass_of_methodNamed B.named
  have hlocks := B.notSynchronized
  subst hsz
  have hD := hD0.self (sz := s.heap.size)
  generalize hAe : va_A [(Ad0, .inr (15, Fs0))] s.heap.size = A at hD ⊢
  have hA : ∀ q : Nat, s.heap.size ≤ q → A q := fun q h => by rw [← hAe]; exact Or.inr h
  have hS : va_S A s.heap s.heap [] := va_S.rf
  have hl := lv_entry ([.ref Ad0, .int 3]) (n := 3) (Nat.le_of_ble_eq_true rfl)
  rw [lg_entry_eq]
  generalize (lg_sl ([.ref Ad0, .int 3]) ++ List.replicate (3 - (lg_sl ([.ref Ad0, .int 3])).length) Slot.unset).toArray = ls at hl ⊢
  have hl : lv_has ls 3 [(0, .ref Ad0), (1, .int 3)] := hl
  have o_Fs0 := ow_0 k_Fs0
  refine lv_aload_n hx hb dX12_takesKey_0 rfl (lv_at hl 0 rfl) ?_
  refine va_get (D := (dC, dI)) (ci := 15) (v := .int 1) (C := RX12) (T := TX12) (N := 150) hx hb hts (in_z_X12_takesKey_X12) hown hK hP 0 rfl rfl 83 (by decide) (hts (.fieldLink RX12 625 "HeapWorksModel" "stop" "I") (by decide +kernel)) (fun _ h9 => h9) (ow_at o_Fs0 0 rfl) dX12_takesKey_1 ?_
  refine lv_if_ne (tgt := 19) hx hb dX12_takesKey_4 (by decide) (fun c101 => ?_) (fun c101 => absurd c101 (by decide))
  refine lv_iconst (v := 0) hx hb dX12_takesKey_19 (by decide) ?_
  refine lv_istore_n (lv' := [(2, .int 0), (0, .ref Ad0), (1, .int 3)]) hx hb dX12_takesKey_20 rfl hl (by decide) rfl (fun ls hl => ?_)
  refine lv_iload_n hx hb dX12_takesKey_21 rfl (lv_at hl 0 rfl) ?_
  refine lv_if_eq (tgt := 29) hx hb dX12_takesKey_22 (by decide) (fun c102 => ?_) (fun c102 => absurd c102 (by decide))
  refine lv_iload_n hx hb dX12_takesKey_29 rfl (lv_at hl 0 rfl) ?_
  have hP9 := hP.sub (ws' := [(Ad0, .inr (15, Fs0))]) [0] rfl
  have hD9 := hD.sub (ws' := [(Ad0, .inr (15, Fs0))]) [0] (by decide) rfl
  have hK9 := hK.sub (tys' := []) [] rfl
  exact W.zret (v := 0) hx hb hr rfl (fun t ht hW => ⟨⟨0, (), rfl, rfl, by rw [ht]; exact hP9, va_K.moved hW.alike hK9, hD9⟩, hS.F ht⟩) hS.2.2 dX12_takesKey_30

def l_z_X12_takesKey_1 : List Cond := [.fieldLink RX12 625 "HeapWorksModel" "stop" "I"]
def w_z_X12_takesKey_1 : List Cond := .code yX12_takesKey cX12_takesKey 3 (some .boolean) :: (l_z_X12_takesKey_1 ++ (wsX120))
theorem in_z_X12_takesKey_1_X12 : ∀ w ∈ wsX120, w ∈ w_z_X12_takesKey_1 := fun w h => List.mem_cons_of_mem _ (List.mem_append_right _ (h))
set_option maxHeartbeats 4000000 in
set_option maxRecDepth 100000 in
theorem z_X12_takesKey_1 (l : Launch) (dC : Nat → ClassId) (dI : Nat → Nat → Nat) (sz : Nat) (Ad0 : Nat) (Fs0 : List Value) (k_Fs0 : fh Fs0 150 [(83, .int 1)])  : Met l yX12_takesKey w_z_X12_takesKey_1 ({ frames := 0, cells := 0, slots := 0, locals := 0 }) (va_Pc [.ref Ad0, .int 4] (fun U => U.heap.size = sz ∧ Wd dC dI [] (fun _ => True) [(Ad0, .inr (15, Fs0))] U)) (va_Qi (fun (r : Int32) (u : Unit) => r = 0) (fun (u : Unit) t => Wd dC dI [] (va_A [(Ad0, .inr (15, Fs0))] sz) [(Ad0, .inr (15, Fs0))] t) (va_A [(Ad0, .inr (15, Fs0))] sz))  0 0 (va_A [(Ad0, .inr (15, Fs0))] sz) := by
  refine Met.ofW (cc := cX12_takesKey) (maxL := 3) (ret := (some .boolean)) (by decide) rfl ?_
  intro p e s m args below meth c s₁ B hml hv
  obtain ⟨rfl, hsz, hP, hK, hD0⟩ := hv
  have hx := B.exec
  have hb := B.bytes
  have hr := B.returns
  have hts := atoms_spec (ws := w_z_X12_takesKey_1) B.pre
  have hown : s.vm.findClass RX12 = some m.cls := findClass_of_methodNamed B.named
  have hlocks := B.notSynchronized
  subst hsz
  have hD := hD0.self (sz := s.heap.size)
  generalize hAe : va_A [(Ad0, .inr (15, Fs0))] s.heap.size = A at hD ⊢
  have hA : ∀ q : Nat, s.heap.size ≤ q → A q := fun q h => by rw [← hAe]; exact Or.inr h
  have hS : va_S A s.heap s.heap [] := va_S.rf
  have hl := lv_entry ([.ref Ad0, .int 4]) (n := 3) (Nat.le_of_ble_eq_true rfl)
  rw [lg_entry_eq]
  generalize (lg_sl ([.ref Ad0, .int 4]) ++ List.replicate (3 - (lg_sl ([.ref Ad0, .int 4])).length) Slot.unset).toArray = ls at hl ⊢
  have hl : lv_has ls 3 [(0, .ref Ad0), (1, .int 4)] := hl
  have o_Fs0 := ow_0 k_Fs0
  refine lv_aload_n hx hb dX12_takesKey_0 rfl (lv_at hl 0 rfl) ?_
  refine va_get (D := (dC, dI)) (ci := 15) (v := .int 1) (C := RX12) (T := TX12) (N := 150) hx hb hts (in_z_X12_takesKey_1_X12) hown hK hP 0 rfl rfl 83 (by decide) (hts (.fieldLink RX12 625 "HeapWorksModel" "stop" "I") (by decide +kernel)) (fun _ h9 => h9) (ow_at o_Fs0 0 rfl) dX12_takesKey_1 ?_
  refine lv_if_ne (tgt := 19) hx hb dX12_takesKey_4 (by decide) (fun c101 => ?_) (fun c101 => absurd c101 (by decide))
  refine lv_iconst (v := 0) hx hb dX12_takesKey_19 (by decide) ?_
  refine lv_istore_n (lv' := [(2, .int 0), (0, .ref Ad0), (1, .int 4)]) hx hb dX12_takesKey_20 rfl hl (by decide) rfl (fun ls hl => ?_)
  refine lv_iload_n hx hb dX12_takesKey_21 rfl (lv_at hl 0 rfl) ?_
  refine lv_if_eq (tgt := 29) hx hb dX12_takesKey_22 (by decide) (fun c102 => ?_) (fun c102 => absurd c102 (by decide))
  refine lv_iload_n hx hb dX12_takesKey_29 rfl (lv_at hl 0 rfl) ?_
  have hP9 := hP.sub (ws' := [(Ad0, .inr (15, Fs0))]) [0] rfl
  have hD9 := hD.sub (ws' := [(Ad0, .inr (15, Fs0))]) [0] (by decide) rfl
  have hK9 := hK.sub (tys' := []) [] rfl
  exact W.zret (v := 0) hx hb hr rfl (fun t ht hW => ⟨⟨0, (), rfl, rfl, by rw [ht]; exact hP9, va_K.moved hW.alike hK9, hD9⟩, hS.F ht⟩) hS.2.2 dX12_takesKey_30

def l_z_X12_ask : List Cond := [.methodLink RX12 542 yX12_isPicture, .instanceMethod yX12_isPicture, .selects RX12 yX12_isPicture yX12_isPicture, .initialized RX12, .fieldLink RX12 388 "HeapWorksModel" "thrown" "I", .fieldLink RX12 852 "HeapWorksModel" "answers" "I", .methodLink RX12 855 yX12_beginText, .instanceMethod yX12_beginText, .selects RX12 yX12_beginText yX12_beginText, .fieldLink RX12 764 "HeapWorksModel" "hasIt" "Z", .methodLink RX12 771 yX12_readSet, .instanceMethod yX12_readSet, .selects RX12 yX12_readSet yX12_readSet, .methodLink RX12 768 yX12_takesKey, .instanceMethod yX12_takesKey, .selects RX12 yX12_takesKey yX12_takesKey, .methodLink RX12 858 yX12_endText, .instanceMethod yX12_endText, .selects RX12 yX12_endText yX12_endText, .fieldLink RX12 776 "HeapWorksModel" "fault" "I", .code yX12_isPicture cX12_isPicture 2 (some .boolean), .code yX12_beginText cX12_beginText 2 none, .fieldLink RX12 673 "HeapWorksModel" "nodeBase" "I", .fieldLink RX12 670 "HeapWorksModel" "nodes" "I", .fieldLink RX12 676 "HeapWorksModel" "nested" "I", .fieldLink RX12 761 "HeapWorksModel" "known" "I", .fieldLink RX12 625 "HeapWorksModel" "stop" "I", .fieldLink RX12 628 "HeapWorksModel" "stopAt" "I", .fieldLink RX12 631 "HeapWorksModel" "at0" "I", .methodLink RX12 661 yX12_advance, .instanceMethod yX12_advance, .selects RX12 yX12_advance yX12_advance, .code yX12_advance cX12_advance 5 none, .methodLink RX12 634 yX12_byteAt, .instanceMethod yX12_byteAt, .selects RX12 yX12_byteAt yX12_byteAt, .fieldLink RX12 637 "HeapWorksModel" "from0" "I", .fieldLink RX12 640 "HeapWorksModel" "word" "J", .fieldLink RX12 644 "HeapWorksModel" "kind" "I", .code yX12_byteAt cX12_byteAt 2 (some .int), .fieldLink RX12 391 "HeapWorksModel" "taped" "I", .code yX12_readSet cX12_readSet 4 (some .int), .methodLink RX12 751 yX12_keyAtHand, .instanceMethod yX12_keyAtHand, .selects RX12 yX12_keyAtHand yX12_keyAtHand, .methodLink RX12 664 yX12_wrong, .instanceMethod yX12_wrong, .selects RX12 yX12_wrong yX12_wrong, .code yX12_keyAtHand cX12_keyAtHand 1 (some .int), .code yX12_wrong cX12_wrong 1 none, .methodLink RX12 653 yX12_fail, .instanceMethod yX12_fail, .selects RX12 yX12_fail yX12_fail, .code yX12_fail cX12_fail 3 none, .code yX12_takesKey cX12_takesKey 3 (some .boolean), .code yX12_endText cX12_endText 1 none, .fieldLink RX12 268 "HeapWorksModel" "faultAt" "I"]
def w_z_X12_ask : List Cond := .code yX12_ask cX12_ask 5 (some .int) :: (l_z_X12_ask ++ (wsX120))
theorem in_z_X12_ask_X12 : ∀ w ∈ wsX120, w ∈ w_z_X12_ask := fun w h => List.mem_cons_of_mem _ (List.mem_append_right _ (h))
theorem g_z_X12_ask_z_X12_isPicture_542 : GoodIn w_z_X12_ask (wsV RX12 542 RX12 yX12_isPicture w_z_X12_isPicture) := goodIn_app (goodIn_r (([.methodLink RX12 542 yX12_isPicture, .instanceMethod yX12_isPicture, .selects RX12 yX12_isPicture yX12_isPicture, .initialized RX12] : List Cond)) [1, 2, 3, 4] rfl (by decide +kernel)) (goodIn_r (.code yX12_isPicture cX12_isPicture 2 (some .boolean) :: l_z_X12_isPicture) [21] rfl (by decide +kernel))
theorem g_z_X12_ask_z_X12_beginText_1_855 : GoodIn w_z_X12_ask (wsV RX12 855 RX12 yX12_beginText w_z_X12_beginText_1) := goodIn_app (goodIn_r (([.methodLink RX12 855 yX12_beginText, .instanceMethod yX12_beginText, .selects RX12 yX12_beginText yX12_beginText, .initialized RX12] : List Cond)) [7, 8, 9, 4] rfl (by decide +kernel)) (goodIn_ca (goodIn_r (.code yX12_beginText cX12_beginText 2 none :: l_z_X12_beginText_1) [22, 23, 24, 25, 26, 27, 28, 29, 30, 31, 32, 4, 33, 34, 35, 36, 37, 38, 39, 40, 41] rfl (by decide +kernel)) (goodIn_in (in_z_X12_ask_X12) gd_X12))
theorem g_z_X12_ask_z_X12_readSet_771 : GoodIn w_z_X12_ask (wsV RX12 771 RX12 yX12_readSet w_z_X12_readSet) := goodIn_app (goodIn_r (([.methodLink RX12 771 yX12_readSet, .instanceMethod yX12_readSet, .selects RX12 yX12_readSet yX12_readSet, .initialized RX12] : List Cond)) [11, 12, 13, 4] rfl (by decide +kernel)) (goodIn_ca (goodIn_r (.code yX12_readSet cX12_readSet 4 (some .int) :: l_z_X12_readSet) [42, 27, 43, 44, 45, 4, 46, 47, 48, 23, 49, 39, 50, 37, 51, 52, 53, 54, 28] rfl (by decide +kernel)) (goodIn_in (in_z_X12_ask_X12) gd_X12))
theorem g_z_X12_ask_z_X12_takesKey_768 : GoodIn w_z_X12_ask (wsV RX12 768 RX12 yX12_takesKey w_z_X12_takesKey) := goodIn_app (goodIn_r (([.methodLink RX12 768 yX12_takesKey, .instanceMethod yX12_takesKey, .selects RX12 yX12_takesKey yX12_takesKey, .initialized RX12] : List Cond)) [14, 15, 16, 4] rfl (by decide +kernel)) (goodIn_ca (goodIn_r (.code yX12_takesKey cX12_takesKey 3 (some .boolean) :: l_z_X12_takesKey) [55, 27] rfl (by decide +kernel)) (goodIn_in (in_z_X12_ask_X12) gd_X12))
theorem g_z_X12_ask_z_X12_takesKey_1_768 : GoodIn w_z_X12_ask (wsV RX12 768 RX12 yX12_takesKey w_z_X12_takesKey_1) := goodIn_app (goodIn_r (([.methodLink RX12 768 yX12_takesKey, .instanceMethod yX12_takesKey, .selects RX12 yX12_takesKey yX12_takesKey, .initialized RX12] : List Cond)) [14, 15, 16, 4] rfl (by decide +kernel)) (goodIn_ca (goodIn_r (.code yX12_takesKey cX12_takesKey 3 (some .boolean) :: l_z_X12_takesKey_1) [55, 27] rfl (by decide +kernel)) (goodIn_in (in_z_X12_ask_X12) gd_X12))
theorem g_z_X12_ask_z_X12_endText_858 : GoodIn w_z_X12_ask (wsV RX12 858 RX12 yX12_endText w_z_X12_endText) := goodIn_app (goodIn_r (([.methodLink RX12 858 yX12_endText, .instanceMethod yX12_endText, .selects RX12 yX12_endText yX12_endText, .initialized RX12] : List Cond)) [17, 18, 19, 4] rfl (by decide +kernel)) (goodIn_ca (goodIn_r (.code yX12_endText cX12_endText 1 none :: l_z_X12_endText) [56, 27, 20, 28, 57] rfl (by decide +kernel)) (goodIn_in (in_z_X12_ask_X12) gd_X12))
set_option maxHeartbeats 4000000 in
set_option maxRecDepth 100000 in
theorem z_X12_ask (l : Launch) (dC : Nat → ClassId) (dI : Nat → Nat → Nat) (sz : Nat) (Ad0 : Nat) (Fs0 : List Value) (Va0 : Int32) (k_Fs0 : fh Fs0 150 [(0, .int 0), (3, .int 0), (78, .int 0), (79, .int 0), (80, .int 0), (81, .int 0), (83, .int 0), (84, .int 0), (91, .int 0), (110, .int 0)])  : Met l yX12_ask w_z_X12_ask ({ frames := 3, cells := 0, slots := 0, locals := 66 }) (va_Pc [.ref Ad0, .int Va0] (fun U => U.heap.size = sz ∧ Wd dC dI [] (fun _ => True) [(Ad0, .inr (15, Fs0))] U)) (va_Qi (fun (r : Int32) (u : List Value) => (Va0 < 0 ∧ r = 0 ∧ ow Fs0 (u) 150 [0] [(0, .int 1), (3, .int 0), (78, .int 0), (79, .int 0), (80, .int 0), (81, .int 0), (83, .int 0), (84, .int 0), (91, .int 0), (110, .int 0)]) ∨ (¬ Va0 < 0 ∧ 4 ≤ Va0 ∧ r = 0 ∧ ow Fs0 (u) 150 [0] [(0, .int 1), (3, .int 0), (78, .int 0), (79, .int 0), (80, .int 0), (81, .int 0), (83, .int 0), (84, .int 0), (91, .int 0), (110, .int 0)]) ∨ (¬ Va0 < 0 ∧ ¬ 4 ≤ Va0 ∧ r = 0 ∧ ow Fs0 (u) 150 [110, 0, 82, 81, 95, 84, 83, 80, 85, 79, 78, 94, 93, 92, 91] [(110, .int 0), (0, .int 2), (82, .int 0), (81, .int 1), (84, .int 0), (83, .int 1), (95, .int 1), (84, .int 0), (83, .int 1), (80, .int 0), (79, .int 0), (80, .int 0), (79, .int 0), (91, .int 0), (80, .int 0), (85, .long 0), (79, .int 0), (78, .int 0), (3, .int 0), (78, .int 0), (94, .int 0), (93, .int 0), (92, .int 0), (91, .int 0), (3, .int 0), (3, .int 0)])) (fun (u : List Value) t => Wd dC dI [] (va_A [(Ad0, .inr (15, Fs0))] sz) [(Ad0, .inr (15, (u)))] t) (va_A [(Ad0, .inr (15, Fs0))] sz))  0 0 (va_A [(Ad0, .inr (15, Fs0))] sz) := by
  refine Met.ofW (cc := cX12_ask) (maxL := 5) (ret := (some .int)) (by decide) rfl ?_
  intro p e s m args below meth c s₁ B hml hv
  obtain ⟨rfl, hsz, hP, hK, hD0⟩ := hv
  have hx := B.exec
  have hb := B.bytes
  have hr := B.returns
  have hts := atoms_spec (ws := w_z_X12_ask) B.pre
  have hown : s.vm.findClass RX12 = some m.cls := findClass_of_methodNamed B.named
  have hlocks := B.notSynchronized
  subst hsz
  have hD := hD0.self (sz := s.heap.size)
  generalize hAe : va_A [(Ad0, .inr (15, Fs0))] s.heap.size = A at hD ⊢
  have hA : ∀ q : Nat, s.heap.size ≤ q → A q := fun q h => by rw [← hAe]; exact Or.inr h
  have hS : va_S A s.heap s.heap [] := va_S.rf
  have hl := lv_entry ([.ref Ad0, .int Va0]) (n := 5) (Nat.le_of_ble_eq_true rfl)
  rw [lg_entry_eq]
  generalize (lg_sl ([.ref Ad0, .int Va0]) ++ List.replicate (5 - (lg_sl ([.ref Ad0, .int Va0])).length) Slot.unset).toArray = ls at hl ⊢
  have hl : lv_has ls 5 [(0, .ref Ad0), (1, .int Va0)] := hl
  have o_Fs0 := ow_0 k_Fs0
  refine lv_aload_n hx hb dX12_ask_0 rfl (lv_at hl 0 rfl) ?_
  refine lv_aload_n hx hb dX12_ask_1 rfl (lv_at hl 0 rfl) ?_
  refine lv_iload_n hx hb dX12_ask_2 rfl (lv_at hl 1 rfl) ?_
  have hPc := hP.sub (ws' := []) [] rfl
  have hDc := hD.sub (ws' := []) [] (by decide) rfl
  have hKc := hK.sub (tys' := []) [] rfl
  have hFc := va_free (wc := []) hD hS hA [] rfl
  refine va_calli (va_runV (As := [.int Va0]) (rest := [.ref Ad0]) ⟨hx, hb, hml, hown, hts⟩ (z_X12_isPicture l dC dI s.heap.size Ad0 Va0  ) (cwV 1 hts g_z_X12_ask_z_X12_isPicture_542 rfl rfl rfl (by decide +kernel) ⟨Nat.le_of_ble_eq_true rfl, Nat.le_of_ble_eq_true rfl⟩) ⟨fun a U g mk q => by obtain ⟨q0, q1, qP, qK, qD⟩ := q; exact ⟨q0, q1, qP, va_K.moved (u := U) (U := U.calling g mk a) (Vm.Alike.refl U.vm) qK, qD⟩, va_recv hK hP (ci := 15) (q0 := 0) rfl rfl, fun U hU hW => ⟨rfl, by rw [hU], by rw [hU]; exact hPc, va_K.moved hW.alike hKc, hDc.weaken (fun _ _ _ _ => trivial)⟩⟩ rfl rfl hl.1 rfl (lv_room (Nat.le_of_ble_eq_true rfl)) dX12_ask_3 ⟨Nat.le_of_ble_eq_true rfl, Nat.le_of_ble_eq_true rfl⟩) hS (fun q _ h => hFc q h) hFc (fun r101 u t H1 locs ht hvm hw hB hz1 hk1 hS => ?_)
  obtain ⟨hP1, hK1, hD1⟩ := hB
  rw [ht] at hP1
  try dsimp only at hw
  obtain ⟨hP, hD⟩ := va_join (wr := [(Ad0, .inr (15, Fs0))]) (w1 := []) hP hD [] [0] rfl rfl (by decide) (by decide) hk1 hFc hP1 hD1
  have hK := hK.sub (tys' := []) [] rfl
  generalize H1 = H at hP hS ⊢
  have hP : va_P (dC, dI) vwCl [(Ad0, .inr (15, Fs0))] H := hP
  have hD : va_D A [(Ad0, .inr (15, Fs0))] := hD
  rcases hw with ⟨c102, er103⟩ | ⟨c104, c105, er106⟩ | ⟨c107, c108, er109⟩
  · skip
    subst er103
    refine lv_if_eq (tgt := 13) hx hb dX12_ask_6 (by decide) (fun c110 => ?_) (fun c110 => absurd c110 (by decide))
    refine lv_iconst (v := 1) hx hb dX12_ask_13 (by decide) ?_
    refine va_put (D := (dC, dI)) (ci := 15) (v := .int 1) (ty := .int) (C := RX12) (T := TX12) (N := 150) hx hb hts (in_z_X12_ask_X12) tyX12 tyX12_ok nmX12 hown hK hP hD hS 0 rfl rfl 0 (by decide) (hts (.fieldLink RX12 388 "HeapWorksModel" "thrown" "I") (by decide +kernel)) (fun _ h9 => h9) rfl (by decide +kernel) rfl rfl (by rw [o_Fs0.2.1]; decide) dX12_ask_14 (fun H locs hP hD hS => ?_)
    have hP : va_P (dC, dI) vwCl [(Ad0, .inr (15, (Fs0.set 0 (.int 1))))] H := hP
    have hD : va_D A [(Ad0, .inr (15, (Fs0.set 0 (.int 1))))] := hD
    have o_s111 := ow_set o_Fs0 0 (.int 1) (by decide) (l' := [(0, .int 1), (3, .int 0), (78, .int 0), (79, .int 0), (80, .int 0), (81, .int 0), (83, .int 0), (84, .int 0), (91, .int 0), (110, .int 0)]) (w' := [0]) rfl rfl
    generalize (Fs0.set 0 (.int 1)) = s111 at hP hD o_s111
    refine lv_aload_n hx hb dX12_ask_17 rfl (lv_at hl 0 rfl) ?_
    refine va_get (D := (dC, dI)) (ci := 15) (v := .int 1) (C := RX12) (T := TX12) (N := 150) hx hb hts (in_z_X12_ask_X12) hown hK hP 0 rfl rfl 0 (by decide) (hts (.fieldLink RX12 388 "HeapWorksModel" "thrown" "I") (by decide +kernel)) (fun _ h9 => h9) (ow_at o_s111 0 rfl) dX12_ask_18 ?_
    refine lv_if_le (tgt := 26) hx hb dX12_ask_21 (by decide) (fun c112 => absurd c112 (by decide)) (fun c112 => ?_)
    refine lv_iconst (v := 0) hx hb dX12_ask_24 (by decide) ?_
    have hP9 := hP.sub (ws' := [(Ad0, .inr (15, s111))]) [0] rfl
    have hD9 := hD.sub (ws' := [(Ad0, .inr (15, s111))]) [0] (by decide) rfl
    have hK9 := hK.sub (tys' := []) [] rfl
    exact W.iret (v := 0) hx hb hr (fun t ht hW => ⟨⟨0, s111, rfl, (Or.inl ⟨c102, rfl, o_s111⟩), by rw [ht]; exact hP9, va_K.moved hW.alike hK9, hD9⟩, hS.F ht⟩) hS.2.2 dX12_ask_25
  · skip
    subst er106
    refine lv_if_eq (tgt := 13) hx hb dX12_ask_6 (by decide) (fun c113 => ?_) (fun c113 => absurd c113 (by decide))
    refine lv_iconst (v := 1) hx hb dX12_ask_13 (by decide) ?_
    refine va_put (D := (dC, dI)) (ci := 15) (v := .int 1) (ty := .int) (C := RX12) (T := TX12) (N := 150) hx hb hts (in_z_X12_ask_X12) tyX12 tyX12_ok nmX12 hown hK hP hD hS 0 rfl rfl 0 (by decide) (hts (.fieldLink RX12 388 "HeapWorksModel" "thrown" "I") (by decide +kernel)) (fun _ h9 => h9) rfl (by decide +kernel) rfl rfl (by rw [o_Fs0.2.1]; decide) dX12_ask_14 (fun H locs hP hD hS => ?_)
    have hP : va_P (dC, dI) vwCl [(Ad0, .inr (15, (Fs0.set 0 (.int 1))))] H := hP
    have hD : va_D A [(Ad0, .inr (15, (Fs0.set 0 (.int 1))))] := hD
    have o_s114 := ow_set o_Fs0 0 (.int 1) (by decide) (l' := [(0, .int 1), (3, .int 0), (78, .int 0), (79, .int 0), (80, .int 0), (81, .int 0), (83, .int 0), (84, .int 0), (91, .int 0), (110, .int 0)]) (w' := [0]) rfl rfl
    generalize (Fs0.set 0 (.int 1)) = s114 at hP hD o_s114
    refine lv_aload_n hx hb dX12_ask_17 rfl (lv_at hl 0 rfl) ?_
    refine va_get (D := (dC, dI)) (ci := 15) (v := .int 1) (C := RX12) (T := TX12) (N := 150) hx hb hts (in_z_X12_ask_X12) hown hK hP 0 rfl rfl 0 (by decide) (hts (.fieldLink RX12 388 "HeapWorksModel" "thrown" "I") (by decide +kernel)) (fun _ h9 => h9) (ow_at o_s114 0 rfl) dX12_ask_18 ?_
    refine lv_if_le (tgt := 26) hx hb dX12_ask_21 (by decide) (fun c115 => absurd c115 (by decide)) (fun c115 => ?_)
    refine lv_iconst (v := 0) hx hb dX12_ask_24 (by decide) ?_
    have hP9 := hP.sub (ws' := [(Ad0, .inr (15, s114))]) [0] rfl
    have hD9 := hD.sub (ws' := [(Ad0, .inr (15, s114))]) [0] (by decide) rfl
    have hK9 := hK.sub (tys' := []) [] rfl
    exact W.iret (v := 0) hx hb hr (fun t ht hW => ⟨⟨0, s114, rfl, (Or.inr (Or.inl ⟨c104, c105, rfl, o_s114⟩)), by rw [ht]; exact hP9, va_K.moved hW.alike hK9, hD9⟩, hS.F ht⟩) hS.2.2 dX12_ask_25
  · skip
    subst er109
    refine lv_if_eq (tgt := 13) hx hb dX12_ask_6 (by decide) (fun c116 => absurd c116 (by decide)) (fun c116 => ?_)
    refine lv_iconst (v := 0) hx hb dX12_ask_9 (by decide) ?_
    refine lv_goto (tgt := 14) hx hb dX12_ask_10 (by decide) ?_
    refine va_put (D := (dC, dI)) (ci := 15) (v := .int 0) (ty := .int) (C := RX12) (T := TX12) (N := 150) hx hb hts (in_z_X12_ask_X12) tyX12 tyX12_ok nmX12 hown hK hP hD hS 0 rfl rfl 0 (by decide) (hts (.fieldLink RX12 388 "HeapWorksModel" "thrown" "I") (by decide +kernel)) (fun _ h9 => h9) rfl (by decide +kernel) rfl rfl (by rw [o_Fs0.2.1]; decide) dX12_ask_14 (fun H locs hP hD hS => ?_)
    have hP : va_P (dC, dI) vwCl [(Ad0, .inr (15, (Fs0.set 0 (.int 0))))] H := hP
    have hD : va_D A [(Ad0, .inr (15, (Fs0.set 0 (.int 0))))] := hD
    have o_s117 := ow_set o_Fs0 0 (.int 0) (by decide) (l' := [(0, .int 0), (3, .int 0), (78, .int 0), (79, .int 0), (80, .int 0), (81, .int 0), (83, .int 0), (84, .int 0), (91, .int 0), (110, .int 0)]) (w' := [0]) rfl rfl
    generalize (Fs0.set 0 (.int 0)) = s117 at hP hD o_s117
    refine lv_aload_n hx hb dX12_ask_17 rfl (lv_at hl 0 rfl) ?_
    refine va_get (D := (dC, dI)) (ci := 15) (v := .int 0) (C := RX12) (T := TX12) (N := 150) hx hb hts (in_z_X12_ask_X12) hown hK hP 0 rfl rfl 0 (by decide) (hts (.fieldLink RX12 388 "HeapWorksModel" "thrown" "I") (by decide +kernel)) (fun _ h9 => h9) (ow_at o_s117 0 rfl) dX12_ask_18 ?_
    refine lv_if_le (tgt := 26) hx hb dX12_ask_21 (by decide) (fun c118 => ?_) (fun c118 => absurd c118 (by decide))
    refine lv_aload_n hx hb dX12_ask_26 rfl (lv_at hl 0 rfl) ?_
    refine lv_iconst (v := 0) hx hb dX12_ask_27 (by decide) ?_
    refine va_put (D := (dC, dI)) (ci := 15) (v := .int 0) (ty := .int) (C := RX12) (T := TX12) (N := 150) hx hb hts (in_z_X12_ask_X12) tyX12 tyX12_ok nmX12 hown hK hP hD hS 0 rfl rfl 110 (by decide) (hts (.fieldLink RX12 852 "HeapWorksModel" "answers" "I") (by decide +kernel)) (fun _ h9 => h9) rfl (by decide +kernel) rfl rfl (by rw [o_s117.2.1]; decide) dX12_ask_28 (fun H locs hP hD hS => ?_)
    have hP : va_P (dC, dI) vwCl [(Ad0, .inr (15, (s117.set 110 (.int 0))))] H := hP
    have hD : va_D A [(Ad0, .inr (15, (s117.set 110 (.int 0))))] := hD
    have o_s119 := ow_set o_s117 110 (.int 0) (by decide) (l' := [(110, .int 0), (0, .int 0), (3, .int 0), (78, .int 0), (79, .int 0), (80, .int 0), (81, .int 0), (83, .int 0), (84, .int 0), (91, .int 0)]) (w' := [110, 0]) rfl rfl
    generalize (s117.set 110 (.int 0)) = s119 at hP hD o_s119
    refine lv_aload_n hx hb dX12_ask_31 rfl (lv_at hl 0 rfl) ?_
    refine lv_iconst (v := 0) hx hb dX12_ask_32 (by decide) ?_
    have hPc := hP.sub (ws' := [(Ad0, .inr (15, s119))]) [0] rfl
    have hDc := hD.sub (ws' := [(Ad0, .inr (15, s119))]) [0] (by decide) rfl
    have hKc := hK.sub (tys' := []) [] rfl
    have hFc := va_free (wc := [(Ad0, .inr (15, s119))]) hD hS hA [0] rfl
    refine va_callv (va_runV (As := [.int 0]) (rest := []) ⟨hx, hb, hml, hown, hts⟩ (z_X12_beginText_1 l dC dI H.size Ad0 s119 (fh_sub o_s119.2 [2, 3] rfl) ) (cwV 1 hts g_z_X12_ask_z_X12_beginText_1_855 rfl rfl rfl (by decide +kernel) ⟨Nat.le_of_ble_eq_true rfl, Nat.le_of_ble_eq_true rfl⟩) ⟨fun a U g mk q => by obtain ⟨q0, q1, qP, qK, qD⟩ := q; exact ⟨q0, q1, qP, va_K.moved (u := U) (U := U.calling g mk a) (Vm.Alike.refl U.vm) qK, qD⟩, va_recv hK hP (ci := 15) (q0 := 0) rfl rfl, fun U hU hW => ⟨rfl, by rw [hU], by rw [hU]; exact hPc, va_K.moved hW.alike hKc, hDc.weaken (fun _ _ _ _ => trivial)⟩⟩ rfl rfl hl.1 rfl (lv_room (Nat.le_of_ble_eq_true rfl)) dX12_ask_33 ⟨Nat.le_of_ble_eq_true rfl, Nat.le_of_ble_eq_true rfl⟩) hS (fun q _ h => hFc q h) hFc (fun u t H1 locs ht hvm hw hB hz1 hk1 hS => ?_)
    obtain ⟨s120, rfl⟩ : ∃ z, z = u := ⟨_, rfl⟩
    obtain ⟨hP1, hK1, hD1⟩ := hB
    rw [ht] at hP1
    try dsimp only at hw
    obtain ⟨hP, hD⟩ := va_join (wr := []) (w1 := [(Ad0, .inr (15, s120))]) hP hD [0] [] rfl rfl (by decide) (by decide) hk1 hFc hP1 hD1
    have hK := hK.sub (tys' := []) [] rfl
    generalize H1 = H at hP hS ⊢
    have hP : va_P (dC, dI) vwCl [(Ad0, .inr (15, s120))] H := hP
    have hD : va_D A [(Ad0, .inr (15, s120))] := hD
    have o_s120 := hw
    have o_s120 := ow_on o_s119 o_s120 (l' := [(80, .int 0), (85, .long 0), (79, .int 0), (78, .int 0), (3, .int 0), (78, .int 0), (84, .int (-1)), (83, .int 0), (94, .int 0), (93, .int 0), (92, .int 0), (91, .int 0), (3, .int 0), (110, .int 0), (0, .int 0), (3, .int 0), (81, .int 0)]) (w' := [80, 85, 79, 78, 84, 83, 94, 93, 92, 91, 110, 0]) rfl rfl
    refine lv_aload_n hx hb dX12_ask_36 rfl (lv_at hl 0 rfl) ?_
    refine lv_iconst (v := 0) hx hb dX12_ask_37 (by decide) ?_
    refine va_put (D := (dC, dI)) (ci := 15) (v := .int 0) (ty := .boolean) (C := RX12) (T := TX12) (N := 150) hx hb hts (in_z_X12_ask_X12) tyX12 tyX12_ok nmX12 hown hK hP hD hS 0 rfl rfl 95 (by decide) (hts (.fieldLink RX12 764 "HeapWorksModel" "hasIt" "Z") (by decide +kernel)) (fun _ h9 => h9) rfl (by decide +kernel) rfl rfl (by rw [o_s120.2.1]; decide) dX12_ask_38 (fun H locs hP hD hS => ?_)
    have hP : va_P (dC, dI) vwCl [(Ad0, .inr (15, (s120.set 95 (.int 0))))] H := hP
    have hD : va_D A [(Ad0, .inr (15, (s120.set 95 (.int 0))))] := hD
    have o_s121 := ow_set o_s120 95 (.int 0) (by decide) (l' := [(95, .int 0), (80, .int 0), (85, .long 0), (79, .int 0), (78, .int 0), (3, .int 0), (78, .int 0), (84, .int (-1)), (83, .int 0), (94, .int 0), (93, .int 0), (92, .int 0), (91, .int 0), (3, .int 0), (110, .int 0), (0, .int 0), (3, .int 0), (81, .int 0)]) (w' := [95, 80, 85, 79, 78, 84, 83, 94, 93, 92, 91, 110, 0]) rfl rfl
    generalize (s120.set 95 (.int 0)) = s121 at hP hD o_s121
    refine lv_aload_n hx hb dX12_ask_41 rfl (lv_at hl 0 rfl) ?_
    have hPc := hP.sub (ws' := [(Ad0, .inr (15, s121))]) [0] rfl
    have hDc := hD.sub (ws' := [(Ad0, .inr (15, s121))]) [0] (by decide) rfl
    have hKc := hK.sub (tys' := []) [] rfl
    have hFc := va_free (wc := [(Ad0, .inr (15, s121))]) hD hS hA [0] rfl
    refine va_calli (va_runV (As := []) (rest := []) ⟨hx, hb, hml, hown, hts⟩ (z_X12_readSet l dC dI H.size Ad0 s121 (fh_sub o_s121.2 [1, 3, 8, 12] rfl) ) (cwV 0 hts g_z_X12_ask_z_X12_readSet_771 rfl rfl rfl (by decide +kernel) ⟨Nat.le_of_ble_eq_true rfl, Nat.le_of_ble_eq_true rfl⟩) ⟨fun a U g mk q => by obtain ⟨q0, q1, qP, qK, qD⟩ := q; exact ⟨q0, q1, qP, va_K.moved (u := U) (U := U.calling g mk a) (Vm.Alike.refl U.vm) qK, qD⟩, va_recv hK hP (ci := 15) (q0 := 0) rfl rfl, fun U hU hW => ⟨rfl, by rw [hU], by rw [hU]; exact hPc, va_K.moved hW.alike hKc, hDc.weaken (fun _ _ _ _ => trivial)⟩⟩ rfl rfl hl.1 rfl (lv_room (Nat.le_of_ble_eq_true rfl)) dX12_ask_42 ⟨Nat.le_of_ble_eq_true rfl, Nat.le_of_ble_eq_true rfl⟩) hS (fun q _ h => hFc q h) hFc (fun r122 u t H1 locs ht hvm hw hB hz1 hk1 hS => ?_)
    obtain ⟨s123, rfl⟩ : ∃ z, z = u := ⟨_, rfl⟩
    obtain ⟨hP1, hK1, hD1⟩ := hB
    rw [ht] at hP1
    try dsimp only at hw
    obtain ⟨hP, hD⟩ := va_join (wr := []) (w1 := [(Ad0, .inr (15, s123))]) hP hD [0] [] rfl rfl (by decide) (by decide) hk1 hFc hP1 hD1
    have hK := hK.sub (tys' := []) [] rfl
    generalize H1 = H at hP hS ⊢
    have hP : va_P (dC, dI) vwCl [(Ad0, .inr (15, s123))] H := hP
    have hD : va_D A [(Ad0, .inr (15, s123))] := hD
    obtain ⟨er124, o_s123⟩ := hw
    subst er124
    have o_s123 := ow_on o_s121 o_s123 (l' := [(84, .int 0), (83, .int 1), (80, .int 0), (79, .int 0), (80, .int 0), (79, .int 0), (91, .int 0), (95, .int 0), (80, .int 0), (85, .long 0), (79, .int 0), (78, .int 0), (3, .int 0), (78, .int 0), (94, .int 0), (93, .int 0), (92, .int 0), (91, .int 0), (3, .int 0), (110, .int 0), (0, .int 0), (3, .int 0), (81, .int 0)]) (w' := [84, 83, 95, 80, 85, 79, 78, 94, 93, 92, 91, 110, 0]) rfl rfl
    refine lv_istore_n (lv' := [(2, .int 0), (0, .ref Ad0), (1, .int Va0)]) hx hb dX12_ask_45 rfl hl (by decide) rfl (fun ls hl => ?_)
    refine lv_aload_n hx hb dX12_ask_46 rfl (lv_at hl 1 rfl) ?_
    refine lv_iconst (v := 1) hx hb dX12_ask_47 (by decide) ?_
    refine va_put (D := (dC, dI)) (ci := 15) (v := .int 1) (ty := .boolean) (C := RX12) (T := TX12) (N := 150) hx hb hts (in_z_X12_ask_X12) tyX12 tyX12_ok nmX12 hown hK hP hD hS 0 rfl rfl 95 (by decide) (hts (.fieldLink RX12 764 "HeapWorksModel" "hasIt" "Z") (by decide +kernel)) (fun _ h9 => h9) rfl (by decide +kernel) rfl rfl (by rw [o_s123.2.1]; decide) dX12_ask_48 (fun H locs hP hD hS => ?_)
    have hP : va_P (dC, dI) vwCl [(Ad0, .inr (15, (s123.set 95 (.int 1))))] H := hP
    have hD : va_D A [(Ad0, .inr (15, (s123.set 95 (.int 1))))] := hD
    have o_s125 := ow_set o_s123 95 (.int 1) (by decide) (l' := [(95, .int 1), (84, .int 0), (83, .int 1), (80, .int 0), (79, .int 0), (80, .int 0), (79, .int 0), (91, .int 0), (80, .int 0), (85, .long 0), (79, .int 0), (78, .int 0), (3, .int 0), (78, .int 0), (94, .int 0), (93, .int 0), (92, .int 0), (91, .int 0), (3, .int 0), (110, .int 0), (0, .int 0), (3, .int 0), (81, .int 0)]) (w' := [95, 84, 83, 80, 85, 79, 78, 94, 93, 92, 91, 110, 0]) rfl rfl
    generalize (s123.set 95 (.int 1)) = s125 at hP hD o_s125
    refine lv_aload_n hx hb dX12_ask_51 rfl (lv_at hl 1 rfl) ?_
    refine lv_iconst (v := 3) hx hb dX12_ask_52 (by decide) ?_
    have hPc := hP.sub (ws' := [(Ad0, .inr (15, s125))]) [0] rfl
    have hDc := hD.sub (ws' := [(Ad0, .inr (15, s125))]) [0] (by decide) rfl
    have hKc := hK.sub (tys' := []) [] rfl
    have hFc := va_free (wc := [(Ad0, .inr (15, s125))]) hD hS hA [0] rfl
    refine va_calli (va_runV (As := [.int 3]) (rest := []) ⟨hx, hb, hml, hown, hts⟩ (z_X12_takesKey l dC dI H.size Ad0 s125 (fh_sub o_s125.2 [2] rfl) ) (cwV 1 hts g_z_X12_ask_z_X12_takesKey_768 rfl rfl rfl (by decide +kernel) ⟨Nat.le_of_ble_eq_true rfl, Nat.le_of_ble_eq_true rfl⟩) ⟨fun a U g mk q => by obtain ⟨q0, q1, qP, qK, qD⟩ := q; exact ⟨q0, q1, qP, va_K.moved (u := U) (U := U.calling g mk a) (Vm.Alike.refl U.vm) qK, qD⟩, va_recv hK hP (ci := 15) (q0 := 0) rfl rfl, fun U hU hW => ⟨rfl, by rw [hU], by rw [hU]; exact hPc, va_K.moved hW.alike hKc, hDc.weaken (fun _ _ _ _ => trivial)⟩⟩ rfl rfl hl.1 rfl (lv_room (Nat.le_of_ble_eq_true rfl)) dX12_ask_53 ⟨Nat.le_of_ble_eq_true rfl, Nat.le_of_ble_eq_true rfl⟩) hS (fun q _ h => hFc q h) hFc (fun r126 u t H1 locs ht hvm hw hB hz1 hk1 hS => ?_)
    obtain ⟨hP1, hK1, hD1⟩ := hB
    rw [ht] at hP1
    try dsimp only at hw
    obtain ⟨hP, hD⟩ := va_join (wr := []) (w1 := [(Ad0, .inr (15, s125))]) hP hD [0] [] rfl rfl (by decide) (by decide) hk1 hFc hP1 hD1
    have hK := hK.sub (tys' := []) [] rfl
    generalize H1 = H at hP hS ⊢
    have hP : va_P (dC, dI) vwCl [(Ad0, .inr (15, s125))] H := hP
    have hD : va_D A [(Ad0, .inr (15, s125))] := hD
    have er127 := hw
    subst er127
    refine lv_if_eq (tgt := 66) hx hb dX12_ask_56 (by decide) (fun c128 => ?_) (fun c128 => absurd c128 (by decide))
    refine lv_iconst (v := (-1)) hx hb dX12_ask_66 (by decide) ?_
    refine lv_istore_n (lv' := [(3, .int (-1)), (2, .int 0), (0, .ref Ad0), (1, .int Va0)]) hx hb dX12_ask_67 rfl hl (by decide) rfl (fun ls hl => ?_)
    refine lv_aload_n hx hb dX12_ask_68 rfl (lv_at hl 2 rfl) ?_
    refine lv_iconst (v := 4) hx hb dX12_ask_69 (by decide) ?_
    have hPc := hP.sub (ws' := [(Ad0, .inr (15, s125))]) [0] rfl
    have hDc := hD.sub (ws' := [(Ad0, .inr (15, s125))]) [0] (by decide) rfl
    have hKc := hK.sub (tys' := []) [] rfl
    have hFc := va_free (wc := [(Ad0, .inr (15, s125))]) hD hS hA [0] rfl
    refine va_calli (va_runV (As := [.int 4]) (rest := []) ⟨hx, hb, hml, hown, hts⟩ (z_X12_takesKey_1 l dC dI H.size Ad0 s125 (fh_sub o_s125.2 [2] rfl) ) (cwV 1 hts g_z_X12_ask_z_X12_takesKey_1_768 rfl rfl rfl (by decide +kernel) ⟨Nat.le_of_ble_eq_true rfl, Nat.le_of_ble_eq_true rfl⟩) ⟨fun a U g mk q => by obtain ⟨q0, q1, qP, qK, qD⟩ := q; exact ⟨q0, q1, qP, va_K.moved (u := U) (U := U.calling g mk a) (Vm.Alike.refl U.vm) qK, qD⟩, va_recv hK hP (ci := 15) (q0 := 0) rfl rfl, fun U hU hW => ⟨rfl, by rw [hU], by rw [hU]; exact hPc, va_K.moved hW.alike hKc, hDc.weaken (fun _ _ _ _ => trivial)⟩⟩ rfl rfl hl.1 rfl (lv_room (Nat.le_of_ble_eq_true rfl)) dX12_ask_70 ⟨Nat.le_of_ble_eq_true rfl, Nat.le_of_ble_eq_true rfl⟩) hS (fun q _ h => hFc q h) hFc (fun r129 u t H1 locs ht hvm hw hB hz1 hk1 hS => ?_)
    obtain ⟨hP1, hK1, hD1⟩ := hB
    rw [ht] at hP1
    try dsimp only at hw
    obtain ⟨hP, hD⟩ := va_join (wr := []) (w1 := [(Ad0, .inr (15, s125))]) hP hD [0] [] rfl rfl (by decide) (by decide) hk1 hFc hP1 hD1
    have hK := hK.sub (tys' := []) [] rfl
    generalize H1 = H at hP hS ⊢
    have hP : va_P (dC, dI) vwCl [(Ad0, .inr (15, s125))] H := hP
    have hD : va_D A [(Ad0, .inr (15, s125))] := hD
    have er130 := hw
    subst er130
    refine lv_if_eq (tgt := 83) hx hb dX12_ask_73 (by decide) (fun c131 => ?_) (fun c131 => absurd c131 (by decide))
    refine lv_iconst (v := (-1)) hx hb dX12_ask_83 (by decide) ?_
    refine lv_istore (lv' := [(4, .int (-1)), (3, .int (-1)), (2, .int 0), (0, .ref Ad0), (1, .int Va0)]) hx hb dX12_ask_84 hl (by decide) rfl (fun ls hl => ?_)
    refine lv_aload_n hx hb dX12_ask_86 rfl (lv_at hl 3 rfl) ?_
    have hPc := hP.sub (ws' := [(Ad0, .inr (15, s125))]) [0] rfl
    have hDc := hD.sub (ws' := [(Ad0, .inr (15, s125))]) [0] (by decide) rfl
    have hKc := hK.sub (tys' := []) [] rfl
    have hFc := va_free (wc := [(Ad0, .inr (15, s125))]) hD hS hA [0] rfl
    refine va_callv (va_runV (As := []) (rest := []) ⟨hx, hb, hml, hown, hts⟩ (z_X12_endText l dC dI H.size Ad0 s125 (fh_sub o_s125.2 [1, 2] rfl) ) (cwV 0 hts g_z_X12_ask_z_X12_endText_858 rfl rfl rfl (by decide +kernel) ⟨Nat.le_of_ble_eq_true rfl, Nat.le_of_ble_eq_true rfl⟩) ⟨fun a U g mk q => by obtain ⟨q0, q1, qP, qK, qD⟩ := q; exact ⟨q0, q1, qP, va_K.moved (u := U) (U := U.calling g mk a) (Vm.Alike.refl U.vm) qK, qD⟩, va_recv hK hP (ci := 15) (q0 := 0) rfl rfl, fun U hU hW => ⟨rfl, by rw [hU], by rw [hU]; exact hPc, va_K.moved hW.alike hKc, hDc.weaken (fun _ _ _ _ => trivial)⟩⟩ rfl rfl hl.1 rfl (lv_room (Nat.le_of_ble_eq_true rfl)) dX12_ask_87 ⟨Nat.le_of_ble_eq_true rfl, Nat.le_of_ble_eq_true rfl⟩) hS (fun q _ h => hFc q h) hFc (fun u t H1 locs ht hvm hw hB hz1 hk1 hS => ?_)
    obtain ⟨s132, rfl⟩ : ∃ z, z = u := ⟨_, rfl⟩
    obtain ⟨hP1, hK1, hD1⟩ := hB
    rw [ht] at hP1
    try dsimp only at hw
    obtain ⟨hP, hD⟩ := va_join (wr := []) (w1 := [(Ad0, .inr (15, s132))]) hP hD [0] [] rfl rfl (by decide) (by decide) hk1 hFc hP1 hD1
    have hK := hK.sub (tys' := []) [] rfl
    generalize H1 = H at hP hS ⊢
    have hP : va_P (dC, dI) vwCl [(Ad0, .inr (15, s132))] H := hP
    have hD : va_D A [(Ad0, .inr (15, s132))] := hD
    have o_s132 := hw
    have o_s132 := ow_on o_s125 o_s132 (l' := [(82, .int 0), (81, .int 1), (84, .int 0), (83, .int 1), (95, .int 1), (84, .int 0), (83, .int 1), (80, .int 0), (79, .int 0), (80, .int 0), (79, .int 0), (91, .int 0), (80, .int 0), (85, .long 0), (79, .int 0), (78, .int 0), (3, .int 0), (78, .int 0), (94, .int 0), (93, .int 0), (92, .int 0), (91, .int 0), (3, .int 0), (110, .int 0), (0, .int 0), (3, .int 0)]) (w' := [82, 81, 95, 84, 83, 80, 85, 79, 78, 94, 93, 92, 91, 110, 0]) rfl rfl
    refine lv_aload_n hx hb dX12_ask_90 rfl (lv_at hl 3 rfl) ?_
    refine va_get (D := (dC, dI)) (ci := 15) (v := .int 1) (C := RX12) (T := TX12) (N := 150) hx hb hts (in_z_X12_ask_X12) hown hK hP 0 rfl rfl 81 (by decide) (hts (.fieldLink RX12 776 "HeapWorksModel" "fault" "I") (by decide +kernel)) (fun _ h9 => h9) (ow_at o_s132 1 rfl) dX12_ask_91 ?_
    refine lv_if_ne (tgt := 106) hx hb dX12_ask_94 (by decide) (fun c133 => ?_) (fun c133 => absurd c133 (by decide))
    refine lv_aload_n hx hb dX12_ask_106 rfl (lv_at hl 3 rfl) ?_
    refine lv_aload_n hx hb dX12_ask_107 rfl (lv_at hl 3 rfl) ?_
    refine va_get (D := (dC, dI)) (ci := 15) (v := .int 1) (C := RX12) (T := TX12) (N := 150) hx hb hts (in_z_X12_ask_X12) hown hK hP 0 rfl rfl 81 (by decide) (hts (.fieldLink RX12 776 "HeapWorksModel" "fault" "I") (by decide +kernel)) (fun _ h9 => h9) (ow_at o_s132 1 rfl) dX12_ask_108 ?_
    refine lv_if_le (tgt := 118) hx hb dX12_ask_111 (by decide) (fun c134 => absurd c134 (by decide)) (fun c134 => ?_)
    refine lv_iconst (v := 2) hx hb dX12_ask_114 (by decide) ?_
    refine lv_goto (tgt := 119) hx hb dX12_ask_115 (by decide) ?_
    refine va_put (D := (dC, dI)) (ci := 15) (v := .int 2) (ty := .int) (C := RX12) (T := TX12) (N := 150) hx hb hts (in_z_X12_ask_X12) tyX12 tyX12_ok nmX12 hown hK hP hD hS 0 rfl rfl 0 (by decide) (hts (.fieldLink RX12 388 "HeapWorksModel" "thrown" "I") (by decide +kernel)) (fun _ h9 => h9) rfl (by decide +kernel) rfl rfl (by rw [o_s132.2.1]; decide) dX12_ask_119 (fun H locs hP hD hS => ?_)
    have hP : va_P (dC, dI) vwCl [(Ad0, .inr (15, (s132.set 0 (.int 2))))] H := hP
    have hD : va_D A [(Ad0, .inr (15, (s132.set 0 (.int 2))))] := hD
    have o_s135 := ow_set o_s132 0 (.int 2) (by decide) (l' := [(0, .int 2), (82, .int 0), (81, .int 1), (84, .int 0), (83, .int 1), (95, .int 1), (84, .int 0), (83, .int 1), (80, .int 0), (79, .int 0), (80, .int 0), (79, .int 0), (91, .int 0), (80, .int 0), (85, .long 0), (79, .int 0), (78, .int 0), (3, .int 0), (78, .int 0), (94, .int 0), (93, .int 0), (92, .int 0), (91, .int 0), (3, .int 0), (110, .int 0), (3, .int 0)]) (w' := [0, 82, 81, 95, 84, 83, 80, 85, 79, 78, 94, 93, 92, 91, 110]) rfl rfl
    generalize (s132.set 0 (.int 2)) = s135 at hP hD o_s135
    refine lv_aload_n hx hb dX12_ask_122 rfl (lv_at hl 3 rfl) ?_
    refine va_get (D := (dC, dI)) (ci := 15) (v := .int 2) (C := RX12) (T := TX12) (N := 150) hx hb hts (in_z_X12_ask_X12) hown hK hP 0 rfl rfl 0 (by decide) (hts (.fieldLink RX12 388 "HeapWorksModel" "thrown" "I") (by decide +kernel)) (fun _ h9 => h9) (ow_at o_s135 0 rfl) dX12_ask_123 ?_
    refine lv_if_le (tgt := 134) hx hb dX12_ask_126 (by decide) (fun c136 => absurd c136 (by decide)) (fun c136 => ?_)
    refine lv_aload_n hx hb dX12_ask_129 rfl (lv_at hl 3 rfl) ?_
    refine lv_iconst (v := 0) hx hb dX12_ask_130 (by decide) ?_
    refine va_put (D := (dC, dI)) (ci := 15) (v := .int 0) (ty := .int) (C := RX12) (T := TX12) (N := 150) hx hb hts (in_z_X12_ask_X12) tyX12 tyX12_ok nmX12 hown hK hP hD hS 0 rfl rfl 110 (by decide) (hts (.fieldLink RX12 852 "HeapWorksModel" "answers" "I") (by decide +kernel)) (fun _ h9 => h9) rfl (by decide +kernel) rfl rfl (by rw [o_s135.2.1]; decide) dX12_ask_131 (fun H locs hP hD hS => ?_)
    have hP : va_P (dC, dI) vwCl [(Ad0, .inr (15, (s135.set 110 (.int 0))))] H := hP
    have hD : va_D A [(Ad0, .inr (15, (s135.set 110 (.int 0))))] := hD
    have o_s137 := ow_set o_s135 110 (.int 0) (by decide) (l' := [(110, .int 0), (0, .int 2), (82, .int 0), (81, .int 1), (84, .int 0), (83, .int 1), (95, .int 1), (84, .int 0), (83, .int 1), (80, .int 0), (79, .int 0), (80, .int 0), (79, .int 0), (91, .int 0), (80, .int 0), (85, .long 0), (79, .int 0), (78, .int 0), (3, .int 0), (78, .int 0), (94, .int 0), (93, .int 0), (92, .int 0), (91, .int 0), (3, .int 0), (3, .int 0)]) (w' := [110, 0, 82, 81, 95, 84, 83, 80, 85, 79, 78, 94, 93, 92, 91]) rfl rfl
    generalize (s135.set 110 (.int 0)) = s137 at hP hD o_s137
    refine lv_aload_n hx hb dX12_ask_134 rfl (lv_at hl 3 rfl) ?_
    refine va_get (D := (dC, dI)) (ci := 15) (v := .int 0) (C := RX12) (T := TX12) (N := 150) hx hb hts (in_z_X12_ask_X12) hown hK hP 0 rfl rfl 110 (by decide) (hts (.fieldLink RX12 852 "HeapWorksModel" "answers" "I") (by decide +kernel)) (fun _ h9 => h9) (ow_at o_s137 0 rfl) dX12_ask_135 ?_
    have hP9 := hP.sub (ws' := [(Ad0, .inr (15, s137))]) [0] rfl
    have hD9 := hD.sub (ws' := [(Ad0, .inr (15, s137))]) [0] (by decide) rfl
    have hK9 := hK.sub (tys' := []) [] rfl
    exact W.iret (v := 0) hx hb hr (fun t ht hW => ⟨⟨0, s137, rfl, (Or.inr (Or.inr (⟨c107, c108, rfl, o_s137⟩))), by rw [ht]; exact hP9, va_K.moved hW.alike hK9, hD9⟩, hS.F ht⟩) hS.2.2 dX12_ask_138

