def l_z_L_take : List Cond := [.methodLink RL 68 yX11_take, .instanceMethod yX11_take, .selects RX11 yX11_take yX11_take, .initialized RX11, .classLink RL 13 "java/lang/IndexOutOfBoundsException", .code yX11_take cX11_take 2 (some .int), .methodLink RX11 353 yX11_needPicture, .static yX11_needPicture, .fieldLink RX11 41 "HeapWorks" "pictures" "[LHeapWorks$Picture;", .fieldLink RX11 28 "HeapWorks" "heap" "LHeapWorks$Heap;", .methodLink RX11 342 yX5_takeFrom, .instanceMethod yX5_takeFrom, .selects RX5 yX5_takeFrom yX5_takeFrom, .initialized RX5, .fieldLink RX11 356 "HeapWorks$Picture" "things" "I", .code yX11_needPicture cX11_needPicture 1 none, .methodLink RX11 411 yX11_isPicture, .static yX11_isPicture, .classLink RX11 120 "java/lang/IndexOutOfBoundsException", .initialized "java/lang/IndexOutOfBoundsException", .code yX11_isPicture cX11_isPicture 1 (some .boolean), .code yX5_takeFrom cX5_takeFrom 4 none, .methodLink RX5 95 yX5_forget, .instanceMethod yX5_forget, .selects RX5 yX5_forget yX5_forget, .fieldLink RX5 98 "HeapWorks$Heap" "rootCount" "I", .fieldLink RX5 107 "HeapWorks$Heap" "types" "LHeapWorks$Types;", .methodLink RX5 111 yX10_ownFields, .instanceMethod yX10_ownFields, .selects RX10 yX10_ownFields yX10_ownFields, .initialized RX10, .fieldLink RX5 82 "HeapWorks$Picture" "things" "I", .code yX5_forget cX5_forget 2 none, .fieldLink RX5 86 "HeapWorks$Picture" "roots" "I", .fieldLink RX5 89 "HeapWorks$Picture" "lostCount" "I", .fieldLink RX5 78 "HeapWorks$Picture" "shape" "LHeapWorks$Shape;", .fieldLink RX5 92 "HeapWorks$Shape" "known" "I", .code yX10_ownFields cX10_ownFields 1 (some .int), .fieldLink RX10 65 "HeapWorks$Types" "count" "I"]
def w_z_L_take : List Cond := .codeWith yL_take cL_take 4 (some .int) [(0, 9, 12, 13)] :: (l_z_L_take ++ ((wsX110 ++ (wsX50 ++ (((vx_at0 RX11 122 "java/lang/IndexOutOfBoundsException" ["java/lang/RuntimeException", "java/lang/Exception"]).filter goodWord) ++ (wsX20 ++ (wsX80 ++ wsX100)))))))
theorem in_z_L_take_X11 : ∀ w ∈ wsX110, w ∈ w_z_L_take := fun w h => List.mem_cons_of_mem _ (List.mem_append_right _ (List.mem_append_left _ h))
theorem in_z_L_take_X5 : ∀ w ∈ wsX50, w ∈ w_z_L_take := fun w h => List.mem_cons_of_mem _ (List.mem_append_right _ (List.mem_append_right _ (List.mem_append_left _ h)))
theorem in_z_L_take_at0_X11_122 : ∀ w ∈ ((vx_at0 RX11 122 "java/lang/IndexOutOfBoundsException" ["java/lang/RuntimeException", "java/lang/Exception"]).filter goodWord), w ∈ w_z_L_take := fun w h => List.mem_cons_of_mem _ (List.mem_append_right _ (List.mem_append_right _ (List.mem_append_right _ (List.mem_append_left _ h))))
theorem in_z_L_take_X2 : ∀ w ∈ wsX20, w ∈ w_z_L_take := fun w h => List.mem_cons_of_mem _ (List.mem_append_right _ (List.mem_append_right _ (List.mem_append_right _ (List.mem_append_right _ (List.mem_append_left _ h)))))
theorem in_z_L_take_X8 : ∀ w ∈ wsX80, w ∈ w_z_L_take := fun w h => List.mem_cons_of_mem _ (List.mem_append_right _ (List.mem_append_right _ (List.mem_append_right _ (List.mem_append_right _ (List.mem_append_right _ (List.mem_append_left _ h))))))
theorem in_z_L_take_X10 : ∀ w ∈ wsX100, w ∈ w_z_L_take := fun w h => List.mem_cons_of_mem _ (List.mem_append_right _ (List.mem_append_right _ (List.mem_append_right _ (List.mem_append_right _ (List.mem_append_right _ (List.mem_append_right _ (h)))))))
theorem g_z_L_take_z_X11_take_68 : GoodIn w_z_L_take (wsV RL 68 RX11 yX11_take w_z_X11_take) := goodIn_app (goodIn_r (([.methodLink RL 68 yX11_take, .instanceMethod yX11_take, .selects RX11 yX11_take yX11_take, .initialized RX11] : List Cond)) [1, 2, 3, 4] rfl (by decide +kernel)) (goodIn_ca (goodIn_r (.code yX11_take cX11_take 2 (some .int) :: l_z_X11_take) [6, 7, 8, 4, 9, 10, 11, 12, 13, 14, 15, 16, 17, 18, 19, 20, 21, 22, 23, 24, 25, 26, 27, 28, 29, 30, 31, 32, 33, 34, 35, 36, 37, 38, 39] rfl (by decide +kernel)) (goodIn_app (goodIn_in (in_z_L_take_X11) gd_X11) (goodIn_app (goodIn_in (in_z_L_take_X5) gd_X5) (goodIn_app (goodIn_in (in_z_L_take_at0_X11_122) gd_at0_X11_122) (goodIn_app (goodIn_in (in_z_L_take_X2) gd_X2) (goodIn_app (goodIn_in (in_z_L_take_X8) gd_X8) (goodIn_in (in_z_L_take_X10) gd_X10)))))))
set_option maxHeartbeats 4000000 in
set_option maxRecDepth 100000 in
theorem z_L_take (l : Launch) (dC : Nat → ClassId) (dI : Nat → Nat → Nat) (sz : Nat) (Ad0 : Nat) (Fs0 : List Value) (Ad1 : Nat) (Fs1 : List Value) (Ad2 : Nat) (Fs2 : List Value) (Ad3 : Nat) (Fa0 : Nat → Option Nat) (Ka0 : ClassId) (Ad4 : Nat) (Fs3 : List Value) (Ad5 : Nat) (Fs4 : List Value) (Ad6 : Nat) (Fa1 : Nat → Int64) (Ka1 : ClassId) (Va0 : Int32) (k_Fs0 : fh Fs0 18 [(2, .ref Ad2), (4, .ref Ad3)]) (k_Fs1 : fh Fs1 18 [(0, .int 0)]) (k_Fs2 : fh Fs2 14 [(0, .ref Ad1), (11, .int 0)]) (k_Fs3 : fh Fs3 21 [(0, .int 0), (20, .ref Ad5)]) (k_Fs4 : fh Fs4 18 []) (hst : l.stackTraces = false) (hg0 : Fa0 Va0.toNatClampNeg = some Ad4) : vx_Met l yL_take w_z_L_take ({ frames := 9, cells := 1, slots := 6, locals := 181 }) (va_Pc [.ref Ad0, .int Va0, .ref Ad6] (fun U => U.heap.size = sz ∧ Zz (va_A [(Ad0, .inr (14, Fs0)), (Ad1, .inr (13, Fs1)), (Ad2, .inr (5, Fs2)), (Ad3, .inl (Ka0, 4, .inr (.inr (.inr (.inr Fa0))))), (Ad4, .inr (8, Fs3)), (Ad5, .inr (11, Fs4)), (Ad6, .inl (Ka1, 1, .inr (.inl Fa1)))] sz) U ∧ Yy U ∧ Wd dC dI [(Ka0, .object "HeapWorks$Picture"), (Ka1, .long)] (fun _ => True) [(Ad0, .inr (14, Fs0)), (Ad1, .inr (13, Fs1)), (Ad2, .inr (5, Fs2)), (Ad3, .inl (Ka0, 4, .inr (.inr (.inr (.inr Fa0))))), (Ad4, .inr (8, Fs3)), (Ad5, .inr (11, Fs4)), (Ad6, .inl (Ka1, 1, .inr (.inl Fa1)))] U)) (va_Qi (fun (r : Int32) (u : (Nat → Int64)) => (Va0 < 0 ∧ r = 1) ∨ (¬ Va0 < 0 ∧ 4 ≤ Va0 ∧ r = 1) ∨ (¬ Va0 < 0 ∧ ¬ 4 ≤ Va0 ∧ r = 0 ∧ (u) (0 : Int32).toNatClampNeg = 0)) (fun (u : (Nat → Int64)) t => Wd dC dI [(Ka1, .long)] (va_A [(Ad0, .inr (14, Fs0)), (Ad1, .inr (13, Fs1)), (Ad2, .inr (5, Fs2)), (Ad3, .inl (Ka0, 4, .inr (.inr (.inr (.inr Fa0))))), (Ad4, .inr (8, Fs3)), (Ad5, .inr (11, Fs4)), (Ad6, .inl (Ka1, 1, .inr (.inl Fa1)))] sz) [(Ad6, .inl (Ka1, 1, .inr (.inl ((u)))))] t) (va_A [(Ad0, .inr (14, Fs0)), (Ad1, .inr (13, Fs1)), (Ad2, .inr (5, Fs2)), (Ad3, .inl (Ka0, 4, .inr (.inr (.inr (.inr Fa0))))), (Ad4, .inr (8, Fs3)), (Ad5, .inr (11, Fs4)), (Ad6, .inl (Ka1, 1, .inr (.inl Fa1)))] sz)) (vx_X (fun _ : Unit => True) (fun E _ _ => False) (va_A [(Ad0, .inr (14, Fs0)), (Ad1, .inr (13, Fs1)), (Ad2, .inr (5, Fs2)), (Ad3, .inl (Ka0, 4, .inr (.inr (.inr (.inr Fa0))))), (Ad4, .inr (8, Fs3)), (Ad5, .inr (11, Fs4)), (Ad6, .inl (Ka1, 1, .inr (.inl Fa1)))] sz)) 1 6 (va_A [(Ad0, .inr (14, Fs0)), (Ad1, .inr (13, Fs1)), (Ad2, .inr (5, Fs2)), (Ad3, .inl (Ka0, 4, .inr (.inr (.inr (.inr Fa0))))), (Ad4, .inr (8, Fs3)), (Ad5, .inr (11, Fs4)), (Ad6, .inl (Ka1, 1, .inr (.inl Fa1)))] sz) := by
  refine vx_ofWH (cc := cL_take) (maxL := 4) (ret := (some .int)) (by decide) rfl ?_
  intro p e s m args below meth c s₁ B hml hv
  obtain ⟨rfl, hsz, hZ, hY, hP, hK, hD0⟩ := hv
  have hx := B.exec
  have hb := B.bytes
  have hr := B.returns
  have hts := atoms_spec (ws := w_z_L_take) B.pre
  have hown : s.vm.findClass RL = some m.cls := findClass_of_methodNamed B.named
  have hlocks := B.notSynchronized
  have htb := vx_table (x := yL_take) B (hts (.codeWith yL_take cL_take 4 (some .int) [(0, 9, 12, 13)]) (by decide +kernel))
  subst hsz
  have hD := hD0.self (sz := s.heap.size)
  generalize hAe : va_A [(Ad0, .inr (14, Fs0)), (Ad1, .inr (13, Fs1)), (Ad2, .inr (5, Fs2)), (Ad3, .inl (Ka0, 4, .inr (.inr (.inr (.inr Fa0))))), (Ad4, .inr (8, Fs3)), (Ad5, .inr (11, Fs4)), (Ad6, .inl (Ka1, 1, .inr (.inl Fa1)))] s.heap.size = A at hD hZ ⊢
  have hA : ∀ q : Nat, s.heap.size ≤ q → A q := fun q h => by rw [← hAe]; exact Or.inr h
  have hS : va_S A s.heap s.heap [] := va_S.rf
  have hl := lv_entry ([.ref Ad0, .int Va0, .ref Ad6]) (n := 4) (Nat.le_of_ble_eq_true rfl)
  rw [lg_entry_eq]
  generalize (lg_sl ([.ref Ad0, .int Va0, .ref Ad6]) ++ List.replicate (4 - (lg_sl ([.ref Ad0, .int Va0, .ref Ad6])).length) Slot.unset).toArray = ls at hl ⊢
  have hl : lv_has ls 4 [(0, .ref Ad0), (1, .int Va0), (2, .ref Ad6)] := hl
  have o_Fs0 := ow_0 k_Fs0
  have o_Fs1 := ow_0 k_Fs1
  have o_Fs2 := ow_0 k_Fs2
  have o_Fs3 := ow_0 k_Fs3
  have o_Fs4 := ow_0 k_Fs4
  refine lv_aload_n hx hb dL_take_0 rfl (lv_at hl 2 rfl) ?_
  refine lv_iconst (v := 0) hx hb dL_take_1 (by decide) ?_
  refine lv_aload_n hx hb dL_take_2 rfl (lv_at hl 0 rfl) ?_
  refine lv_iload_n hx hb dL_take_3 rfl (lv_at hl 1 rfl) ?_
  have hPc := hP.sub (ws' := [(Ad0, .inr (14, Fs0)), (Ad1, .inr (13, Fs1)), (Ad2, .inr (5, Fs2)), (Ad3, .inl (Ka0, 4, .inr (.inr (.inr (.inr Fa0))))), (Ad4, .inr (8, Fs3)), (Ad5, .inr (11, Fs4))]) [0, 1, 2, 3, 4, 5] rfl
  have hDc := hD.sub (ws' := [(Ad0, .inr (14, Fs0)), (Ad1, .inr (13, Fs1)), (Ad2, .inr (5, Fs2)), (Ad3, .inl (Ka0, 4, .inr (.inr (.inr (.inr Fa0))))), (Ad4, .inr (8, Fs3)), (Ad5, .inr (11, Fs4))]) [0, 1, 2, 3, 4, 5] (by decide) rfl
  have hKc := hK.sub (tys' := [(Ka0, .object "HeapWorks$Picture")]) [0] rfl
  have hFc := va_free (wc := [(Ad0, .inr (14, Fs0)), (Ad1, .inr (13, Fs1)), (Ad2, .inr (5, Fs2)), (Ad3, .inl (Ka0, 4, .inr (.inr (.inr (.inr Fa0))))), (Ad4, .inr (8, Fs3)), (Ad5, .inr (11, Fs4))]) hD hS hA [0, 1, 2, 3, 4, 5] rfl
  refine vx_calli (vx_runV (As := [.int Va0]) (rest := [.int 0, .ref Ad6]) ⟨hx, hb, hml, hown, hts⟩ (z_X11_take l dC dI s.heap.size Ad0 Fs0 Ad1 Fs1 Ad2 Fs2 Ad3 Fa0 Ka0 Ad4 Fs3 Ad5 Fs4 Va0 (fh_sub o_Fs0.2 [0, 1] rfl) (fh_sub o_Fs1.2 [0] rfl) (fh_sub o_Fs2.2 [0, 1] rfl) (fh_sub o_Fs3.2 [0, 1] rfl) (fh_sub o_Fs4.2 [] rfl) hst hg0) (cwV 1 hts g_z_L_take_z_X11_take_68 rfl rfl rfl (by decide +kernel) ⟨Nat.le_of_ble_eq_true rfl, Nat.le_of_ble_eq_true rfl⟩) ⟨fun a U g mk q => by obtain ⟨q0, q1, qZ, qP, qK, qD⟩ := q; exact ⟨q0, q1, Zz_call qZ, qP, va_K.moved (u := U) (U := U.calling g mk a) (Vm.Alike.refl U.vm) qK, qD⟩, va_recv hK hP (ci := 14) (q0 := 0) rfl rfl, fun U hU hW => ⟨rfl, by rw [hU], Zz_go hZ hS hFc hU hW, by rw [hU]; exact hPc, va_K.moved hW.alike hKc, hDc.weaken (fun _ _ _ _ => trivial)⟩⟩ rfl rfl hl.1 rfl (lv_room (Nat.le_of_ble_eq_true rfl)) dL_take_4 ⟨Nat.le_of_ble_eq_true rfl, Nat.le_of_ble_eq_true rfl⟩) hS (fun q _ h => hFc q h) hFc (fun q _ h => hFc q h) (fun E ce q9 u t H1 locs ht hvm hpx hBX hz1 hk1 hS hce hcv hcl => ?_) (fun r101 u t H1 locs ht hvm hw hB hz1 hk1 hS => ?_)
  · rcases hBX with ⟨rfl, c102⟩ | ⟨rfl, c103, c104⟩
    · skip
      obtain ⟨hP, hD⟩ := va_join (wr := [(Ad6, .inl (Ka1, 1, .inr (.inl Fa1)))]) (w1 := []) hP hD [0, 1, 2, 3, 4, 5] [6] rfl rfl (by decide) (by decide) hk1 hFc P0 D0
      have hK := hK.sub (tys' := [(Ka1, .long)]) [1] rfl
      generalize H1 = H at hP hS hce ⊢
      have hP : va_P (dC, dI) vwCl [(Ad6, .inl (Ka1, 1, .inr (.inl Fa1)))] H := hP
      have hD : va_D A [(Ad6, .inl (Ka1, 1, .inr (.inl Fa1)))] := hD
      refine vx_catch (own := RL) (name := "java/lang/IndexOutOfBoundsException") (E := "java/lang/IndexOutOfBoundsException") hown [] ⟨0, 9, 12, 13⟩ [] (htb.trans rfl) ((fun _ h => nomatch h)) (by decide) (by decide) (hts (.classLink RL 13 "java/lang/IndexOutOfBoundsException") (by decide +kernel)) (va_Nw.use rfl (hZ.2.2.1 "java/lang/IndexOutOfBoundsException" (by decide))) hce hcv hcl ?_
      refine W.eq (g2 := F0 m 12 ls [.ref q9]) rfl ?_
      refine W.widen (k := 1) (n := 6) (by omega) (by omega) ?_
      refine lv_astore_n (lv' := [(3, .ref q9), (0, .ref Ad0), (1, .int Va0), (2, .ref Ad6)]) hx hb dL_take_12 rfl hl (by decide) rfl (fun ls hl => ?_)
      refine lv_iconst (v := 1) hx hb dL_take_13 (by decide) ?_
      have hP9 := hP.sub (ws' := [(Ad6, .inl (Ka1, 1, .inr (.inl Fa1)))]) [0] rfl
      have hD9 := hD.sub (ws' := [(Ad6, .inl (Ka1, 1, .inr (.inl Fa1)))]) [0] (by decide) rfl
      have hK9 := hK.sub (tys' := [(Ka1, .long)]) [0] rfl
      refine vx_ret ?_
      refine W.widen (k := 1) (n := 6) (by decide) (by decide) ?_
      exact W.iret (v := 1) hx hb hr (fun t ht hW => ⟨⟨1, Fa1, rfl, (Or.inl ⟨c102, rfl⟩), by rw [ht]; exact hP9, va_K.moved hW.alike hK9, hD9⟩, hS.F ht⟩) hS.2.2 dL_take_14
    · skip
      obtain ⟨hP, hD⟩ := va_join (wr := [(Ad6, .inl (Ka1, 1, .inr (.inl Fa1)))]) (w1 := []) hP hD [0, 1, 2, 3, 4, 5] [6] rfl rfl (by decide) (by decide) hk1 hFc P0 D0
      have hK := hK.sub (tys' := [(Ka1, .long)]) [1] rfl
      generalize H1 = H at hP hS hce ⊢
      have hP : va_P (dC, dI) vwCl [(Ad6, .inl (Ka1, 1, .inr (.inl Fa1)))] H := hP
      have hD : va_D A [(Ad6, .inl (Ka1, 1, .inr (.inl Fa1)))] := hD
      refine vx_catch (own := RL) (name := "java/lang/IndexOutOfBoundsException") (E := "java/lang/IndexOutOfBoundsException") hown [] ⟨0, 9, 12, 13⟩ [] (htb.trans rfl) ((fun _ h => nomatch h)) (by decide) (by decide) (hts (.classLink RL 13 "java/lang/IndexOutOfBoundsException") (by decide +kernel)) (va_Nw.use rfl (hZ.2.2.1 "java/lang/IndexOutOfBoundsException" (by decide))) hce hcv hcl ?_
      refine W.eq (g2 := F0 m 12 ls [.ref q9]) rfl ?_
      refine W.widen (k := 1) (n := 6) (by omega) (by omega) ?_
      refine lv_astore_n (lv' := [(3, .ref q9), (0, .ref Ad0), (1, .int Va0), (2, .ref Ad6)]) hx hb dL_take_12 rfl hl (by decide) rfl (fun ls hl => ?_)
      refine lv_iconst (v := 1) hx hb dL_take_13 (by decide) ?_
      have hP9 := hP.sub (ws' := [(Ad6, .inl (Ka1, 1, .inr (.inl Fa1)))]) [0] rfl
      have hD9 := hD.sub (ws' := [(Ad6, .inl (Ka1, 1, .inr (.inl Fa1)))]) [0] (by decide) rfl
      have hK9 := hK.sub (tys' := [(Ka1, .long)]) [0] rfl
      refine vx_ret ?_
      refine W.widen (k := 1) (n := 6) (by decide) (by decide) ?_
      exact W.iret (v := 1) hx hb hr (fun t ht hW => ⟨⟨1, Fa1, rfl, (Or.inr (Or.inl ⟨c103, c104, rfl⟩)), by rw [ht]; exact hP9, va_K.moved hW.alike hK9, hD9⟩, hS.F ht⟩) hS.2.2 dL_take_14
  · skip
    obtain ⟨s105, s106⟩ := u
    obtain ⟨hP1, hK1, hD1⟩ := hB
    rw [ht] at hP1
    try dsimp only at hw
    obtain ⟨hP, hD⟩ := va_join (wr := [(Ad6, .inl (Ka1, 1, .inr (.inl Fa1)))]) (w1 := [(Ad0, .inr (14, Fs0)), (Ad1, .inr (13, Fs1)), (Ad2, .inr (5, Fs2)), (Ad3, .inl (Ka0, 4, .inr (.inr (.inr (.inr Fa0))))), (Ad4, .inr (8, s105)), (Ad5, .inr (11, s106))]) hP hD [0, 1, 2, 3, 4, 5] [6] rfl rfl (by decide) (by decide) hk1 hFc hP1 hD1
    have hK := hK.sub (tys' := [(Ka1, .long), (Ka0, .object "HeapWorks$Picture")]) [1, 0] rfl
    generalize H1 = H at hP hS ⊢
    refine W.widen (k := 1) (n := 6) (by omega) (by omega) ?_
    have hP : va_P (dC, dI) vwCl [(Ad6, .inl (Ka1, 1, .inr (.inl Fa1))), (Ad0, .inr (14, Fs0)), (Ad1, .inr (13, Fs1)), (Ad2, .inr (5, Fs2)), (Ad3, .inl (Ka0, 4, .inr (.inr (.inr (.inr Fa0))))), (Ad4, .inr (8, s105)), (Ad5, .inr (11, s106))] H := hP
    have hD : va_D A [(Ad6, .inl (Ka1, 1, .inr (.inl Fa1))), (Ad0, .inr (14, Fs0)), (Ad1, .inr (13, Fs1)), (Ad2, .inr (5, Fs2)), (Ad3, .inl (Ka0, 4, .inr (.inr (.inr (.inr Fa0))))), (Ad4, .inr (8, s105)), (Ad5, .inr (11, s106))] := hD
    obtain ⟨c107, c108, er109, o_s105, o_s106⟩ := hw
    subst er109
    have o_s105 := ow_on o_Fs3 o_s105 (l' := [(16, .int 0), (11, .int 0), (0, .int 0), (20, .ref Ad5), (20, .ref Ad5), (20, .ref Ad5), (20, .ref Ad5)]) (w' := [16, 11, 0]) rfl rfl
    have o_s106 := ow_on o_Fs4 o_s106 (l' := [(1, .int 0)]) (w' := [1]) rfl rfl
    refine lv_i2l hx hb dL_take_7 rfl ?_
    refine lv_topl (fun x110 ex110 => ?_)
    obtain rfl : x110 = 0 := ex110.trans (by decide)
    refine va_last hx hb hK hP hD hS 0 0 rfl rfl (show vp_in 0 1 from by unfold vp_in; decide) dL_take_8 (fun H locs hP hD hS => ?_)
    have hP : va_P (dC, dI) vwCl [(Ad6, .inl (Ka1, 1, .inr (.inl (vp_updL Fa1 (0 : Int32).toNatClampNeg 0)))), (Ad0, .inr (14, Fs0)), (Ad1, .inr (13, Fs1)), (Ad2, .inr (5, Fs2)), (Ad3, .inl (Ka0, 4, .inr (.inr (.inr (.inr Fa0))))), (Ad4, .inr (8, s105)), (Ad5, .inr (11, s106))] H := hP
    have hD : va_D A [(Ad6, .inl (Ka1, 1, .inr (.inl (vp_updL Fa1 (0 : Int32).toNatClampNeg 0)))), (Ad0, .inr (14, Fs0)), (Ad1, .inr (13, Fs1)), (Ad2, .inr (5, Fs2)), (Ad3, .inl (Ka0, 4, .inr (.inr (.inr (.inr Fa0))))), (Ad4, .inr (8, s105)), (Ad5, .inr (11, s106))] := hD
    have q112 : (vp_updL Fa1 (0 : Int32).toNatClampNeg 0) (0 : Int32).toNatClampNeg = 0 := pk_uLs
    generalize vp_updL Fa1 (0 : Int32).toNatClampNeg 0 = f111 at hP hD q112
    refine lv_goto (tgt := 15) hx hb dL_take_9 (by decide) ?_
    refine lv_iconst (v := 0) hx hb dL_take_15 (by decide) ?_
    have hP9 := hP.sub (ws' := [(Ad6, .inl (Ka1, 1, .inr (.inl f111)))]) [0] rfl
    have hD9 := hD.sub (ws' := [(Ad6, .inl (Ka1, 1, .inr (.inl f111)))]) [0] (by decide) rfl
    have hK9 := hK.sub (tys' := [(Ka1, .long)]) [0] rfl
    refine vx_ret ?_
    refine W.widen (k := 1) (n := 6) (by decide) (by decide) ?_
    exact W.iret (v := 0) hx hb hr (fun t ht hW => ⟨⟨0, f111, rfl, (Or.inr (Or.inr (⟨c107, c108, rfl, q112⟩))), by rw [ht]; exact hP9, va_K.moved hW.alike hK9, hD9⟩, hS.F ht⟩) hS.2.2 dL_take_16

def l_z_L_slot : List Cond := [.methodLink RL 71 yX11_slot, .instanceMethod yX11_slot, .selects RX11 yX11_slot yX11_slot, .initialized RX11, .classLink RL 30 "java/util/NoSuchElementException", .code yX11_slot cX11_slot 4 (some .long), .methodLink RX11 359 yX11_isThing, .instanceMethod yX11_isThing, .selects RX11 yX11_isThing yX11_isThing, .classLink RX11 221 "java/util/NoSuchElementException", .initialized "java/util/NoSuchElementException", .code yX11_isThing cX11_isThing 3 (some .boolean), .methodLink RX11 411 yX11_isPicture, .static yX11_isPicture, .fieldLink RX11 41 "HeapWorks" "pictures" "[LHeapWorks$Picture;", .fieldLink RX11 356 "HeapWorks$Picture" "things" "I", .code yX11_isPicture cX11_isPicture 1 (some .boolean)]
def w_z_L_slot : List Cond := .codeWith yL_slot cL_slot 6 (some .int) [(0, 11, 14, 30)] :: (l_z_L_slot ++ ((((vx_at0 RX11 223 "java/util/NoSuchElementException" ["java/lang/RuntimeException", "java/lang/Exception"]).filter goodWord) ++ (wsX110 ++ wsX50))))
theorem in_z_L_slot_at0_X11_223 : ∀ w ∈ ((vx_at0 RX11 223 "java/util/NoSuchElementException" ["java/lang/RuntimeException", "java/lang/Exception"]).filter goodWord), w ∈ w_z_L_slot := fun w h => List.mem_cons_of_mem _ (List.mem_append_right _ (List.mem_append_left _ h))
theorem in_z_L_slot_X11 : ∀ w ∈ wsX110, w ∈ w_z_L_slot := fun w h => List.mem_cons_of_mem _ (List.mem_append_right _ (List.mem_append_right _ (List.mem_append_left _ h)))
theorem in_z_L_slot_X5 : ∀ w ∈ wsX50, w ∈ w_z_L_slot := fun w h => List.mem_cons_of_mem _ (List.mem_append_right _ (List.mem_append_right _ (List.mem_append_right _ (h))))
theorem g_z_L_slot_z_X11_slot_71 : GoodIn w_z_L_slot (wsV RL 71 RX11 yX11_slot w_z_X11_slot) := goodIn_app (goodIn_r (([.methodLink RL 71 yX11_slot, .instanceMethod yX11_slot, .selects RX11 yX11_slot yX11_slot, .initialized RX11] : List Cond)) [1, 2, 3, 4] rfl (by decide +kernel)) (goodIn_ca (goodIn_r (.code yX11_slot cX11_slot 4 (some .long) :: l_z_X11_slot) [6, 7, 8, 9, 4, 10, 11, 12, 13, 14, 15, 16, 17] rfl (by decide +kernel)) (goodIn_app (goodIn_in (in_z_L_slot_at0_X11_223) gd_at0_X11_223) (goodIn_app (goodIn_in (in_z_L_slot_X11) gd_X11) (goodIn_in (in_z_L_slot_X5) gd_X5))))
set_option maxHeartbeats 4000000 in
set_option maxRecDepth 100000 in
theorem z_L_slot (l : Launch) (dC : Nat → ClassId) (dI : Nat → Nat → Nat) (sz : Nat) (Ad0 : Nat) (Fs0 : List Value) (Ad1 : Nat) (Fa0 : Nat → Option Nat) (Ka0 : ClassId) (Ad2 : Nat) (Fs1 : List Value) (Va0 : Int32) (Va1 : Int32) (Va2 : Int32) (Br0 : Nat) (k_Fs0 : fh Fs0 18 [(4, .ref Ad1)]) (k_Fs1 : fh Fs1 21 [(0, .int 0)]) (hst : l.stackTraces = false) (hg0 : Fa0 Va0.toNatClampNeg = some Ad2) : vx_Met l yL_slot w_z_L_slot ({ frames := 8, cells := 1, slots := 6, locals := 163 }) (va_Pc [.ref Ad0, .int Va0, .int Va1, .int Va2, .ref Br0] (fun U => U.heap.size = sz ∧ Zz (va_A [(Ad0, .inr (14, Fs0)), (Ad1, .inl (Ka0, 4, .inr (.inr (.inr (.inr Fa0))))), (Ad2, .inr (8, Fs1))] sz) U ∧ Yy U ∧ Wd dC dI [(Ka0, .object "HeapWorks$Picture")] (fun _ => True) [(Ad0, .inr (14, Fs0)), (Ad1, .inl (Ka0, 4, .inr (.inr (.inr (.inr Fa0))))), (Ad2, .inr (8, Fs1))] U)) (va_Qi (fun (r : Int32) (u : Unit) => (Va0 < 0 ∧ r = 1) ∨ (¬ Va0 < 0 ∧ 4 ≤ Va0 ∧ r = 1) ∨ (¬ Va0 < 0 ∧ ¬ 4 ≤ Va0 ∧ Va1 < 0 ∧ r = 1) ∨ (¬ Va0 < 0 ∧ ¬ 4 ≤ Va0 ∧ ¬ Va1 < 0 ∧ 0 ≤ Va1 ∧ r = 1)) (fun (u : Unit) t => Wd dC dI [] (va_A [(Ad0, .inr (14, Fs0)), (Ad1, .inl (Ka0, 4, .inr (.inr (.inr (.inr Fa0))))), (Ad2, .inr (8, Fs1))] sz) [] t) (va_A [(Ad0, .inr (14, Fs0)), (Ad1, .inl (Ka0, 4, .inr (.inr (.inr (.inr Fa0))))), (Ad2, .inr (8, Fs1))] sz)) (vx_X (fun _ : Unit => True) (fun E _ _ => False) (va_A [(Ad0, .inr (14, Fs0)), (Ad1, .inl (Ka0, 4, .inr (.inr (.inr (.inr Fa0))))), (Ad2, .inr (8, Fs1))] sz)) 1 6 (va_A [(Ad0, .inr (14, Fs0)), (Ad1, .inl (Ka0, 4, .inr (.inr (.inr (.inr Fa0))))), (Ad2, .inr (8, Fs1))] sz) := by
  refine vx_ofWH (cc := cL_slot) (maxL := 6) (ret := (some .int)) (by decide) rfl ?_
  intro p e s m args below meth c s₁ B hml hv
  obtain ⟨rfl, hsz, hZ, hY, hP, hK, hD0⟩ := hv
  have hx := B.exec
  have hb := B.bytes
  have hr := B.returns
  have hts := atoms_spec (ws := w_z_L_slot) B.pre
  have hown : s.vm.findClass RL = some m.cls := findClass_of_methodNamed B.named
  have hlocks := B.notSynchronized
  have htb := vx_table (x := yL_slot) B (hts (.codeWith yL_slot cL_slot 6 (some .int) [(0, 11, 14, 30)]) (by decide +kernel))
  subst hsz
  have hD := hD0.self (sz := s.heap.size)
  generalize hAe : va_A [(Ad0, .inr (14, Fs0)), (Ad1, .inl (Ka0, 4, .inr (.inr (.inr (.inr Fa0))))), (Ad2, .inr (8, Fs1))] s.heap.size = A at hD hZ ⊢
  have hA : ∀ q : Nat, s.heap.size ≤ q → A q := fun q h => by rw [← hAe]; exact Or.inr h
  have hS : va_S A s.heap s.heap [] := va_S.rf
  have hl := lv_entry ([.ref Ad0, .int Va0, .int Va1, .int Va2, .ref Br0]) (n := 6) (Nat.le_of_ble_eq_true rfl)
  rw [lg_entry_eq]
  generalize (lg_sl ([.ref Ad0, .int Va0, .int Va1, .int Va2, .ref Br0]) ++ List.replicate (6 - (lg_sl ([.ref Ad0, .int Va0, .int Va1, .int Va2, .ref Br0])).length) Slot.unset).toArray = ls at hl ⊢
  have hl : lv_has ls 6 [(0, .ref Ad0), (1, .int Va0), (2, .int Va1), (3, .int Va2), (4, .ref Br0)] := hl
  have o_Fs0 := ow_0 k_Fs0
  have o_Fs1 := ow_0 k_Fs1
  refine lv_aload hx hb dL_slot_0 (lv_at hl 4 rfl) ?_
  refine lv_iconst (v := 0) hx hb dL_slot_2 (by decide) ?_
  refine lv_aload_n hx hb dL_slot_3 rfl (lv_at hl 0 rfl) ?_
  refine lv_iload_n hx hb dL_slot_4 rfl (lv_at hl 1 rfl) ?_
  refine lv_iload_n hx hb dL_slot_5 rfl (lv_at hl 2 rfl) ?_
  refine lv_iload_n hx hb dL_slot_6 rfl (lv_at hl 3 rfl) ?_
  have hPc := hP.sub (ws' := [(Ad0, .inr (14, Fs0)), (Ad1, .inl (Ka0, 4, .inr (.inr (.inr (.inr Fa0))))), (Ad2, .inr (8, Fs1))]) [0, 1, 2] rfl
  have hDc := hD.sub (ws' := [(Ad0, .inr (14, Fs0)), (Ad1, .inl (Ka0, 4, .inr (.inr (.inr (.inr Fa0))))), (Ad2, .inr (8, Fs1))]) [0, 1, 2] (by decide) rfl
  have hKc := hK.sub (tys' := [(Ka0, .object "HeapWorks$Picture")]) [0] rfl
  have hFc := va_free (wc := [(Ad0, .inr (14, Fs0)), (Ad1, .inl (Ka0, 4, .inr (.inr (.inr (.inr Fa0))))), (Ad2, .inr (8, Fs1))]) hD hS hA [0, 1, 2] rfl
  refine vx_calll (vx_runV (As := [.int Va0, .int Va1, .int Va2]) (rest := [.int 0, .ref Br0]) ⟨hx, hb, hml, hown, hts⟩ (z_X11_slot l dC dI s.heap.size Ad0 Fs0 Ad1 Fa0 Ka0 Ad2 Fs1 Va0 Va1 Va2 (fh_sub o_Fs0.2 [0] rfl) (fh_sub o_Fs1.2 [0] rfl) hst hg0) (cwV 3 hts g_z_L_slot_z_X11_slot_71 rfl rfl rfl (by decide +kernel) ⟨Nat.le_of_ble_eq_true rfl, Nat.le_of_ble_eq_true rfl⟩) ⟨fun a U g mk q => by obtain ⟨q0, q1, qZ, qP, qK, qD⟩ := q; exact ⟨q0, q1, Zz_call qZ, qP, va_K.moved (u := U) (U := U.calling g mk a) (Vm.Alike.refl U.vm) qK, qD⟩, va_recv hK hP (ci := 14) (q0 := 0) rfl rfl, fun U hU hW => ⟨rfl, by rw [hU], Zz_go hZ hS hFc hU hW, by rw [hU]; exact hPc, va_K.moved hW.alike hKc, hDc.weaken (fun _ _ _ _ => trivial)⟩⟩ rfl rfl hl.1 rfl (lv_room (Nat.le_of_ble_eq_true rfl)) dL_slot_7 ⟨Nat.le_of_ble_eq_true rfl, Nat.le_of_ble_eq_true rfl⟩) hS (fun q _ h => hFc q h) hFc (fun q _ h => hFc q h) (fun E ce q9 u t H1 locs ht hvm hpx hBX hz1 hk1 hS hce hcv hcl => ?_) (fun r101 u t H1 locs ht hvm hw hB hz1 hk1 hS => ?_)
  · rcases hBX with ⟨rfl, c102⟩ | ⟨rfl, c103, c104⟩ | ⟨rfl, c105, c106, c107⟩ | ⟨rfl, c108, c109, c110, c111⟩
    · skip
      obtain ⟨hP, hD⟩ := va_join (wr := []) (w1 := []) hP hD [0, 1, 2] [] rfl rfl (by decide) (by decide) hk1 hFc P0 D0
      have hK := hK.sub (tys' := []) [] rfl
      generalize H1 = H at hP hS hce ⊢
      have hP : va_P (dC, dI) vwCl [] H := hP
      have hD : va_D A [] := hD
      refine vx_catch (own := RL) (name := "java/util/NoSuchElementException") (E := "java/util/NoSuchElementException") hown [] ⟨0, 11, 14, 30⟩ [] (htb.trans rfl) ((fun _ h => nomatch h)) (by decide) (by decide) (hts (.classLink RL 30 "java/util/NoSuchElementException") (by decide +kernel)) (va_Nw.use rfl (hZ.2.2.1 "java/util/NoSuchElementException" (by decide))) hce hcv hcl ?_
      refine W.eq (g2 := F0 m 14 ls [.ref q9]) rfl ?_
      refine W.widen (k := 1) (n := 6) (by omega) (by omega) ?_
      refine lv_astore (lv' := [(5, .ref q9), (0, .ref Ad0), (1, .int Va0), (2, .int Va1), (3, .int Va2), (4, .ref Br0)]) hx hb dL_slot_14 hl (by decide) rfl (fun ls hl => ?_)
      refine lv_iconst (v := 1) hx hb dL_slot_16 (by decide) ?_
      have hP9 := hP.sub (ws' := []) [] rfl
      have hD9 := hD.sub (ws' := []) [] (by decide) rfl
      have hK9 := hK.sub (tys' := []) [] rfl
      refine vx_ret ?_
      refine W.widen (k := 1) (n := 6) (by decide) (by decide) ?_
      exact W.iret (v := 1) hx hb hr (fun t ht hW => ⟨⟨1, (), rfl, (Or.inl ⟨c102, rfl⟩), by rw [ht]; exact hP9, va_K.moved hW.alike hK9, hD9⟩, hS.F ht⟩) hS.2.2 dL_slot_17
    · skip
      obtain ⟨hP, hD⟩ := va_join (wr := []) (w1 := []) hP hD [0, 1, 2] [] rfl rfl (by decide) (by decide) hk1 hFc P0 D0
      have hK := hK.sub (tys' := []) [] rfl
      generalize H1 = H at hP hS hce ⊢
      have hP : va_P (dC, dI) vwCl [] H := hP
      have hD : va_D A [] := hD
      refine vx_catch (own := RL) (name := "java/util/NoSuchElementException") (E := "java/util/NoSuchElementException") hown [] ⟨0, 11, 14, 30⟩ [] (htb.trans rfl) ((fun _ h => nomatch h)) (by decide) (by decide) (hts (.classLink RL 30 "java/util/NoSuchElementException") (by decide +kernel)) (va_Nw.use rfl (hZ.2.2.1 "java/util/NoSuchElementException" (by decide))) hce hcv hcl ?_
      refine W.eq (g2 := F0 m 14 ls [.ref q9]) rfl ?_
      refine W.widen (k := 1) (n := 6) (by omega) (by omega) ?_
      refine lv_astore (lv' := [(5, .ref q9), (0, .ref Ad0), (1, .int Va0), (2, .int Va1), (3, .int Va2), (4, .ref Br0)]) hx hb dL_slot_14 hl (by decide) rfl (fun ls hl => ?_)
      refine lv_iconst (v := 1) hx hb dL_slot_16 (by decide) ?_
      have hP9 := hP.sub (ws' := []) [] rfl
      have hD9 := hD.sub (ws' := []) [] (by decide) rfl
      have hK9 := hK.sub (tys' := []) [] rfl
      refine vx_ret ?_
      refine W.widen (k := 1) (n := 6) (by decide) (by decide) ?_
      exact W.iret (v := 1) hx hb hr (fun t ht hW => ⟨⟨1, (), rfl, (Or.inr (Or.inl ⟨c103, c104, rfl⟩)), by rw [ht]; exact hP9, va_K.moved hW.alike hK9, hD9⟩, hS.F ht⟩) hS.2.2 dL_slot_17
    · skip
      obtain ⟨hP, hD⟩ := va_join (wr := []) (w1 := []) hP hD [0, 1, 2] [] rfl rfl (by decide) (by decide) hk1 hFc P0 D0
      have hK := hK.sub (tys' := []) [] rfl
      generalize H1 = H at hP hS hce ⊢
      have hP : va_P (dC, dI) vwCl [] H := hP
      have hD : va_D A [] := hD
      refine vx_catch (own := RL) (name := "java/util/NoSuchElementException") (E := "java/util/NoSuchElementException") hown [] ⟨0, 11, 14, 30⟩ [] (htb.trans rfl) ((fun _ h => nomatch h)) (by decide) (by decide) (hts (.classLink RL 30 "java/util/NoSuchElementException") (by decide +kernel)) (va_Nw.use rfl (hZ.2.2.1 "java/util/NoSuchElementException" (by decide))) hce hcv hcl ?_
      refine W.eq (g2 := F0 m 14 ls [.ref q9]) rfl ?_
      refine W.widen (k := 1) (n := 6) (by omega) (by omega) ?_
      refine lv_astore (lv' := [(5, .ref q9), (0, .ref Ad0), (1, .int Va0), (2, .int Va1), (3, .int Va2), (4, .ref Br0)]) hx hb dL_slot_14 hl (by decide) rfl (fun ls hl => ?_)
      refine lv_iconst (v := 1) hx hb dL_slot_16 (by decide) ?_
      have hP9 := hP.sub (ws' := []) [] rfl
      have hD9 := hD.sub (ws' := []) [] (by decide) rfl
      have hK9 := hK.sub (tys' := []) [] rfl
      refine vx_ret ?_
      refine W.widen (k := 1) (n := 6) (by decide) (by decide) ?_
      exact W.iret (v := 1) hx hb hr (fun t ht hW => ⟨⟨1, (), rfl, (Or.inr (Or.inr (Or.inl ⟨c105, c106, c107, rfl⟩))), by rw [ht]; exact hP9, va_K.moved hW.alike hK9, hD9⟩, hS.F ht⟩) hS.2.2 dL_slot_17
    · skip
      obtain ⟨hP, hD⟩ := va_join (wr := []) (w1 := []) hP hD [0, 1, 2] [] rfl rfl (by decide) (by decide) hk1 hFc P0 D0
      have hK := hK.sub (tys' := []) [] rfl
      generalize H1 = H at hP hS hce ⊢
      have hP : va_P (dC, dI) vwCl [] H := hP
      have hD : va_D A [] := hD
      refine vx_catch (own := RL) (name := "java/util/NoSuchElementException") (E := "java/util/NoSuchElementException") hown [] ⟨0, 11, 14, 30⟩ [] (htb.trans rfl) ((fun _ h => nomatch h)) (by decide) (by decide) (hts (.classLink RL 30 "java/util/NoSuchElementException") (by decide +kernel)) (va_Nw.use rfl (hZ.2.2.1 "java/util/NoSuchElementException" (by decide))) hce hcv hcl ?_
      refine W.eq (g2 := F0 m 14 ls [.ref q9]) rfl ?_
      refine W.widen (k := 1) (n := 6) (by omega) (by omega) ?_
      refine lv_astore (lv' := [(5, .ref q9), (0, .ref Ad0), (1, .int Va0), (2, .int Va1), (3, .int Va2), (4, .ref Br0)]) hx hb dL_slot_14 hl (by decide) rfl (fun ls hl => ?_)
      refine lv_iconst (v := 1) hx hb dL_slot_16 (by decide) ?_
      have hP9 := hP.sub (ws' := []) [] rfl
      have hD9 := hD.sub (ws' := []) [] (by decide) rfl
      have hK9 := hK.sub (tys' := []) [] rfl
      refine vx_ret ?_
      refine W.widen (k := 1) (n := 6) (by decide) (by decide) ?_
      exact W.iret (v := 1) hx hb hr (fun t ht hW => ⟨⟨1, (), rfl, (Or.inr (Or.inr (Or.inr (⟨c108, c109, c110, c111, rfl⟩)))), by rw [ht]; exact hP9, va_K.moved hW.alike hK9, hD9⟩, hS.F ht⟩) hS.2.2 dL_slot_17
  · exact hw.elim

def l_z_L_holder : List Cond := [.methodLink RL 74 yX11_holder, .instanceMethod yX11_holder, .selects RX11 yX11_holder yX11_holder, .initialized RX11, .classLink RL 30 "java/util/NoSuchElementException", .code yX11_holder cX11_holder 7 (some .int), .methodLink RX11 359 yX11_isThing, .instanceMethod yX11_isThing, .selects RX11 yX11_isThing yX11_isThing, .classLink RX11 221 "java/util/NoSuchElementException", .initialized "java/util/NoSuchElementException", .code yX11_isThing cX11_isThing 3 (some .boolean), .methodLink RX11 411 yX11_isPicture, .static yX11_isPicture, .fieldLink RX11 41 "HeapWorks" "pictures" "[LHeapWorks$Picture;", .fieldLink RX11 356 "HeapWorks$Picture" "things" "I", .code yX11_isPicture cX11_isPicture 1 (some .boolean)]
def w_z_L_holder : List Cond := .codeWith yL_holder cL_holder 7 (some .int) [(0, 14, 17, 30)] :: (l_z_L_holder ++ ((((vx_at0 RX11 223 "java/util/NoSuchElementException" ["java/lang/RuntimeException", "java/lang/Exception"]).filter goodWord) ++ (wsX110 ++ wsX50))))
theorem in_z_L_holder_at0_X11_223 : ∀ w ∈ ((vx_at0 RX11 223 "java/util/NoSuchElementException" ["java/lang/RuntimeException", "java/lang/Exception"]).filter goodWord), w ∈ w_z_L_holder := fun w h => List.mem_cons_of_mem _ (List.mem_append_right _ (List.mem_append_left _ h))
theorem in_z_L_holder_X11 : ∀ w ∈ wsX110, w ∈ w_z_L_holder := fun w h => List.mem_cons_of_mem _ (List.mem_append_right _ (List.mem_append_right _ (List.mem_append_left _ h)))
theorem in_z_L_holder_X5 : ∀ w ∈ wsX50, w ∈ w_z_L_holder := fun w h => List.mem_cons_of_mem _ (List.mem_append_right _ (List.mem_append_right _ (List.mem_append_right _ (h))))
theorem g_z_L_holder_z_X11_holder_74 : GoodIn w_z_L_holder (wsV RL 74 RX11 yX11_holder w_z_X11_holder) := goodIn_app (goodIn_r (([.methodLink RL 74 yX11_holder, .instanceMethod yX11_holder, .selects RX11 yX11_holder yX11_holder, .initialized RX11] : List Cond)) [1, 2, 3, 4] rfl (by decide +kernel)) (goodIn_ca (goodIn_r (.code yX11_holder cX11_holder 7 (some .int) :: l_z_X11_holder) [6, 7, 8, 9, 4, 10, 11, 12, 13, 14, 15, 16, 17] rfl (by decide +kernel)) (goodIn_app (goodIn_in (in_z_L_holder_at0_X11_223) gd_at0_X11_223) (goodIn_app (goodIn_in (in_z_L_holder_X11) gd_X11) (goodIn_in (in_z_L_holder_X5) gd_X5))))
set_option maxHeartbeats 4000000 in
set_option maxRecDepth 100000 in
theorem z_L_holder (l : Launch) (dC : Nat → ClassId) (dI : Nat → Nat → Nat) (sz : Nat) (Ad0 : Nat) (Fs0 : List Value) (Ad1 : Nat) (Fa0 : Nat → Option Nat) (Ka0 : ClassId) (Ad2 : Nat) (Fs1 : List Value) (Va0 : Int32) (Va1 : Int32) (Va2 : Int32) (Va3 : Int32) (Br0 : Nat) (k_Fs0 : fh Fs0 18 [(4, .ref Ad1)]) (k_Fs1 : fh Fs1 21 [(0, .int 0)]) (hst : l.stackTraces = false) (hg0 : Fa0 Va0.toNatClampNeg = some Ad2) : vx_Met l yL_holder w_z_L_holder ({ frames := 8, cells := 1, slots := 6, locals := 166 }) (va_Pc [.ref Ad0, .int Va0, .int Va1, .int Va2, .int Va3, .ref Br0] (fun U => U.heap.size = sz ∧ Zz (va_A [(Ad0, .inr (14, Fs0)), (Ad1, .inl (Ka0, 4, .inr (.inr (.inr (.inr Fa0))))), (Ad2, .inr (8, Fs1))] sz) U ∧ Yy U ∧ Wd dC dI [(Ka0, .object "HeapWorks$Picture")] (fun _ => True) [(Ad0, .inr (14, Fs0)), (Ad1, .inl (Ka0, 4, .inr (.inr (.inr (.inr Fa0))))), (Ad2, .inr (8, Fs1))] U)) (va_Qi (fun (r : Int32) (u : Unit) => (Va0 < 0 ∧ r = 1) ∨ (¬ Va0 < 0 ∧ 4 ≤ Va0 ∧ r = 1) ∨ (¬ Va0 < 0 ∧ ¬ 4 ≤ Va0 ∧ Va1 < 0 ∧ r = 1) ∨ (¬ Va0 < 0 ∧ ¬ 4 ≤ Va0 ∧ ¬ Va1 < 0 ∧ 0 ≤ Va1 ∧ r = 1)) (fun (u : Unit) t => Wd dC dI [] (va_A [(Ad0, .inr (14, Fs0)), (Ad1, .inl (Ka0, 4, .inr (.inr (.inr (.inr Fa0))))), (Ad2, .inr (8, Fs1))] sz) [] t) (va_A [(Ad0, .inr (14, Fs0)), (Ad1, .inl (Ka0, 4, .inr (.inr (.inr (.inr Fa0))))), (Ad2, .inr (8, Fs1))] sz)) (vx_X (fun _ : Unit => True) (fun E _ _ => False) (va_A [(Ad0, .inr (14, Fs0)), (Ad1, .inl (Ka0, 4, .inr (.inr (.inr (.inr Fa0))))), (Ad2, .inr (8, Fs1))] sz)) 1 6 (va_A [(Ad0, .inr (14, Fs0)), (Ad1, .inl (Ka0, 4, .inr (.inr (.inr (.inr Fa0))))), (Ad2, .inr (8, Fs1))] sz) := by
  refine vx_ofWH (cc := cL_holder) (maxL := 7) (ret := (some .int)) (by decide) rfl ?_
  intro p e s m args below meth c s₁ B hml hv
  obtain ⟨rfl, hsz, hZ, hY, hP, hK, hD0⟩ := hv
  have hx := B.exec
  have hb := B.bytes
  have hr := B.returns
  have hts := atoms_spec (ws := w_z_L_holder) B.pre
  have hown : s.vm.findClass RL = some m.cls := findClass_of_methodNamed B.named
  have hlocks := B.notSynchronized
  have htb := vx_table (x := yL_holder) B (hts (.codeWith yL_holder cL_holder 7 (some .int) [(0, 14, 17, 30)]) (by decide +kernel))
  subst hsz
  have hD := hD0.self (sz := s.heap.size)
  generalize hAe : va_A [(Ad0, .inr (14, Fs0)), (Ad1, .inl (Ka0, 4, .inr (.inr (.inr (.inr Fa0))))), (Ad2, .inr (8, Fs1))] s.heap.size = A at hD hZ ⊢
  have hA : ∀ q : Nat, s.heap.size ≤ q → A q := fun q h => by rw [← hAe]; exact Or.inr h
  have hS : va_S A s.heap s.heap [] := va_S.rf
  have hl := lv_entry ([.ref Ad0, .int Va0, .int Va1, .int Va2, .int Va3, .ref Br0]) (n := 7) (Nat.le_of_ble_eq_true rfl)
  rw [lg_entry_eq]
  generalize (lg_sl ([.ref Ad0, .int Va0, .int Va1, .int Va2, .int Va3, .ref Br0]) ++ List.replicate (7 - (lg_sl ([.ref Ad0, .int Va0, .int Va1, .int Va2, .int Va3, .ref Br0])).length) Slot.unset).toArray = ls at hl ⊢
  have hl : lv_has ls 7 [(0, .ref Ad0), (1, .int Va0), (2, .int Va1), (3, .int Va2), (4, .int Va3), (5, .ref Br0)] := hl
  have o_Fs0 := ow_0 k_Fs0
  have o_Fs1 := ow_0 k_Fs1
  refine lv_aload hx hb dL_holder_0 (lv_at hl 5 rfl) ?_
  refine lv_iconst (v := 0) hx hb dL_holder_2 (by decide) ?_
  refine lv_aload_n hx hb dL_holder_3 rfl (lv_at hl 0 rfl) ?_
  refine lv_iload_n hx hb dL_holder_4 rfl (lv_at hl 1 rfl) ?_
  refine lv_iload_n hx hb dL_holder_5 rfl (lv_at hl 2 rfl) ?_
  refine lv_iload_n hx hb dL_holder_6 rfl (lv_at hl 3 rfl) ?_
  refine lv_iload hx hb dL_holder_7 (lv_at hl 4 rfl) ?_
  have hPc := hP.sub (ws' := [(Ad0, .inr (14, Fs0)), (Ad1, .inl (Ka0, 4, .inr (.inr (.inr (.inr Fa0))))), (Ad2, .inr (8, Fs1))]) [0, 1, 2] rfl
  have hDc := hD.sub (ws' := [(Ad0, .inr (14, Fs0)), (Ad1, .inl (Ka0, 4, .inr (.inr (.inr (.inr Fa0))))), (Ad2, .inr (8, Fs1))]) [0, 1, 2] (by decide) rfl
  have hKc := hK.sub (tys' := [(Ka0, .object "HeapWorks$Picture")]) [0] rfl
  have hFc := va_free (wc := [(Ad0, .inr (14, Fs0)), (Ad1, .inl (Ka0, 4, .inr (.inr (.inr (.inr Fa0))))), (Ad2, .inr (8, Fs1))]) hD hS hA [0, 1, 2] rfl
  refine vx_calli (vx_runV (As := [.int Va0, .int Va1, .int Va2, .int Va3]) (rest := [.int 0, .ref Br0]) ⟨hx, hb, hml, hown, hts⟩ (z_X11_holder l dC dI s.heap.size Ad0 Fs0 Ad1 Fa0 Ka0 Ad2 Fs1 Va0 Va1 Va2 Va3 (fh_sub o_Fs0.2 [0] rfl) (fh_sub o_Fs1.2 [0] rfl) hst hg0) (cwV 4 hts g_z_L_holder_z_X11_holder_74 rfl rfl rfl (by decide +kernel) ⟨Nat.le_of_ble_eq_true rfl, Nat.le_of_ble_eq_true rfl⟩) ⟨fun a U g mk q => by obtain ⟨q0, q1, qZ, qP, qK, qD⟩ := q; exact ⟨q0, q1, Zz_call qZ, qP, va_K.moved (u := U) (U := U.calling g mk a) (Vm.Alike.refl U.vm) qK, qD⟩, va_recv hK hP (ci := 14) (q0 := 0) rfl rfl, fun U hU hW => ⟨rfl, by rw [hU], Zz_go hZ hS hFc hU hW, by rw [hU]; exact hPc, va_K.moved hW.alike hKc, hDc.weaken (fun _ _ _ _ => trivial)⟩⟩ rfl rfl hl.1 rfl (lv_room (Nat.le_of_ble_eq_true rfl)) dL_holder_9 ⟨Nat.le_of_ble_eq_true rfl, Nat.le_of_ble_eq_true rfl⟩) hS (fun q _ h => hFc q h) hFc (fun q _ h => hFc q h) (fun E ce q9 u t H1 locs ht hvm hpx hBX hz1 hk1 hS hce hcv hcl => ?_) (fun r101 u t H1 locs ht hvm hw hB hz1 hk1 hS => ?_)
  · rcases hBX with ⟨rfl, c102⟩ | ⟨rfl, c103, c104⟩ | ⟨rfl, c105, c106, c107⟩ | ⟨rfl, c108, c109, c110, c111⟩
    · skip
      obtain ⟨hP, hD⟩ := va_join (wr := []) (w1 := []) hP hD [0, 1, 2] [] rfl rfl (by decide) (by decide) hk1 hFc P0 D0
      have hK := hK.sub (tys' := []) [] rfl
      generalize H1 = H at hP hS hce ⊢
      have hP : va_P (dC, dI) vwCl [] H := hP
      have hD : va_D A [] := hD
      refine vx_catch (own := RL) (name := "java/util/NoSuchElementException") (E := "java/util/NoSuchElementException") hown [] ⟨0, 14, 17, 30⟩ [] (htb.trans rfl) ((fun _ h => nomatch h)) (by decide) (by decide) (hts (.classLink RL 30 "java/util/NoSuchElementException") (by decide +kernel)) (va_Nw.use rfl (hZ.2.2.1 "java/util/NoSuchElementException" (by decide))) hce hcv hcl ?_
      refine W.eq (g2 := F0 m 17 ls [.ref q9]) rfl ?_
      refine W.widen (k := 1) (n := 6) (by omega) (by omega) ?_
      refine lv_astore (lv' := [(6, .ref q9), (0, .ref Ad0), (1, .int Va0), (2, .int Va1), (3, .int Va2), (4, .int Va3), (5, .ref Br0)]) hx hb dL_holder_17 hl (by decide) rfl (fun ls hl => ?_)
      refine lv_iconst (v := 1) hx hb dL_holder_19 (by decide) ?_
      have hP9 := hP.sub (ws' := []) [] rfl
      have hD9 := hD.sub (ws' := []) [] (by decide) rfl
      have hK9 := hK.sub (tys' := []) [] rfl
      refine vx_ret ?_
      refine W.widen (k := 1) (n := 6) (by decide) (by decide) ?_
      exact W.iret (v := 1) hx hb hr (fun t ht hW => ⟨⟨1, (), rfl, (Or.inl ⟨c102, rfl⟩), by rw [ht]; exact hP9, va_K.moved hW.alike hK9, hD9⟩, hS.F ht⟩) hS.2.2 dL_holder_20
    · skip
      obtain ⟨hP, hD⟩ := va_join (wr := []) (w1 := []) hP hD [0, 1, 2] [] rfl rfl (by decide) (by decide) hk1 hFc P0 D0
      have hK := hK.sub (tys' := []) [] rfl
      generalize H1 = H at hP hS hce ⊢
      have hP : va_P (dC, dI) vwCl [] H := hP
      have hD : va_D A [] := hD
      refine vx_catch (own := RL) (name := "java/util/NoSuchElementException") (E := "java/util/NoSuchElementException") hown [] ⟨0, 14, 17, 30⟩ [] (htb.trans rfl) ((fun _ h => nomatch h)) (by decide) (by decide) (hts (.classLink RL 30 "java/util/NoSuchElementException") (by decide +kernel)) (va_Nw.use rfl (hZ.2.2.1 "java/util/NoSuchElementException" (by decide))) hce hcv hcl ?_
      refine W.eq (g2 := F0 m 17 ls [.ref q9]) rfl ?_
      refine W.widen (k := 1) (n := 6) (by omega) (by omega) ?_
      refine lv_astore (lv' := [(6, .ref q9), (0, .ref Ad0), (1, .int Va0), (2, .int Va1), (3, .int Va2), (4, .int Va3), (5, .ref Br0)]) hx hb dL_holder_17 hl (by decide) rfl (fun ls hl => ?_)
      refine lv_iconst (v := 1) hx hb dL_holder_19 (by decide) ?_
      have hP9 := hP.sub (ws' := []) [] rfl
      have hD9 := hD.sub (ws' := []) [] (by decide) rfl
      have hK9 := hK.sub (tys' := []) [] rfl
      refine vx_ret ?_
      refine W.widen (k := 1) (n := 6) (by decide) (by decide) ?_
      exact W.iret (v := 1) hx hb hr (fun t ht hW => ⟨⟨1, (), rfl, (Or.inr (Or.inl ⟨c103, c104, rfl⟩)), by rw [ht]; exact hP9, va_K.moved hW.alike hK9, hD9⟩, hS.F ht⟩) hS.2.2 dL_holder_20
    · skip
      obtain ⟨hP, hD⟩ := va_join (wr := []) (w1 := []) hP hD [0, 1, 2] [] rfl rfl (by decide) (by decide) hk1 hFc P0 D0
      have hK := hK.sub (tys' := []) [] rfl
      generalize H1 = H at hP hS hce ⊢
      have hP : va_P (dC, dI) vwCl [] H := hP
      have hD : va_D A [] := hD
      refine vx_catch (own := RL) (name := "java/util/NoSuchElementException") (E := "java/util/NoSuchElementException") hown [] ⟨0, 14, 17, 30⟩ [] (htb.trans rfl) ((fun _ h => nomatch h)) (by decide) (by decide) (hts (.classLink RL 30 "java/util/NoSuchElementException") (by decide +kernel)) (va_Nw.use rfl (hZ.2.2.1 "java/util/NoSuchElementException" (by decide))) hce hcv hcl ?_
      refine W.eq (g2 := F0 m 17 ls [.ref q9]) rfl ?_
      refine W.widen (k := 1) (n := 6) (by omega) (by omega) ?_
      refine lv_astore (lv' := [(6, .ref q9), (0, .ref Ad0), (1, .int Va0), (2, .int Va1), (3, .int Va2), (4, .int Va3), (5, .ref Br0)]) hx hb dL_holder_17 hl (by decide) rfl (fun ls hl => ?_)
      refine lv_iconst (v := 1) hx hb dL_holder_19 (by decide) ?_
      have hP9 := hP.sub (ws' := []) [] rfl
      have hD9 := hD.sub (ws' := []) [] (by decide) rfl
      have hK9 := hK.sub (tys' := []) [] rfl
      refine vx_ret ?_
      refine W.widen (k := 1) (n := 6) (by decide) (by decide) ?_
      exact W.iret (v := 1) hx hb hr (fun t ht hW => ⟨⟨1, (), rfl, (Or.inr (Or.inr (Or.inl ⟨c105, c106, c107, rfl⟩))), by rw [ht]; exact hP9, va_K.moved hW.alike hK9, hD9⟩, hS.F ht⟩) hS.2.2 dL_holder_20
    · skip
      obtain ⟨hP, hD⟩ := va_join (wr := []) (w1 := []) hP hD [0, 1, 2] [] rfl rfl (by decide) (by decide) hk1 hFc P0 D0
      have hK := hK.sub (tys' := []) [] rfl
      generalize H1 = H at hP hS hce ⊢
      have hP : va_P (dC, dI) vwCl [] H := hP
      have hD : va_D A [] := hD
      refine vx_catch (own := RL) (name := "java/util/NoSuchElementException") (E := "java/util/NoSuchElementException") hown [] ⟨0, 14, 17, 30⟩ [] (htb.trans rfl) ((fun _ h => nomatch h)) (by decide) (by decide) (hts (.classLink RL 30 "java/util/NoSuchElementException") (by decide +kernel)) (va_Nw.use rfl (hZ.2.2.1 "java/util/NoSuchElementException" (by decide))) hce hcv hcl ?_
      refine W.eq (g2 := F0 m 17 ls [.ref q9]) rfl ?_
      refine W.widen (k := 1) (n := 6) (by omega) (by omega) ?_
      refine lv_astore (lv' := [(6, .ref q9), (0, .ref Ad0), (1, .int Va0), (2, .int Va1), (3, .int Va2), (4, .int Va3), (5, .ref Br0)]) hx hb dL_holder_17 hl (by decide) rfl (fun ls hl => ?_)
      refine lv_iconst (v := 1) hx hb dL_holder_19 (by decide) ?_
      have hP9 := hP.sub (ws' := []) [] rfl
      have hD9 := hD.sub (ws' := []) [] (by decide) rfl
      have hK9 := hK.sub (tys' := []) [] rfl
      refine vx_ret ?_
      refine W.widen (k := 1) (n := 6) (by decide) (by decide) ?_
      exact W.iret (v := 1) hx hb hr (fun t ht hW => ⟨⟨1, (), rfl, (Or.inr (Or.inr (Or.inr (⟨c108, c109, c110, c111, rfl⟩)))), by rw [ht]; exact hP9, va_K.moved hW.alike hK9, hD9⟩, hS.F ht⟩) hS.2.2 dL_holder_20
  · exact hw.elim

def l_z_L_member : List Cond := [.methodLink RL 78 yX11_member, .instanceMethod yX11_member, .selects RX11 yX11_member yX11_member, .initialized RX11, .classLink RL 30 "java/util/NoSuchElementException", .code yX11_member cX11_member 6 (some .int), .methodLink RX11 411 yX11_isPicture, .static yX11_isPicture, .classLink RX11 221 "java/util/NoSuchElementException", .initialized "java/util/NoSuchElementException", .fieldLink RX11 41 "HeapWorks" "pictures" "[LHeapWorks$Picture;", .methodLink RX11 435 yX5_twinMember, .instanceMethod yX5_twinMember, .selects RX5 yX5_twinMember yX5_twinMember, .initialized RX5, .methodLink RX11 432 yX5_ringMember, .instanceMethod yX5_ringMember, .selects RX5 yX5_ringMember yX5_ringMember, .code yX11_isPicture cX11_isPicture 1 (some .boolean), .code yX5_twinMember cX5_twinMember 3 (some .int), .fieldLink RX5 78 "HeapWorks$Picture" "shape" "LHeapWorks$Shape;", .methodLink RX5 189 yX8_needTwins, .instanceMethod yX8_needTwins, .selects RX8 yX8_needTwins yX8_needTwins, .initialized RX8, .fieldLink RX5 192 "HeapWorks$Shape" "twin" "[I", .methodLink RX5 185 yX5_memberOf, .instanceMethod yX5_memberOf, .selects RX5 yX5_memberOf yX5_memberOf, .code yX8_needTwins cX8_needTwins 6 none, .fieldLink RX8 60 "HeapWorks$Shape" "known" "I", .fieldLink RX8 57 "HeapWorks$Shape" "bucket" "[I", .methodLink RX8 149 yJ7_fill_53178, .static yJ7_fill_53178, .initialized RJ7, .fieldLink RX8 64 "HeapWorks$Picture" "things" "I", .fieldLink RX8 159 "HeapWorks$Shape" "twins" "I", .code yJ7_fill_53178 cJ7_fill_53178 4 none, .code yX5_memberOf cX5_memberOf 6 (some .int), .fieldLink RX5 82 "HeapWorks$Picture" "things" "I", .code yX5_ringMember cX5_ringMember 3 (some .int), .methodLink RX5 176 yX8_needRings, .instanceMethod yX8_needRings, .selects RX8 yX8_needRings yX8_needRings, .fieldLink RX5 179 "HeapWorks$Shape" "ring" "[I", .code yX8_needRings cX8_needRings 4 none, .methodLink RX8 123 yX8_numberRings, .instanceMethod yX8_numberRings, .selects RX8 yX8_numberRings yX8_numberRings, .code yX8_numberRings cX8_numberRings 4 none, .fieldLink RX8 45 "HeapWorks$Shape" "low" "[I", .methodLink RX8 67 yJ7_fill_fda19, .static yJ7_fill_fda19, .fieldLink RX8 51 "HeapWorks$Shape" "path" "[I", .fieldLink RX8 142 "HeapWorks$Shape" "rings" "I", .code yJ7_fill_fda19 cJ7_fill_fda19 5 none, .methodLink RJ7 13 yJ7_rangeCheck_23922, .static yJ7_rangeCheck_23922, .code yJ7_rangeCheck_23922 cJ7_rangeCheck_23922 3 none]
def w_z_L_member : List Cond := .codeWith yL_member cL_member 7 (some .int) [(0, 14, 17, 30)] :: (l_z_L_member ++ ((((vx_at0 RX11 223 "java/util/NoSuchElementException" ["java/lang/RuntimeException", "java/lang/Exception"]).filter goodWord) ++ (wsX110 ++ (wsX50 ++ wsX80)))))
theorem in_z_L_member_at0_X11_223 : ∀ w ∈ ((vx_at0 RX11 223 "java/util/NoSuchElementException" ["java/lang/RuntimeException", "java/lang/Exception"]).filter goodWord), w ∈ w_z_L_member := fun w h => List.mem_cons_of_mem _ (List.mem_append_right _ (List.mem_append_left _ h))
theorem in_z_L_member_X11 : ∀ w ∈ wsX110, w ∈ w_z_L_member := fun w h => List.mem_cons_of_mem _ (List.mem_append_right _ (List.mem_append_right _ (List.mem_append_left _ h)))
theorem in_z_L_member_X5 : ∀ w ∈ wsX50, w ∈ w_z_L_member := fun w h => List.mem_cons_of_mem _ (List.mem_append_right _ (List.mem_append_right _ (List.mem_append_right _ (List.mem_append_left _ h))))
theorem in_z_L_member_X8 : ∀ w ∈ wsX80, w ∈ w_z_L_member := fun w h => List.mem_cons_of_mem _ (List.mem_append_right _ (List.mem_append_right _ (List.mem_append_right _ (List.mem_append_right _ (h)))))
theorem g_z_L_member_z_X11_member_78 : GoodIn w_z_L_member (wsV RL 78 RX11 yX11_member w_z_X11_member) := goodIn_app (goodIn_r (([.methodLink RL 78 yX11_member, .instanceMethod yX11_member, .selects RX11 yX11_member yX11_member, .initialized RX11] : List Cond)) [1, 2, 3, 4] rfl (by decide +kernel)) (goodIn_ca (goodIn_r (.code yX11_member cX11_member 6 (some .int) :: l_z_X11_member) [6, 7, 8, 4, 9, 10, 11, 12, 13, 14, 15, 16, 17, 18, 19, 20, 21, 22, 23, 24, 25, 26, 27, 28, 29, 30, 31, 32, 33, 34, 35, 36, 37, 38, 39, 40, 41, 42, 43, 44, 45, 46, 47, 48, 49, 50, 51, 52, 53, 54, 55, 56, 57, 58, 59] rfl (by decide +kernel)) (goodIn_app (goodIn_in (in_z_L_member_at0_X11_223) gd_at0_X11_223) (goodIn_app (goodIn_in (in_z_L_member_X11) gd_X11) (goodIn_app (goodIn_in (in_z_L_member_X5) gd_X5) (goodIn_in (in_z_L_member_X8) gd_X8)))))
set_option maxHeartbeats 4000000 in
set_option maxRecDepth 100000 in
theorem z_L_member (l : Launch) (dC : Nat → ClassId) (dI : Nat → Nat → Nat) (sz : Nat) (Ad0 : Nat) (Fs0 : List Value) (Ad1 : Nat) (Fa0 : Nat → Option Nat) (Ka0 : ClassId) (Ad2 : Nat) (Fs1 : List Value) (Ad3 : Nat) (Fs2 : List Value) (Ad4 : Nat) (Fa1 : Nat → Int32) (Ka1 : ClassId) (Ad5 : Nat) (Fa2 : Nat → Int32) (Ka2 : ClassId) (Ad6 : Nat) (Fa3 : Nat → Int32) (Ka3 : ClassId) (Va0 : Int32) (Va1 : Int32) (Va2 : Int32) (Va3 : Int32) (Br0 : Nat) (Br1 : Nat) (Br2 : Nat) (k_Fs0 : fh Fs0 18 [(4, .ref Ad1)]) (k_Fs1 : fh Fs1 21 [(0, .int 0), (20, .ref Ad3)]) (k_Fs2 : fh Fs2 18 [(1, .int 0), (13, .ref Ad4), (15, .ref Ad5), (17, .ref Ad6), (8, .ref Br1), (10, .ref Br2)]) (hst : l.stackTraces = false) (hg0 : Fa0 Va0.toNatClampNeg = some Ad2) : vx_Met l yL_member w_z_L_member ({ frames := 8, cells := 1, slots := 6, locals := 165 }) (va_Pc [.ref Ad0, .int Va0, .int Va1, .int Va2, .int Va3, .ref Br0] (fun U => U.heap.size = sz ∧ Zz (va_A [(Ad0, .inr (14, Fs0)), (Ad1, .inl (Ka0, 4, .inr (.inr (.inr (.inr Fa0))))), (Ad2, .inr (8, Fs1)), (Ad3, .inr (11, Fs2)), (Ad4, .inl (Ka1, 400, .inl Fa1)), (Ad5, .inl (Ka2, 400, .inl Fa2)), (Ad6, .inl (Ka3, 512, .inl Fa3))] sz) U ∧ Yy U ∧ Wd dC dI [(Ka0, .object "HeapWorks$Picture"), (Ka1, .int), (Ka2, .int), (Ka3, .int)] (fun _ => True) [(Ad0, .inr (14, Fs0)), (Ad1, .inl (Ka0, 4, .inr (.inr (.inr (.inr Fa0))))), (Ad2, .inr (8, Fs1)), (Ad3, .inr (11, Fs2)), (Ad4, .inl (Ka1, 400, .inl Fa1)), (Ad5, .inl (Ka2, 400, .inl Fa2)), (Ad6, .inl (Ka3, 512, .inl Fa3))] U)) (va_Qi (fun (r : Int32) (u : Unit) => (Va0 < 0 ∧ r = 1) ∨ (¬ Va0 < 0 ∧ 4 ≤ Va0 ∧ r = 1) ∨ (¬ Va0 < 0 ∧ ¬ 4 ≤ Va0 ∧ Va1 < 0 ∧ r = 1) ∨ (¬ Va0 < 0 ∧ ¬ 4 ≤ Va0 ∧ ¬ Va1 < 0 ∧ 1 < Va1 ∧ r = 1) ∨ (¬ Va0 < 0 ∧ ¬ 4 ≤ Va0 ∧ ¬ Va1 < 0 ∧ ¬ 1 < Va1 ∧ Va2 < 0 ∧ r = 1) ∨ (¬ Va0 < 0 ∧ ¬ 4 ≤ Va0 ∧ ¬ Va1 < 0 ∧ ¬ 1 < Va1 ∧ ¬ Va2 < 0 ∧ 0 ≤ Va3 ∧ ¬ Va1 = 0 ∧ r = 1) ∨ (¬ Va0 < 0 ∧ ¬ 4 ≤ Va0 ∧ ¬ Va1 < 0 ∧ ¬ 1 < Va1 ∧ ¬ Va2 < 0 ∧ 0 ≤ Va3 ∧ Va1 = 0 ∧ r = 1) ∨ (¬ Va0 < 0 ∧ ¬ 4 ≤ Va0 ∧ ¬ Va1 < 0 ∧ ¬ 1 < Va1 ∧ ¬ Va2 < 0 ∧ ¬ 0 ≤ Va3 ∧ r = 1)) (fun (u : Unit) t => Wd dC dI [] (va_A [(Ad0, .inr (14, Fs0)), (Ad1, .inl (Ka0, 4, .inr (.inr (.inr (.inr Fa0))))), (Ad2, .inr (8, Fs1)), (Ad3, .inr (11, Fs2)), (Ad4, .inl (Ka1, 400, .inl Fa1)), (Ad5, .inl (Ka2, 400, .inl Fa2)), (Ad6, .inl (Ka3, 512, .inl Fa3))] sz) [] t) (va_A [(Ad0, .inr (14, Fs0)), (Ad1, .inl (Ka0, 4, .inr (.inr (.inr (.inr Fa0))))), (Ad2, .inr (8, Fs1)), (Ad3, .inr (11, Fs2)), (Ad4, .inl (Ka1, 400, .inl Fa1)), (Ad5, .inl (Ka2, 400, .inl Fa2)), (Ad6, .inl (Ka3, 512, .inl Fa3))] sz)) (vx_X (fun _ : Unit => True) (fun E _ _ => False) (va_A [(Ad0, .inr (14, Fs0)), (Ad1, .inl (Ka0, 4, .inr (.inr (.inr (.inr Fa0))))), (Ad2, .inr (8, Fs1)), (Ad3, .inr (11, Fs2)), (Ad4, .inl (Ka1, 400, .inl Fa1)), (Ad5, .inl (Ka2, 400, .inl Fa2)), (Ad6, .inl (Ka3, 512, .inl Fa3))] sz)) 1 6 (va_A [(Ad0, .inr (14, Fs0)), (Ad1, .inl (Ka0, 4, .inr (.inr (.inr (.inr Fa0))))), (Ad2, .inr (8, Fs1)), (Ad3, .inr (11, Fs2)), (Ad4, .inl (Ka1, 400, .inl Fa1)), (Ad5, .inl (Ka2, 400, .inl Fa2)), (Ad6, .inl (Ka3, 512, .inl Fa3))] sz) := by
  refine vx_ofWH (cc := cL_member) (maxL := 7) (ret := (some .int)) (by decide) rfl ?_
  intro p e s m args below meth c s₁ B hml hv
  obtain ⟨rfl, hsz, hZ, hY, hP, hK, hD0⟩ := hv
  have hx := B.exec
  have hb := B.bytes
  have hr := B.returns
  have hts := atoms_spec (ws := w_z_L_member) B.pre
  have hown : s.vm.findClass RL = some m.cls := findClass_of_methodNamed B.named
  have hlocks := B.notSynchronized
  have htb := vx_table (x := yL_member) B (hts (.codeWith yL_member cL_member 7 (some .int) [(0, 14, 17, 30)]) (by decide +kernel))
  subst hsz
  have hD := hD0.self (sz := s.heap.size)
  generalize hAe : va_A [(Ad0, .inr (14, Fs0)), (Ad1, .inl (Ka0, 4, .inr (.inr (.inr (.inr Fa0))))), (Ad2, .inr (8, Fs1)), (Ad3, .inr (11, Fs2)), (Ad4, .inl (Ka1, 400, .inl Fa1)), (Ad5, .inl (Ka2, 400, .inl Fa2)), (Ad6, .inl (Ka3, 512, .inl Fa3))] s.heap.size = A at hD hZ ⊢
  have hA : ∀ q : Nat, s.heap.size ≤ q → A q := fun q h => by rw [← hAe]; exact Or.inr h
  have hS : va_S A s.heap s.heap [] := va_S.rf
  have hl := lv_entry ([.ref Ad0, .int Va0, .int Va1, .int Va2, .int Va3, .ref Br0]) (n := 7) (Nat.le_of_ble_eq_true rfl)
  rw [lg_entry_eq]
  generalize (lg_sl ([.ref Ad0, .int Va0, .int Va1, .int Va2, .int Va3, .ref Br0]) ++ List.replicate (7 - (lg_sl ([.ref Ad0, .int Va0, .int Va1, .int Va2, .int Va3, .ref Br0])).length) Slot.unset).toArray = ls at hl ⊢
  have hl : lv_has ls 7 [(0, .ref Ad0), (1, .int Va0), (2, .int Va1), (3, .int Va2), (4, .int Va3), (5, .ref Br0)] := hl
  have o_Fs0 := ow_0 k_Fs0
  have o_Fs1 := ow_0 k_Fs1
  have o_Fs2 := ow_0 k_Fs2
  refine lv_aload hx hb dL_member_0 (lv_at hl 5 rfl) ?_
  refine lv_iconst (v := 0) hx hb dL_member_2 (by decide) ?_
  refine lv_aload_n hx hb dL_member_3 rfl (lv_at hl 0 rfl) ?_
  refine lv_iload_n hx hb dL_member_4 rfl (lv_at hl 1 rfl) ?_
  refine lv_iload_n hx hb dL_member_5 rfl (lv_at hl 2 rfl) ?_
  refine lv_iload_n hx hb dL_member_6 rfl (lv_at hl 3 rfl) ?_
  refine lv_iload hx hb dL_member_7 (lv_at hl 4 rfl) ?_
  have hPc := hP.sub (ws' := [(Ad0, .inr (14, Fs0)), (Ad1, .inl (Ka0, 4, .inr (.inr (.inr (.inr Fa0))))), (Ad2, .inr (8, Fs1)), (Ad3, .inr (11, Fs2)), (Ad4, .inl (Ka1, 400, .inl Fa1)), (Ad5, .inl (Ka2, 400, .inl Fa2)), (Ad6, .inl (Ka3, 512, .inl Fa3))]) [0, 1, 2, 3, 4, 5, 6] rfl
  have hDc := hD.sub (ws' := [(Ad0, .inr (14, Fs0)), (Ad1, .inl (Ka0, 4, .inr (.inr (.inr (.inr Fa0))))), (Ad2, .inr (8, Fs1)), (Ad3, .inr (11, Fs2)), (Ad4, .inl (Ka1, 400, .inl Fa1)), (Ad5, .inl (Ka2, 400, .inl Fa2)), (Ad6, .inl (Ka3, 512, .inl Fa3))]) [0, 1, 2, 3, 4, 5, 6] (by decide) rfl
  have hKc := hK.sub (tys' := [(Ka0, .object "HeapWorks$Picture"), (Ka1, .int), (Ka2, .int), (Ka3, .int)]) [0, 1, 2, 3] rfl
  have hFc := va_free (wc := [(Ad0, .inr (14, Fs0)), (Ad1, .inl (Ka0, 4, .inr (.inr (.inr (.inr Fa0))))), (Ad2, .inr (8, Fs1)), (Ad3, .inr (11, Fs2)), (Ad4, .inl (Ka1, 400, .inl Fa1)), (Ad5, .inl (Ka2, 400, .inl Fa2)), (Ad6, .inl (Ka3, 512, .inl Fa3))]) hD hS hA [0, 1, 2, 3, 4, 5, 6] rfl
  refine vx_calli (vx_runV (As := [.int Va0, .int Va1, .int Va2, .int Va3]) (rest := [.int 0, .ref Br0]) ⟨hx, hb, hml, hown, hts⟩ (z_X11_member l dC dI s.heap.size Ad0 Fs0 Ad1 Fa0 Ka0 Ad2 Fs1 Ad3 Fs2 Ad4 Fa1 Ka1 Ad5 Fa2 Ka2 Ad6 Fa3 Ka3 Va0 Va1 Va2 Va3 Br1 Br2 (fh_sub o_Fs0.2 [0] rfl) (fh_sub o_Fs1.2 [0, 1] rfl) (fh_sub o_Fs2.2 [0, 1, 2, 3, 4, 5] rfl) hst hg0) (cwV 4 hts g_z_L_member_z_X11_member_78 rfl rfl rfl (by decide +kernel) ⟨Nat.le_of_ble_eq_true rfl, Nat.le_of_ble_eq_true rfl⟩) ⟨fun a U g mk q => by obtain ⟨q0, q1, qZ, qP, qK, qD⟩ := q; exact ⟨q0, q1, Zz_call qZ, qP, va_K.moved (u := U) (U := U.calling g mk a) (Vm.Alike.refl U.vm) qK, qD⟩, va_recv hK hP (ci := 14) (q0 := 0) rfl rfl, fun U hU hW => ⟨rfl, by rw [hU], Zz_go hZ hS hFc hU hW, by rw [hU]; exact hPc, va_K.moved hW.alike hKc, hDc.weaken (fun _ _ _ _ => trivial)⟩⟩ rfl rfl hl.1 rfl (lv_room (Nat.le_of_ble_eq_true rfl)) dL_member_9 ⟨Nat.le_of_ble_eq_true rfl, Nat.le_of_ble_eq_true rfl⟩) hS (fun q _ h => hFc q h) hFc (fun q _ h => hFc q h) (fun E ce q9 u t H1 locs ht hvm hpx hBX hz1 hk1 hS hce hcv hcl => ?_) (fun r101 u t H1 locs ht hvm hw hB hz1 hk1 hS => ?_)
  · rcases hBX with ⟨rfl, c102⟩ | ⟨rfl, c103, c104⟩ | ⟨rfl, c105, c106, c107⟩ | ⟨rfl, c108, c109, c110, c111⟩ | ⟨rfl, c112, c113, c114, c115, c116⟩ | ⟨rfl, c117, c118, c119, c120, c121, c122, c123⟩ | ⟨rfl, c124, c125, c126, c127, c128, c129, c130⟩ | ⟨rfl, c131, c132, c133, c134, c135, c136⟩
    · skip
      obtain ⟨hP, hD⟩ := va_join (wr := []) (w1 := []) hP hD [0, 1, 2, 3, 4, 5, 6] [] rfl rfl (by decide) (by decide) hk1 hFc P0 D0
      have hK := hK.sub (tys' := []) [] rfl
      generalize H1 = H at hP hS hce ⊢
      have hP : va_P (dC, dI) vwCl [] H := hP
      have hD : va_D A [] := hD
      refine vx_catch (own := RL) (name := "java/util/NoSuchElementException") (E := "java/util/NoSuchElementException") hown [] ⟨0, 14, 17, 30⟩ [] (htb.trans rfl) ((fun _ h => nomatch h)) (by decide) (by decide) (hts (.classLink RL 30 "java/util/NoSuchElementException") (by decide +kernel)) (va_Nw.use rfl (hZ.2.2.1 "java/util/NoSuchElementException" (by decide))) hce hcv hcl ?_
      refine W.eq (g2 := F0 m 17 ls [.ref q9]) rfl ?_
      refine W.widen (k := 1) (n := 6) (by omega) (by omega) ?_
      refine lv_astore (lv' := [(6, .ref q9), (0, .ref Ad0), (1, .int Va0), (2, .int Va1), (3, .int Va2), (4, .int Va3), (5, .ref Br0)]) hx hb dL_member_17 hl (by decide) rfl (fun ls hl => ?_)
      refine lv_iconst (v := 1) hx hb dL_member_19 (by decide) ?_
      have hP9 := hP.sub (ws' := []) [] rfl
      have hD9 := hD.sub (ws' := []) [] (by decide) rfl
      have hK9 := hK.sub (tys' := []) [] rfl
      refine vx_ret ?_
      refine W.widen (k := 1) (n := 6) (by decide) (by decide) ?_
      exact W.iret (v := 1) hx hb hr (fun t ht hW => ⟨⟨1, (), rfl, (Or.inl ⟨c102, rfl⟩), by rw [ht]; exact hP9, va_K.moved hW.alike hK9, hD9⟩, hS.F ht⟩) hS.2.2 dL_member_20
    · skip
      obtain ⟨hP, hD⟩ := va_join (wr := []) (w1 := []) hP hD [0, 1, 2, 3, 4, 5, 6] [] rfl rfl (by decide) (by decide) hk1 hFc P0 D0
      have hK := hK.sub (tys' := []) [] rfl
      generalize H1 = H at hP hS hce ⊢
      have hP : va_P (dC, dI) vwCl [] H := hP
      have hD : va_D A [] := hD
      refine vx_catch (own := RL) (name := "java/util/NoSuchElementException") (E := "java/util/NoSuchElementException") hown [] ⟨0, 14, 17, 30⟩ [] (htb.trans rfl) ((fun _ h => nomatch h)) (by decide) (by decide) (hts (.classLink RL 30 "java/util/NoSuchElementException") (by decide +kernel)) (va_Nw.use rfl (hZ.2.2.1 "java/util/NoSuchElementException" (by decide))) hce hcv hcl ?_
      refine W.eq (g2 := F0 m 17 ls [.ref q9]) rfl ?_
      refine W.widen (k := 1) (n := 6) (by omega) (by omega) ?_
      refine lv_astore (lv' := [(6, .ref q9), (0, .ref Ad0), (1, .int Va0), (2, .int Va1), (3, .int Va2), (4, .int Va3), (5, .ref Br0)]) hx hb dL_member_17 hl (by decide) rfl (fun ls hl => ?_)
      refine lv_iconst (v := 1) hx hb dL_member_19 (by decide) ?_
      have hP9 := hP.sub (ws' := []) [] rfl
      have hD9 := hD.sub (ws' := []) [] (by decide) rfl
      have hK9 := hK.sub (tys' := []) [] rfl
      refine vx_ret ?_
      refine W.widen (k := 1) (n := 6) (by decide) (by decide) ?_
      exact W.iret (v := 1) hx hb hr (fun t ht hW => ⟨⟨1, (), rfl, (Or.inr (Or.inl ⟨c103, c104, rfl⟩)), by rw [ht]; exact hP9, va_K.moved hW.alike hK9, hD9⟩, hS.F ht⟩) hS.2.2 dL_member_20
    · skip
      obtain ⟨hP, hD⟩ := va_join (wr := []) (w1 := []) hP hD [0, 1, 2, 3, 4, 5, 6] [] rfl rfl (by decide) (by decide) hk1 hFc P0 D0
      have hK := hK.sub (tys' := []) [] rfl
      generalize H1 = H at hP hS hce ⊢
      have hP : va_P (dC, dI) vwCl [] H := hP
      have hD : va_D A [] := hD
      refine vx_catch (own := RL) (name := "java/util/NoSuchElementException") (E := "java/util/NoSuchElementException") hown [] ⟨0, 14, 17, 30⟩ [] (htb.trans rfl) ((fun _ h => nomatch h)) (by decide) (by decide) (hts (.classLink RL 30 "java/util/NoSuchElementException") (by decide +kernel)) (va_Nw.use rfl (hZ.2.2.1 "java/util/NoSuchElementException" (by decide))) hce hcv hcl ?_
      refine W.eq (g2 := F0 m 17 ls [.ref q9]) rfl ?_
      refine W.widen (k := 1) (n := 6) (by omega) (by omega) ?_
      refine lv_astore (lv' := [(6, .ref q9), (0, .ref Ad0), (1, .int Va0), (2, .int Va1), (3, .int Va2), (4, .int Va3), (5, .ref Br0)]) hx hb dL_member_17 hl (by decide) rfl (fun ls hl => ?_)
      refine lv_iconst (v := 1) hx hb dL_member_19 (by decide) ?_
      have hP9 := hP.sub (ws' := []) [] rfl
      have hD9 := hD.sub (ws' := []) [] (by decide) rfl
      have hK9 := hK.sub (tys' := []) [] rfl
      refine vx_ret ?_
      refine W.widen (k := 1) (n := 6) (by decide) (by decide) ?_
      exact W.iret (v := 1) hx hb hr (fun t ht hW => ⟨⟨1, (), rfl, (Or.inr (Or.inr (Or.inl ⟨c105, c106, c107, rfl⟩))), by rw [ht]; exact hP9, va_K.moved hW.alike hK9, hD9⟩, hS.F ht⟩) hS.2.2 dL_member_20
    · skip
      obtain ⟨hP, hD⟩ := va_join (wr := []) (w1 := []) hP hD [0, 1, 2, 3, 4, 5, 6] [] rfl rfl (by decide) (by decide) hk1 hFc P0 D0
      have hK := hK.sub (tys' := []) [] rfl
      generalize H1 = H at hP hS hce ⊢
      have hP : va_P (dC, dI) vwCl [] H := hP
      have hD : va_D A [] := hD
      refine vx_catch (own := RL) (name := "java/util/NoSuchElementException") (E := "java/util/NoSuchElementException") hown [] ⟨0, 14, 17, 30⟩ [] (htb.trans rfl) ((fun _ h => nomatch h)) (by decide) (by decide) (hts (.classLink RL 30 "java/util/NoSuchElementException") (by decide +kernel)) (va_Nw.use rfl (hZ.2.2.1 "java/util/NoSuchElementException" (by decide))) hce hcv hcl ?_
      refine W.eq (g2 := F0 m 17 ls [.ref q9]) rfl ?_
      refine W.widen (k := 1) (n := 6) (by omega) (by omega) ?_
      refine lv_astore (lv' := [(6, .ref q9), (0, .ref Ad0), (1, .int Va0), (2, .int Va1), (3, .int Va2), (4, .int Va3), (5, .ref Br0)]) hx hb dL_member_17 hl (by decide) rfl (fun ls hl => ?_)
      refine lv_iconst (v := 1) hx hb dL_member_19 (by decide) ?_
      have hP9 := hP.sub (ws' := []) [] rfl
      have hD9 := hD.sub (ws' := []) [] (by decide) rfl
      have hK9 := hK.sub (tys' := []) [] rfl
      refine vx_ret ?_
      refine W.widen (k := 1) (n := 6) (by decide) (by decide) ?_
      exact W.iret (v := 1) hx hb hr (fun t ht hW => ⟨⟨1, (), rfl, (Or.inr (Or.inr (Or.inr (Or.inl ⟨c108, c109, c110, c111, rfl⟩)))), by rw [ht]; exact hP9, va_K.moved hW.alike hK9, hD9⟩, hS.F ht⟩) hS.2.2 dL_member_20
    · skip
      obtain ⟨hP, hD⟩ := va_join (wr := []) (w1 := []) hP hD [0, 1, 2, 3, 4, 5, 6] [] rfl rfl (by decide) (by decide) hk1 hFc P0 D0
      have hK := hK.sub (tys' := []) [] rfl
      generalize H1 = H at hP hS hce ⊢
      have hP : va_P (dC, dI) vwCl [] H := hP
      have hD : va_D A [] := hD
      refine vx_catch (own := RL) (name := "java/util/NoSuchElementException") (E := "java/util/NoSuchElementException") hown [] ⟨0, 14, 17, 30⟩ [] (htb.trans rfl) ((fun _ h => nomatch h)) (by decide) (by decide) (hts (.classLink RL 30 "java/util/NoSuchElementException") (by decide +kernel)) (va_Nw.use rfl (hZ.2.2.1 "java/util/NoSuchElementException" (by decide))) hce hcv hcl ?_
      refine W.eq (g2 := F0 m 17 ls [.ref q9]) rfl ?_
      refine W.widen (k := 1) (n := 6) (by omega) (by omega) ?_
      refine lv_astore (lv' := [(6, .ref q9), (0, .ref Ad0), (1, .int Va0), (2, .int Va1), (3, .int Va2), (4, .int Va3), (5, .ref Br0)]) hx hb dL_member_17 hl (by decide) rfl (fun ls hl => ?_)
      refine lv_iconst (v := 1) hx hb dL_member_19 (by decide) ?_
      have hP9 := hP.sub (ws' := []) [] rfl
      have hD9 := hD.sub (ws' := []) [] (by decide) rfl
      have hK9 := hK.sub (tys' := []) [] rfl
      refine vx_ret ?_
      refine W.widen (k := 1) (n := 6) (by decide) (by decide) ?_
      exact W.iret (v := 1) hx hb hr (fun t ht hW => ⟨⟨1, (), rfl, (Or.inr (Or.inr (Or.inr (Or.inr (Or.inl ⟨c112, c113, c114, c115, c116, rfl⟩))))), by rw [ht]; exact hP9, va_K.moved hW.alike hK9, hD9⟩, hS.F ht⟩) hS.2.2 dL_member_20
    · skip
      obtain ⟨hP, hD⟩ := va_join (wr := []) (w1 := []) hP hD [0, 1, 2, 3, 4, 5, 6] [] rfl rfl (by decide) (by decide) hk1 hFc P0 D0
      have hK := hK.sub (tys' := []) [] rfl
      generalize H1 = H at hP hS hce ⊢
      have hP : va_P (dC, dI) vwCl [] H := hP
      have hD : va_D A [] := hD
      refine vx_catch (own := RL) (name := "java/util/NoSuchElementException") (E := "java/util/NoSuchElementException") hown [] ⟨0, 14, 17, 30⟩ [] (htb.trans rfl) ((fun _ h => nomatch h)) (by decide) (by decide) (hts (.classLink RL 30 "java/util/NoSuchElementException") (by decide +kernel)) (va_Nw.use rfl (hZ.2.2.1 "java/util/NoSuchElementException" (by decide))) hce hcv hcl ?_
      refine W.eq (g2 := F0 m 17 ls [.ref q9]) rfl ?_
      refine W.widen (k := 1) (n := 6) (by omega) (by omega) ?_
      refine lv_astore (lv' := [(6, .ref q9), (0, .ref Ad0), (1, .int Va0), (2, .int Va1), (3, .int Va2), (4, .int Va3), (5, .ref Br0)]) hx hb dL_member_17 hl (by decide) rfl (fun ls hl => ?_)
      refine lv_iconst (v := 1) hx hb dL_member_19 (by decide) ?_
      have hP9 := hP.sub (ws' := []) [] rfl
      have hD9 := hD.sub (ws' := []) [] (by decide) rfl
      have hK9 := hK.sub (tys' := []) [] rfl
      refine vx_ret ?_
      refine W.widen (k := 1) (n := 6) (by decide) (by decide) ?_
      exact W.iret (v := 1) hx hb hr (fun t ht hW => ⟨⟨1, (), rfl, (Or.inr (Or.inr (Or.inr (Or.inr (Or.inr (Or.inl ⟨c117, c118, c119, c120, c121, c122, c123, rfl⟩)))))), by rw [ht]; exact hP9, va_K.moved hW.alike hK9, hD9⟩, hS.F ht⟩) hS.2.2 dL_member_20
    · skip
      obtain ⟨hP, hD⟩ := va_join (wr := []) (w1 := []) hP hD [0, 1, 2, 3, 4, 5, 6] [] rfl rfl (by decide) (by decide) hk1 hFc P0 D0
      have hK := hK.sub (tys' := []) [] rfl
      generalize H1 = H at hP hS hce ⊢
      have hP : va_P (dC, dI) vwCl [] H := hP
      have hD : va_D A [] := hD
      refine vx_catch (own := RL) (name := "java/util/NoSuchElementException") (E := "java/util/NoSuchElementException") hown [] ⟨0, 14, 17, 30⟩ [] (htb.trans rfl) ((fun _ h => nomatch h)) (by decide) (by decide) (hts (.classLink RL 30 "java/util/NoSuchElementException") (by decide +kernel)) (va_Nw.use rfl (hZ.2.2.1 "java/util/NoSuchElementException" (by decide))) hce hcv hcl ?_
      refine W.eq (g2 := F0 m 17 ls [.ref q9]) rfl ?_
      refine W.widen (k := 1) (n := 6) (by omega) (by omega) ?_
      refine lv_astore (lv' := [(6, .ref q9), (0, .ref Ad0), (1, .int Va0), (2, .int Va1), (3, .int Va2), (4, .int Va3), (5, .ref Br0)]) hx hb dL_member_17 hl (by decide) rfl (fun ls hl => ?_)
      refine lv_iconst (v := 1) hx hb dL_member_19 (by decide) ?_
      have hP9 := hP.sub (ws' := []) [] rfl
      have hD9 := hD.sub (ws' := []) [] (by decide) rfl
      have hK9 := hK.sub (tys' := []) [] rfl
      refine vx_ret ?_
      refine W.widen (k := 1) (n := 6) (by decide) (by decide) ?_
      exact W.iret (v := 1) hx hb hr (fun t ht hW => ⟨⟨1, (), rfl, (Or.inr (Or.inr (Or.inr (Or.inr (Or.inr (Or.inr (Or.inl ⟨c124, c125, c126, c127, c128, c129, c130, rfl⟩))))))), by rw [ht]; exact hP9, va_K.moved hW.alike hK9, hD9⟩, hS.F ht⟩) hS.2.2 dL_member_20
    · skip
      obtain ⟨hP, hD⟩ := va_join (wr := []) (w1 := []) hP hD [0, 1, 2, 3, 4, 5, 6] [] rfl rfl (by decide) (by decide) hk1 hFc P0 D0
      have hK := hK.sub (tys' := []) [] rfl
      generalize H1 = H at hP hS hce ⊢
      have hP : va_P (dC, dI) vwCl [] H := hP
      have hD : va_D A [] := hD
      refine vx_catch (own := RL) (name := "java/util/NoSuchElementException") (E := "java/util/NoSuchElementException") hown [] ⟨0, 14, 17, 30⟩ [] (htb.trans rfl) ((fun _ h => nomatch h)) (by decide) (by decide) (hts (.classLink RL 30 "java/util/NoSuchElementException") (by decide +kernel)) (va_Nw.use rfl (hZ.2.2.1 "java/util/NoSuchElementException" (by decide))) hce hcv hcl ?_
      refine W.eq (g2 := F0 m 17 ls [.ref q9]) rfl ?_
      refine W.widen (k := 1) (n := 6) (by omega) (by omega) ?_
      refine lv_astore (lv' := [(6, .ref q9), (0, .ref Ad0), (1, .int Va0), (2, .int Va1), (3, .int Va2), (4, .int Va3), (5, .ref Br0)]) hx hb dL_member_17 hl (by decide) rfl (fun ls hl => ?_)
      refine lv_iconst (v := 1) hx hb dL_member_19 (by decide) ?_
      have hP9 := hP.sub (ws' := []) [] rfl
      have hD9 := hD.sub (ws' := []) [] (by decide) rfl
      have hK9 := hK.sub (tys' := []) [] rfl
      refine vx_ret ?_
      refine W.widen (k := 1) (n := 6) (by decide) (by decide) ?_
      exact W.iret (v := 1) hx hb hr (fun t ht hW => ⟨⟨1, (), rfl, (Or.inr (Or.inr (Or.inr (Or.inr (Or.inr (Or.inr (Or.inr (⟨c131, c132, c133, c134, c135, c136, rfl⟩)))))))), by rw [ht]; exact hP9, va_K.moved hW.alike hK9, hD9⟩, hS.F ht⟩) hS.2.2 dL_member_20
  · exact hw.elim

def l_z_L_lost : List Cond := [.methodLink RL 81 yX11_lost, .instanceMethod yX11_lost, .selects RX11 yX11_lost yX11_lost, .initialized RX11, .classLink RL 13 "java/lang/IndexOutOfBoundsException", .code yX11_lost cX11_lost 2 (some .int), .methodLink RX11 353 yX11_needPicture, .static yX11_needPicture, .fieldLink RX11 41 "HeapWorks" "pictures" "[LHeapWorks$Picture;", .methodLink RX11 441 yX5_findLost, .instanceMethod yX5_findLost, .selects RX5 yX5_findLost yX5_findLost, .initialized RX5, .code yX11_needPicture cX11_needPicture 1 none, .methodLink RX11 411 yX11_isPicture, .static yX11_isPicture, .classLink RX11 120 "java/lang/IndexOutOfBoundsException", .initialized "java/lang/IndexOutOfBoundsException", .code yX11_isPicture cX11_isPicture 1 (some .boolean), .code yX5_findLost cX5_findLost 4 (some .int), .fieldLink RX5 64 "HeapWorks$Picture" "mark" "[I", .fieldLink RX5 82 "HeapWorks$Picture" "things" "I", .methodLink RX5 209 yJ7_fill_fda19, .static yJ7_fill_fda19, .initialized RJ7, .fieldLink RX5 86 "HeapWorks$Picture" "roots" "I", .fieldLink RX5 89 "HeapWorks$Picture" "lostCount" "I", .code yJ7_fill_fda19 cJ7_fill_fda19 5 none, .methodLink RJ7 13 yJ7_rangeCheck_23922, .static yJ7_rangeCheck_23922, .code yJ7_rangeCheck_23922 cJ7_rangeCheck_23922 3 none]
def w_z_L_lost : List Cond := .codeWith yL_lost cL_lost 4 (some .int) [(0, 9, 12, 13)] :: (l_z_L_lost ++ ((wsX110 ++ (((vx_at0 RX11 122 "java/lang/IndexOutOfBoundsException" ["java/lang/RuntimeException", "java/lang/Exception"]).filter goodWord) ++ wsX50))))
theorem in_z_L_lost_X11 : ∀ w ∈ wsX110, w ∈ w_z_L_lost := fun w h => List.mem_cons_of_mem _ (List.mem_append_right _ (List.mem_append_left _ h))
theorem in_z_L_lost_at0_X11_122 : ∀ w ∈ ((vx_at0 RX11 122 "java/lang/IndexOutOfBoundsException" ["java/lang/RuntimeException", "java/lang/Exception"]).filter goodWord), w ∈ w_z_L_lost := fun w h => List.mem_cons_of_mem _ (List.mem_append_right _ (List.mem_append_right _ (List.mem_append_left _ h)))
theorem in_z_L_lost_X5 : ∀ w ∈ wsX50, w ∈ w_z_L_lost := fun w h => List.mem_cons_of_mem _ (List.mem_append_right _ (List.mem_append_right _ (List.mem_append_right _ (h))))
theorem g_z_L_lost_z_X11_lost_81 : GoodIn w_z_L_lost (wsV RL 81 RX11 yX11_lost w_z_X11_lost) := goodIn_app (goodIn_r (([.methodLink RL 81 yX11_lost, .instanceMethod yX11_lost, .selects RX11 yX11_lost yX11_lost, .initialized RX11] : List Cond)) [1, 2, 3, 4] rfl (by decide +kernel)) (goodIn_ca (goodIn_r (.code yX11_lost cX11_lost 2 (some .int) :: l_z_X11_lost) [6, 7, 8, 4, 9, 10, 11, 12, 13, 14, 15, 16, 17, 18, 19, 20, 21, 22, 23, 24, 25, 26, 27, 28, 29, 30, 31] rfl (by decide +kernel)) (goodIn_app (goodIn_in (in_z_L_lost_X11) gd_X11) (goodIn_app (goodIn_in (in_z_L_lost_at0_X11_122) gd_at0_X11_122) (goodIn_in (in_z_L_lost_X5) gd_X5))))
set_option maxHeartbeats 4000000 in
set_option maxRecDepth 100000 in
theorem z_L_lost (l : Launch) (dC : Nat → ClassId) (dI : Nat → Nat → Nat) (sz : Nat) (Ad0 : Nat) (Fs0 : List Value) (Ad1 : Nat) (Fa0 : Nat → Option Nat) (Ka0 : ClassId) (Ad2 : Nat) (Fs1 : List Value) (Ad3 : Nat) (Fa1 : Nat → Int32) (Ka1 : ClassId) (Ad4 : Nat) (Fa2 : Nat → Int64) (Ka2 : ClassId) (Va0 : Int32) (k_Fs0 : fh Fs0 18 [(4, .ref Ad1)]) (k_Fs1 : fh Fs1 21 [(0, .int 0), (11, .int 0), (16, .int 0), (17, .ref Ad3)]) (hst : l.stackTraces = false) (hg0 : Fa0 Va0.toNatClampNeg = some Ad2) : vx_Met l yL_lost w_z_L_lost ({ frames := 9, cells := 1, slots := 6, locals := 181 }) (va_Pc [.ref Ad0, .int Va0, .ref Ad4] (fun U => U.heap.size = sz ∧ Zz (va_A [(Ad0, .inr (14, Fs0)), (Ad1, .inl (Ka0, 4, .inr (.inr (.inr (.inr Fa0))))), (Ad2, .inr (8, Fs1)), (Ad3, .inl (Ka1, 400, .inl Fa1)), (Ad4, .inl (Ka2, 1, .inr (.inl Fa2)))] sz) U ∧ Yy U ∧ Wd dC dI [(Ka0, .object "HeapWorks$Picture"), (Ka1, .int), (Ka2, .long)] (fun _ => True) [(Ad0, .inr (14, Fs0)), (Ad1, .inl (Ka0, 4, .inr (.inr (.inr (.inr Fa0))))), (Ad2, .inr (8, Fs1)), (Ad3, .inl (Ka1, 400, .inl Fa1)), (Ad4, .inl (Ka2, 1, .inr (.inl Fa2)))] U)) (va_Qi (fun (r : Int32) (u : (Nat → Int64)) => (Va0 < 0 ∧ r = 1) ∨ (¬ Va0 < 0 ∧ 4 ≤ Va0 ∧ r = 1) ∨ (¬ Va0 < 0 ∧ ¬ 4 ≤ Va0 ∧ r = 0 ∧ (u) (0 : Int32).toNatClampNeg = 0)) (fun (u : (Nat → Int64)) t => Wd dC dI [(Ka2, .long)] (va_A [(Ad0, .inr (14, Fs0)), (Ad1, .inl (Ka0, 4, .inr (.inr (.inr (.inr Fa0))))), (Ad2, .inr (8, Fs1)), (Ad3, .inl (Ka1, 400, .inl Fa1)), (Ad4, .inl (Ka2, 1, .inr (.inl Fa2)))] sz) [(Ad4, .inl (Ka2, 1, .inr (.inl ((u)))))] t) (va_A [(Ad0, .inr (14, Fs0)), (Ad1, .inl (Ka0, 4, .inr (.inr (.inr (.inr Fa0))))), (Ad2, .inr (8, Fs1)), (Ad3, .inl (Ka1, 400, .inl Fa1)), (Ad4, .inl (Ka2, 1, .inr (.inl Fa2)))] sz)) (vx_X (fun _ : Unit => True) (fun E _ _ => False) (va_A [(Ad0, .inr (14, Fs0)), (Ad1, .inl (Ka0, 4, .inr (.inr (.inr (.inr Fa0))))), (Ad2, .inr (8, Fs1)), (Ad3, .inl (Ka1, 400, .inl Fa1)), (Ad4, .inl (Ka2, 1, .inr (.inl Fa2)))] sz)) 1 6 (va_A [(Ad0, .inr (14, Fs0)), (Ad1, .inl (Ka0, 4, .inr (.inr (.inr (.inr Fa0))))), (Ad2, .inr (8, Fs1)), (Ad3, .inl (Ka1, 400, .inl Fa1)), (Ad4, .inl (Ka2, 1, .inr (.inl Fa2)))] sz) := by
  refine vx_ofWH (cc := cL_lost) (maxL := 4) (ret := (some .int)) (by decide) rfl ?_
  intro p e s m args below meth c s₁ B hml hv
  obtain ⟨rfl, hsz, hZ, hY, hP, hK, hD0⟩ := hv
  have hx := B.exec
  have hb := B.bytes
  have hr := B.returns
  have hts := atoms_spec (ws := w_z_L_lost) B.pre
  have hown : s.vm.findClass RL = some m.cls := findClass_of_methodNamed B.named
  have hlocks := B.notSynchronized
  have htb := vx_table (x := yL_lost) B (hts (.codeWith yL_lost cL_lost 4 (some .int) [(0, 9, 12, 13)]) (by decide +kernel))
  subst hsz
  have hD := hD0.self (sz := s.heap.size)
  generalize hAe : va_A [(Ad0, .inr (14, Fs0)), (Ad1, .inl (Ka0, 4, .inr (.inr (.inr (.inr Fa0))))), (Ad2, .inr (8, Fs1)), (Ad3, .inl (Ka1, 400, .inl Fa1)), (Ad4, .inl (Ka2, 1, .inr (.inl Fa2)))] s.heap.size = A at hD hZ ⊢
  have hA : ∀ q : Nat, s.heap.size ≤ q → A q := fun q h => by rw [← hAe]; exact Or.inr h
  have hS : va_S A s.heap s.heap [] := va_S.rf
  have hl := lv_entry ([.ref Ad0, .int Va0, .ref Ad4]) (n := 4) (Nat.le_of_ble_eq_true rfl)
  rw [lg_entry_eq]
  generalize (lg_sl ([.ref Ad0, .int Va0, .ref Ad4]) ++ List.replicate (4 - (lg_sl ([.ref Ad0, .int Va0, .ref Ad4])).length) Slot.unset).toArray = ls at hl ⊢
  have hl : lv_has ls 4 [(0, .ref Ad0), (1, .int Va0), (2, .ref Ad4)] := hl
  have o_Fs0 := ow_0 k_Fs0
  have o_Fs1 := ow_0 k_Fs1
  refine lv_aload_n hx hb dL_lost_0 rfl (lv_at hl 2 rfl) ?_
  refine lv_iconst (v := 0) hx hb dL_lost_1 (by decide) ?_
  refine lv_aload_n hx hb dL_lost_2 rfl (lv_at hl 0 rfl) ?_
  refine lv_iload_n hx hb dL_lost_3 rfl (lv_at hl 1 rfl) ?_
  have hPc := hP.sub (ws' := [(Ad0, .inr (14, Fs0)), (Ad1, .inl (Ka0, 4, .inr (.inr (.inr (.inr Fa0))))), (Ad2, .inr (8, Fs1)), (Ad3, .inl (Ka1, 400, .inl Fa1))]) [0, 1, 2, 3] rfl
  have hDc := hD.sub (ws' := [(Ad0, .inr (14, Fs0)), (Ad1, .inl (Ka0, 4, .inr (.inr (.inr (.inr Fa0))))), (Ad2, .inr (8, Fs1)), (Ad3, .inl (Ka1, 400, .inl Fa1))]) [0, 1, 2, 3] (by decide) rfl
  have hKc := hK.sub (tys' := [(Ka0, .object "HeapWorks$Picture"), (Ka1, .int)]) [0, 1] rfl
  have hFc := va_free (wc := [(Ad0, .inr (14, Fs0)), (Ad1, .inl (Ka0, 4, .inr (.inr (.inr (.inr Fa0))))), (Ad2, .inr (8, Fs1)), (Ad3, .inl (Ka1, 400, .inl Fa1))]) hD hS hA [0, 1, 2, 3] rfl
  refine vx_calli (vx_runV (As := [.int Va0]) (rest := [.int 0, .ref Ad4]) ⟨hx, hb, hml, hown, hts⟩ (z_X11_lost l dC dI s.heap.size Ad0 Fs0 Ad1 Fa0 Ka0 Ad2 Fs1 Ad3 Fa1 Ka1 Va0 (fh_sub o_Fs0.2 [0] rfl) (fh_sub o_Fs1.2 [0, 1, 2, 3] rfl) hst hg0) (cwV 1 hts g_z_L_lost_z_X11_lost_81 rfl rfl rfl (by decide +kernel) ⟨Nat.le_of_ble_eq_true rfl, Nat.le_of_ble_eq_true rfl⟩) ⟨fun a U g mk q => by obtain ⟨q0, q1, qZ, qP, qK, qD⟩ := q; exact ⟨q0, q1, Zz_call qZ, qP, va_K.moved (u := U) (U := U.calling g mk a) (Vm.Alike.refl U.vm) qK, qD⟩, va_recv hK hP (ci := 14) (q0 := 0) rfl rfl, fun U hU hW => ⟨rfl, by rw [hU], Zz_go hZ hS hFc hU hW, by rw [hU]; exact hPc, va_K.moved hW.alike hKc, hDc.weaken (fun _ _ _ _ => trivial)⟩⟩ rfl rfl hl.1 rfl (lv_room (Nat.le_of_ble_eq_true rfl)) dL_lost_4 ⟨Nat.le_of_ble_eq_true rfl, Nat.le_of_ble_eq_true rfl⟩) hS (fun q _ h => hFc q h) hFc (fun q _ h => hFc q h) (fun E ce q9 u t H1 locs ht hvm hpx hBX hz1 hk1 hS hce hcv hcl => ?_) (fun r101 u t H1 locs ht hvm hw hB hz1 hk1 hS => ?_)
  · rcases hBX with ⟨rfl, c102⟩ | ⟨rfl, c103, c104⟩
    · skip
      obtain ⟨hP, hD⟩ := va_join (wr := [(Ad4, .inl (Ka2, 1, .inr (.inl Fa2)))]) (w1 := []) hP hD [0, 1, 2, 3] [4] rfl rfl (by decide) (by decide) hk1 hFc P0 D0
      have hK := hK.sub (tys' := [(Ka2, .long)]) [2] rfl
      generalize H1 = H at hP hS hce ⊢
      have hP : va_P (dC, dI) vwCl [(Ad4, .inl (Ka2, 1, .inr (.inl Fa2)))] H := hP
      have hD : va_D A [(Ad4, .inl (Ka2, 1, .inr (.inl Fa2)))] := hD
      refine vx_catch (own := RL) (name := "java/lang/IndexOutOfBoundsException") (E := "java/lang/IndexOutOfBoundsException") hown [] ⟨0, 9, 12, 13⟩ [] (htb.trans rfl) ((fun _ h => nomatch h)) (by decide) (by decide) (hts (.classLink RL 13 "java/lang/IndexOutOfBoundsException") (by decide +kernel)) (va_Nw.use rfl (hZ.2.2.1 "java/lang/IndexOutOfBoundsException" (by decide))) hce hcv hcl ?_
      refine W.eq (g2 := F0 m 12 ls [.ref q9]) rfl ?_
      refine W.widen (k := 1) (n := 6) (by omega) (by omega) ?_
      refine lv_astore_n (lv' := [(3, .ref q9), (0, .ref Ad0), (1, .int Va0), (2, .ref Ad4)]) hx hb dL_lost_12 rfl hl (by decide) rfl (fun ls hl => ?_)
      refine lv_iconst (v := 1) hx hb dL_lost_13 (by decide) ?_
      have hP9 := hP.sub (ws' := [(Ad4, .inl (Ka2, 1, .inr (.inl Fa2)))]) [0] rfl
      have hD9 := hD.sub (ws' := [(Ad4, .inl (Ka2, 1, .inr (.inl Fa2)))]) [0] (by decide) rfl
      have hK9 := hK.sub (tys' := [(Ka2, .long)]) [0] rfl
      refine vx_ret ?_
      refine W.widen (k := 1) (n := 6) (by decide) (by decide) ?_
      exact W.iret (v := 1) hx hb hr (fun t ht hW => ⟨⟨1, Fa2, rfl, (Or.inl ⟨c102, rfl⟩), by rw [ht]; exact hP9, va_K.moved hW.alike hK9, hD9⟩, hS.F ht⟩) hS.2.2 dL_lost_14
    · skip
      obtain ⟨hP, hD⟩ := va_join (wr := [(Ad4, .inl (Ka2, 1, .inr (.inl Fa2)))]) (w1 := []) hP hD [0, 1, 2, 3] [4] rfl rfl (by decide) (by decide) hk1 hFc P0 D0
      have hK := hK.sub (tys' := [(Ka2, .long)]) [2] rfl
      generalize H1 = H at hP hS hce ⊢
      have hP : va_P (dC, dI) vwCl [(Ad4, .inl (Ka2, 1, .inr (.inl Fa2)))] H := hP
      have hD : va_D A [(Ad4, .inl (Ka2, 1, .inr (.inl Fa2)))] := hD
      refine vx_catch (own := RL) (name := "java/lang/IndexOutOfBoundsException") (E := "java/lang/IndexOutOfBoundsException") hown [] ⟨0, 9, 12, 13⟩ [] (htb.trans rfl) ((fun _ h => nomatch h)) (by decide) (by decide) (hts (.classLink RL 13 "java/lang/IndexOutOfBoundsException") (by decide +kernel)) (va_Nw.use rfl (hZ.2.2.1 "java/lang/IndexOutOfBoundsException" (by decide))) hce hcv hcl ?_
      refine W.eq (g2 := F0 m 12 ls [.ref q9]) rfl ?_
      refine W.widen (k := 1) (n := 6) (by omega) (by omega) ?_
      refine lv_astore_n (lv' := [(3, .ref q9), (0, .ref Ad0), (1, .int Va0), (2, .ref Ad4)]) hx hb dL_lost_12 rfl hl (by decide) rfl (fun ls hl => ?_)
      refine lv_iconst (v := 1) hx hb dL_lost_13 (by decide) ?_
      have hP9 := hP.sub (ws' := [(Ad4, .inl (Ka2, 1, .inr (.inl Fa2)))]) [0] rfl
      have hD9 := hD.sub (ws' := [(Ad4, .inl (Ka2, 1, .inr (.inl Fa2)))]) [0] (by decide) rfl
      have hK9 := hK.sub (tys' := [(Ka2, .long)]) [0] rfl
      refine vx_ret ?_
      refine W.widen (k := 1) (n := 6) (by decide) (by decide) ?_
      exact W.iret (v := 1) hx hb hr (fun t ht hW => ⟨⟨1, Fa2, rfl, (Or.inr (Or.inl ⟨c103, c104, rfl⟩)), by rw [ht]; exact hP9, va_K.moved hW.alike hK9, hD9⟩, hS.F ht⟩) hS.2.2 dL_lost_14
  · skip
    obtain ⟨s105, rfl⟩ : ∃ z, z = u := ⟨_, rfl⟩
    obtain ⟨hP1, hK1, hD1⟩ := hB
    rw [ht] at hP1
    try dsimp only at hw
    obtain ⟨hP, hD⟩ := va_join (wr := [(Ad4, .inl (Ka2, 1, .inr (.inl Fa2)))]) (w1 := [(Ad0, .inr (14, Fs0)), (Ad1, .inl (Ka0, 4, .inr (.inr (.inr (.inr Fa0))))), (Ad2, .inr (8, s105)), (Ad3, .inl (Ka1, 400, .inl Fa1))]) hP hD [0, 1, 2, 3] [4] rfl rfl (by decide) (by decide) hk1 hFc hP1 hD1
    have hK := hK.sub (tys' := [(Ka2, .long), (Ka0, .object "HeapWorks$Picture"), (Ka1, .int)]) [2, 0, 1] rfl
    generalize H1 = H at hP hS ⊢
    refine W.widen (k := 1) (n := 6) (by omega) (by omega) ?_
    have hP : va_P (dC, dI) vwCl [(Ad4, .inl (Ka2, 1, .inr (.inl Fa2))), (Ad0, .inr (14, Fs0)), (Ad1, .inl (Ka0, 4, .inr (.inr (.inr (.inr Fa0))))), (Ad2, .inr (8, s105)), (Ad3, .inl (Ka1, 400, .inl Fa1))] H := hP
    have hD : va_D A [(Ad4, .inl (Ka2, 1, .inr (.inl Fa2))), (Ad0, .inr (14, Fs0)), (Ad1, .inl (Ka0, 4, .inr (.inr (.inr (.inr Fa0))))), (Ad2, .inr (8, s105)), (Ad3, .inl (Ka1, 400, .inl Fa1))] := hD
    obtain ⟨c106, c107, er108, o_s105⟩ := hw
    subst er108
    have o_s105 := ow_on o_Fs1 o_s105 (l' := [(16, .int 0), (0, .int 0), (11, .int 0), (17, .ref Ad3), (0, .int 0), (11, .int 0), (17, .ref Ad3), (0, .int 0), (11, .int 0), (17, .ref Ad3)]) (w' := [16]) rfl rfl
    refine lv_i2l hx hb dL_lost_7 rfl ?_
    refine lv_topl (fun x109 ex109 => ?_)
    obtain rfl : x109 = 0 := ex109.trans (by decide)
    refine va_last hx hb hK hP hD hS 0 0 rfl rfl (show vp_in 0 1 from by unfold vp_in; decide) dL_lost_8 (fun H locs hP hD hS => ?_)
    have hP : va_P (dC, dI) vwCl [(Ad4, .inl (Ka2, 1, .inr (.inl (vp_updL Fa2 (0 : Int32).toNatClampNeg 0)))), (Ad0, .inr (14, Fs0)), (Ad1, .inl (Ka0, 4, .inr (.inr (.inr (.inr Fa0))))), (Ad2, .inr (8, s105)), (Ad3, .inl (Ka1, 400, .inl Fa1))] H := hP
    have hD : va_D A [(Ad4, .inl (Ka2, 1, .inr (.inl (vp_updL Fa2 (0 : Int32).toNatClampNeg 0)))), (Ad0, .inr (14, Fs0)), (Ad1, .inl (Ka0, 4, .inr (.inr (.inr (.inr Fa0))))), (Ad2, .inr (8, s105)), (Ad3, .inl (Ka1, 400, .inl Fa1))] := hD
    have q111 : (vp_updL Fa2 (0 : Int32).toNatClampNeg 0) (0 : Int32).toNatClampNeg = 0 := pk_uLs
    generalize vp_updL Fa2 (0 : Int32).toNatClampNeg 0 = f110 at hP hD q111
    refine lv_goto (tgt := 15) hx hb dL_lost_9 (by decide) ?_
    refine lv_iconst (v := 0) hx hb dL_lost_15 (by decide) ?_
    have hP9 := hP.sub (ws' := [(Ad4, .inl (Ka2, 1, .inr (.inl f110)))]) [0] rfl
    have hD9 := hD.sub (ws' := [(Ad4, .inl (Ka2, 1, .inr (.inl f110)))]) [0] (by decide) rfl
    have hK9 := hK.sub (tys' := [(Ka2, .long)]) [0] rfl
    refine vx_ret ?_
    refine W.widen (k := 1) (n := 6) (by decide) (by decide) ?_
    exact W.iret (v := 0) hx hb hr (fun t ht hW => ⟨⟨0, f110, rfl, (Or.inr (Or.inr (⟨c106, c107, rfl, q111⟩))), by rw [ht]; exact hP9, va_K.moved hW.alike hK9, hD9⟩, hS.F ht⟩) hS.2.2 dL_lost_16

def l_z_L_growth : List Cond := [.methodLink RL 84 yX11_growth, .instanceMethod yX11_growth, .selects RX11 yX11_growth yX11_growth, .initialized RX11, .classLink RL 13 "java/lang/IndexOutOfBoundsException", .code yX11_growth cX11_growth 4 (some .int), .methodLink RX11 353 yX11_needPicture, .static yX11_needPicture, .classLink RX11 120 "java/lang/IndexOutOfBoundsException", .initialized "java/lang/IndexOutOfBoundsException", .fieldLink RX11 41 "HeapWorks" "pictures" "[LHeapWorks$Picture;", .fieldLink RX11 95 "HeapWorks" "grownThings" "[I", .methodLink RX11 457 yX5_listChanged, .instanceMethod yX5_listChanged, .selects RX5 yX5_listChanged yX5_listChanged, .initialized RX5, .fieldLink RX11 454 "HeapWorks" "grownCount" "I", .methodLink RX11 450 yX5_listMissing, .instanceMethod yX5_listMissing, .selects RX5 yX5_listMissing yX5_listMissing, .code yX11_needPicture cX11_needPicture 1 none, .methodLink RX11 411 yX11_isPicture, .static yX11_isPicture, .code yX11_isPicture cX11_isPicture 1 (some .boolean), .code yX5_listChanged cX5_listChanged 6 (some .int), .fieldLink RX5 82 "HeapWorks$Picture" "things" "I", .code yX5_listMissing cX5_listMissing 5 (some .int)]
def w_z_L_growth : List Cond := .codeWith yL_growth cL_growth 6 (some .int) [(0, 12, 15, 13)] :: (l_z_L_growth ++ ((((vx_at0 RX11 122 "java/lang/IndexOutOfBoundsException" ["java/lang/RuntimeException", "java/lang/Exception"]).filter goodWord) ++ (wsX110 ++ wsX50))))
theorem in_z_L_growth_at0_X11_122 : ∀ w ∈ ((vx_at0 RX11 122 "java/lang/IndexOutOfBoundsException" ["java/lang/RuntimeException", "java/lang/Exception"]).filter goodWord), w ∈ w_z_L_growth := fun w h => List.mem_cons_of_mem _ (List.mem_append_right _ (List.mem_append_left _ h))
theorem in_z_L_growth_X11 : ∀ w ∈ wsX110, w ∈ w_z_L_growth := fun w h => List.mem_cons_of_mem _ (List.mem_append_right _ (List.mem_append_right _ (List.mem_append_left _ h)))
theorem in_z_L_growth_X5 : ∀ w ∈ wsX50, w ∈ w_z_L_growth := fun w h => List.mem_cons_of_mem _ (List.mem_append_right _ (List.mem_append_right _ (List.mem_append_right _ (h))))
theorem g_z_L_growth_z_X11_growth_84 : GoodIn w_z_L_growth (wsV RL 84 RX11 yX11_growth w_z_X11_growth) := goodIn_app (goodIn_r (([.methodLink RL 84 yX11_growth, .instanceMethod yX11_growth, .selects RX11 yX11_growth yX11_growth, .initialized RX11] : List Cond)) [1, 2, 3, 4] rfl (by decide +kernel)) (goodIn_ca (goodIn_r (.code yX11_growth cX11_growth 4 (some .int) :: l_z_X11_growth) [6, 7, 8, 4, 9, 10, 11, 12, 13, 14, 15, 16, 17, 18, 19, 20, 21, 22, 23, 24, 25, 26, 27] rfl (by decide +kernel)) (goodIn_app (goodIn_in (in_z_L_growth_at0_X11_122) gd_at0_X11_122) (goodIn_app (goodIn_in (in_z_L_growth_X11) gd_X11) (goodIn_in (in_z_L_growth_X5) gd_X5))))
set_option maxHeartbeats 4000000 in
set_option maxRecDepth 100000 in
theorem z_L_growth (l : Launch) (dC : Nat → ClassId) (dI : Nat → Nat → Nat) (sz : Nat) (Ad0 : Nat) (Fs0 : List Value) (Ad1 : Nat) (Fa0 : Nat → Option Nat) (Ka0 : ClassId) (Ad2 : Nat) (Fs1 : List Value) (Ad3 : Nat) (Fs2 : List Value) (Ad4 : Nat) (Fa1 : Nat → Int64) (Ka1 : ClassId) (Va0 : Int32) (Va1 : Int32) (Va2 : Int32) (Br0 : Nat) (k_Fs0 : fh Fs0 18 [(4, .ref Ad1), (15, .int 0), (14, .ref Br0)]) (k_Fs1 : fh Fs1 21 [(0, .int 0)]) (k_Fs2 : fh Fs2 21 [(0, .int 0)]) (hst : l.stackTraces = false) (hg0 : Fa0 Va1.toNatClampNeg = some Ad3) (hg1 : Fa0 Va0.toNatClampNeg = some Ad2) : vx_Met l yL_growth w_z_L_growth ({ frames := 9, cells := 3, slots := 18, locals := 183 }) (va_Pc [.ref Ad0, .int Va0, .int Va1, .int Va2, .ref Ad4] (fun U => U.heap.size = sz ∧ Zz (va_A [(Ad0, .inr (14, Fs0)), (Ad1, .inl (Ka0, 4, .inr (.inr (.inr (.inr Fa0))))), (Ad2, .inr (8, Fs1)), (Ad3, .inr (8, Fs2)), (Ad4, .inl (Ka1, 1, .inr (.inl Fa1)))] sz) U ∧ Yy U ∧ Wd dC dI [(Ka0, .object "HeapWorks$Picture"), (Ka1, .long)] (fun _ => True) [(Ad0, .inr (14, Fs0)), (Ad1, .inl (Ka0, 4, .inr (.inr (.inr (.inr Fa0))))), (Ad2, .inr (8, Fs1)), (Ad3, .inr (8, Fs2)), (Ad4, .inl (Ka1, 1, .inr (.inl Fa1)))] U)) (va_Qi (fun (r : Int32) (u : (Nat → Int64)) => (Va0 < 0 ∧ r = 1) ∨ (¬ Va0 < 0 ∧ 4 ≤ Va0 ∧ r = 1) ∨ (¬ Va0 < 0 ∧ ¬ 4 ≤ Va0 ∧ Va1 < 0 ∧ r = 1) ∨ (¬ Va0 < 0 ∧ ¬ 4 ≤ Va0 ∧ ¬ Va1 < 0 ∧ 4 ≤ Va1 ∧ r = 1) ∨ (¬ Va0 < 0 ∧ ¬ 4 ≤ Va0 ∧ ¬ Va1 < 0 ∧ ¬ 4 ≤ Va1 ∧ Va2 < 0 ∧ r = 1) ∨ (¬ Va0 < 0 ∧ ¬ 4 ≤ Va0 ∧ ¬ Va1 < 0 ∧ ¬ 4 ≤ Va1 ∧ ¬ Va2 < 0 ∧ ¬ Va2 ≤ 2 ∧ r = 1) ∨ (¬ Va0 < 0 ∧ ¬ 4 ≤ Va0 ∧ ¬ Va1 < 0 ∧ ¬ 4 ≤ Va1 ∧ ¬ Va2 < 0 ∧ Va2 ≤ 2 ∧ ¬ Va2 = 0 ∧ ¬ Va2 = 1 ∧ r = 0 ∧ (u) (0 : Int32).toNatClampNeg = 0) ∨ (¬ Va0 < 0 ∧ ¬ 4 ≤ Va0 ∧ ¬ Va1 < 0 ∧ ¬ 4 ≤ Va1 ∧ ¬ Va2 < 0 ∧ Va2 ≤ 2 ∧ ¬ Va2 = 0 ∧ Va2 = 1 ∧ r = 0 ∧ (u) (0 : Int32).toNatClampNeg = 0) ∨ (¬ Va0 < 0 ∧ ¬ 4 ≤ Va0 ∧ ¬ Va1 < 0 ∧ ¬ 4 ≤ Va1 ∧ ¬ Va2 < 0 ∧ Va2 ≤ 2 ∧ Va2 = 0 ∧ r = 0 ∧ (u) (0 : Int32).toNatClampNeg = 0)) (fun (u : (Nat → Int64)) t => Wd dC dI [(Ka1, .long)] (va_A [(Ad0, .inr (14, Fs0)), (Ad1, .inl (Ka0, 4, .inr (.inr (.inr (.inr Fa0))))), (Ad2, .inr (8, Fs1)), (Ad3, .inr (8, Fs2)), (Ad4, .inl (Ka1, 1, .inr (.inl Fa1)))] sz) [(Ad4, .inl (Ka1, 1, .inr (.inl ((u)))))] t) (va_A [(Ad0, .inr (14, Fs0)), (Ad1, .inl (Ka0, 4, .inr (.inr (.inr (.inr Fa0))))), (Ad2, .inr (8, Fs1)), (Ad3, .inr (8, Fs2)), (Ad4, .inl (Ka1, 1, .inr (.inl Fa1)))] sz)) (vx_X (fun _ : Unit => True) (fun E _ _ => False) (va_A [(Ad0, .inr (14, Fs0)), (Ad1, .inl (Ka0, 4, .inr (.inr (.inr (.inr Fa0))))), (Ad2, .inr (8, Fs1)), (Ad3, .inr (8, Fs2)), (Ad4, .inl (Ka1, 1, .inr (.inl Fa1)))] sz)) 3 18 (va_A [(Ad0, .inr (14, Fs0)), (Ad1, .inl (Ka0, 4, .inr (.inr (.inr (.inr Fa0))))), (Ad2, .inr (8, Fs1)), (Ad3, .inr (8, Fs2)), (Ad4, .inl (Ka1, 1, .inr (.inl Fa1)))] sz) := by
  refine vx_ofWH (cc := cL_growth) (maxL := 6) (ret := (some .int)) (by decide) rfl ?_
  intro p e s m args below meth c s₁ B hml hv
  obtain ⟨rfl, hsz, hZ, hY, hP, hK, hD0⟩ := hv
  have hx := B.exec
  have hb := B.bytes
  have hr := B.returns
  have hts := atoms_spec (ws := w_z_L_growth) B.pre
  have hown : s.vm.findClass RL = some m.cls := findClass_of_methodNamed B.named
  have hlocks := B.notSynchronized
  have htb := vx_table (x := yL_growth) B (hts (.codeWith yL_growth cL_growth 6 (some .int) [(0, 12, 15, 13)]) (by decide +kernel))
  subst hsz
  have hD := hD0.self (sz := s.heap.size)
  generalize hAe : va_A [(Ad0, .inr (14, Fs0)), (Ad1, .inl (Ka0, 4, .inr (.inr (.inr (.inr Fa0))))), (Ad2, .inr (8, Fs1)), (Ad3, .inr (8, Fs2)), (Ad4, .inl (Ka1, 1, .inr (.inl Fa1)))] s.heap.size = A at hD hZ ⊢
  have hA : ∀ q : Nat, s.heap.size ≤ q → A q := fun q h => by rw [← hAe]; exact Or.inr h
  have hS : va_S A s.heap s.heap [] := va_S.rf
  have hl := lv_entry ([.ref Ad0, .int Va0, .int Va1, .int Va2, .ref Ad4]) (n := 6) (Nat.le_of_ble_eq_true rfl)
  rw [lg_entry_eq]
  generalize (lg_sl ([.ref Ad0, .int Va0, .int Va1, .int Va2, .ref Ad4]) ++ List.replicate (6 - (lg_sl ([.ref Ad0, .int Va0, .int Va1, .int Va2, .ref Ad4])).length) Slot.unset).toArray = ls at hl ⊢
  have hl : lv_has ls 6 [(0, .ref Ad0), (1, .int Va0), (2, .int Va1), (3, .int Va2), (4, .ref Ad4)] := hl
  have o_Fs0 := ow_0 k_Fs0
  have o_Fs1 := ow_0 k_Fs1
  have o_Fs2 := ow_0 k_Fs2
  refine lv_aload hx hb dL_growth_0 (lv_at hl 4 rfl) ?_
  refine lv_iconst (v := 0) hx hb dL_growth_2 (by decide) ?_
  refine lv_aload_n hx hb dL_growth_3 rfl (lv_at hl 0 rfl) ?_
  refine lv_iload_n hx hb dL_growth_4 rfl (lv_at hl 1 rfl) ?_
  refine lv_iload_n hx hb dL_growth_5 rfl (lv_at hl 2 rfl) ?_
  refine lv_iload_n hx hb dL_growth_6 rfl (lv_at hl 3 rfl) ?_
  have hPc := hP.sub (ws' := [(Ad0, .inr (14, Fs0)), (Ad1, .inl (Ka0, 4, .inr (.inr (.inr (.inr Fa0))))), (Ad2, .inr (8, Fs1)), (Ad3, .inr (8, Fs2))]) [0, 1, 2, 3] rfl
  have hDc := hD.sub (ws' := [(Ad0, .inr (14, Fs0)), (Ad1, .inl (Ka0, 4, .inr (.inr (.inr (.inr Fa0))))), (Ad2, .inr (8, Fs1)), (Ad3, .inr (8, Fs2))]) [0, 1, 2, 3] (by decide) rfl
  have hKc := hK.sub (tys' := [(Ka0, .object "HeapWorks$Picture")]) [0] rfl
  have hFc := va_free (wc := [(Ad0, .inr (14, Fs0)), (Ad1, .inl (Ka0, 4, .inr (.inr (.inr (.inr Fa0))))), (Ad2, .inr (8, Fs1)), (Ad3, .inr (8, Fs2))]) hD hS hA [0, 1, 2, 3] rfl
  refine vx_calli (vx_runV (As := [.int Va0, .int Va1, .int Va2]) (rest := [.int 0, .ref Ad4]) ⟨hx, hb, hml, hown, hts⟩ (z_X11_growth l dC dI s.heap.size Ad0 Fs0 Ad1 Fa0 Ka0 Ad2 Fs1 Ad3 Fs2 Va0 Va1 Va2 Br0 (fh_sub o_Fs0.2 [0, 1, 2] rfl) (fh_sub o_Fs1.2 [0] rfl) (fh_sub o_Fs2.2 [0] rfl) hst hg0 hg1) (cwV 3 hts g_z_L_growth_z_X11_growth_84 rfl rfl rfl (by decide +kernel) ⟨Nat.le_of_ble_eq_true rfl, Nat.le_of_ble_eq_true rfl⟩) ⟨fun a U g mk q => by obtain ⟨q0, q1, qZ, qP, qK, qD⟩ := q; exact ⟨q0, q1, Zz_call qZ, qP, va_K.moved (u := U) (U := U.calling g mk a) (Vm.Alike.refl U.vm) qK, qD⟩, va_recv hK hP (ci := 14) (q0 := 0) rfl rfl, fun U hU hW => ⟨rfl, by rw [hU], Zz_go hZ hS hFc hU hW, by rw [hU]; exact hPc, va_K.moved hW.alike hKc, hDc.weaken (fun _ _ _ _ => trivial)⟩⟩ rfl rfl hl.1 rfl (lv_room (Nat.le_of_ble_eq_true rfl)) dL_growth_7 ⟨Nat.le_of_ble_eq_true rfl, Nat.le_of_ble_eq_true rfl⟩) hS (fun q _ h => hFc q h) hFc (fun q _ h => hFc q h) (fun E ce q9 u t H1 locs ht hvm hpx hBX hz1 hk1 hS hce hcv hcl => ?_) (fun r101 u t H1 locs ht hvm hw hB hz1 hk1 hS => ?_)
  · rcases hBX with ⟨rfl, c102⟩ | ⟨rfl, c103, c104⟩ | ⟨rfl, c105, c106, c107⟩ | ⟨rfl, c108, c109, c110, c111⟩ | ⟨rfl, c112, c113, c114, c115, c116⟩ | ⟨rfl, c117, c118, c119, c120, c121, c122⟩
    · skip
      obtain ⟨hP, hD⟩ := va_join (wr := [(Ad4, .inl (Ka1, 1, .inr (.inl Fa1)))]) (w1 := []) hP hD [0, 1, 2, 3] [4] rfl rfl (by decide) (by decide) hk1 hFc P0 D0
      have hK := hK.sub (tys' := [(Ka1, .long)]) [1] rfl
      generalize H1 = H at hP hS hce ⊢
      have hP : va_P (dC, dI) vwCl [(Ad4, .inl (Ka1, 1, .inr (.inl Fa1)))] H := hP
      have hD : va_D A [(Ad4, .inl (Ka1, 1, .inr (.inl Fa1)))] := hD
      refine vx_catch (own := RL) (name := "java/lang/IndexOutOfBoundsException") (E := "java/lang/IndexOutOfBoundsException") hown [] ⟨0, 12, 15, 13⟩ [] (htb.trans rfl) ((fun _ h => nomatch h)) (by decide) (by decide) (hts (.classLink RL 13 "java/lang/IndexOutOfBoundsException") (by decide +kernel)) (va_Nw.use rfl (hZ.2.2.1 "java/lang/IndexOutOfBoundsException" (by decide))) hce hcv hcl ?_
      refine W.eq (g2 := F0 m 15 ls [.ref q9]) rfl ?_
      refine W.widen (k := 3) (n := 18) (by omega) (by omega) ?_
      refine lv_astore (lv' := [(5, .ref q9), (0, .ref Ad0), (1, .int Va0), (2, .int Va1), (3, .int Va2), (4, .ref Ad4)]) hx hb dL_growth_15 hl (by decide) rfl (fun ls hl => ?_)
      refine lv_iconst (v := 1) hx hb dL_growth_17 (by decide) ?_
      have hP9 := hP.sub (ws' := [(Ad4, .inl (Ka1, 1, .inr (.inl Fa1)))]) [0] rfl
      have hD9 := hD.sub (ws' := [(Ad4, .inl (Ka1, 1, .inr (.inl Fa1)))]) [0] (by decide) rfl
      have hK9 := hK.sub (tys' := [(Ka1, .long)]) [0] rfl
      refine vx_ret ?_
      refine W.widen (k := 3) (n := 18) (by decide) (by decide) ?_
      exact W.iret (v := 1) hx hb hr (fun t ht hW => ⟨⟨1, Fa1, rfl, (Or.inl ⟨c102, rfl⟩), by rw [ht]; exact hP9, va_K.moved hW.alike hK9, hD9⟩, hS.F ht⟩) hS.2.2 dL_growth_18
    · skip
      obtain ⟨hP, hD⟩ := va_join (wr := [(Ad4, .inl (Ka1, 1, .inr (.inl Fa1)))]) (w1 := []) hP hD [0, 1, 2, 3] [4] rfl rfl (by decide) (by decide) hk1 hFc P0 D0
      have hK := hK.sub (tys' := [(Ka1, .long)]) [1] rfl
      generalize H1 = H at hP hS hce ⊢
      have hP : va_P (dC, dI) vwCl [(Ad4, .inl (Ka1, 1, .inr (.inl Fa1)))] H := hP
      have hD : va_D A [(Ad4, .inl (Ka1, 1, .inr (.inl Fa1)))] := hD
      refine vx_catch (own := RL) (name := "java/lang/IndexOutOfBoundsException") (E := "java/lang/IndexOutOfBoundsException") hown [] ⟨0, 12, 15, 13⟩ [] (htb.trans rfl) ((fun _ h => nomatch h)) (by decide) (by decide) (hts (.classLink RL 13 "java/lang/IndexOutOfBoundsException") (by decide +kernel)) (va_Nw.use rfl (hZ.2.2.1 "java/lang/IndexOutOfBoundsException" (by decide))) hce hcv hcl ?_
      refine W.eq (g2 := F0 m 15 ls [.ref q9]) rfl ?_
      refine W.widen (k := 3) (n := 18) (by omega) (by omega) ?_
      refine lv_astore (lv' := [(5, .ref q9), (0, .ref Ad0), (1, .int Va0), (2, .int Va1), (3, .int Va2), (4, .ref Ad4)]) hx hb dL_growth_15 hl (by decide) rfl (fun ls hl => ?_)
      refine lv_iconst (v := 1) hx hb dL_growth_17 (by decide) ?_
      have hP9 := hP.sub (ws' := [(Ad4, .inl (Ka1, 1, .inr (.inl Fa1)))]) [0] rfl
      have hD9 := hD.sub (ws' := [(Ad4, .inl (Ka1, 1, .inr (.inl Fa1)))]) [0] (by decide) rfl
      have hK9 := hK.sub (tys' := [(Ka1, .long)]) [0] rfl
      refine vx_ret ?_
      refine W.widen (k := 3) (n := 18) (by decide) (by decide) ?_
      exact W.iret (v := 1) hx hb hr (fun t ht hW => ⟨⟨1, Fa1, rfl, (Or.inr (Or.inl ⟨c103, c104, rfl⟩)), by rw [ht]; exact hP9, va_K.moved hW.alike hK9, hD9⟩, hS.F ht⟩) hS.2.2 dL_growth_18
    · skip
      obtain ⟨hP, hD⟩ := va_join (wr := [(Ad4, .inl (Ka1, 1, .inr (.inl Fa1)))]) (w1 := []) hP hD [0, 1, 2, 3] [4] rfl rfl (by decide) (by decide) hk1 hFc P0 D0
      have hK := hK.sub (tys' := [(Ka1, .long)]) [1] rfl
      generalize H1 = H at hP hS hce ⊢
      have hP : va_P (dC, dI) vwCl [(Ad4, .inl (Ka1, 1, .inr (.inl Fa1)))] H := hP
      have hD : va_D A [(Ad4, .inl (Ka1, 1, .inr (.inl Fa1)))] := hD
      refine vx_catch (own := RL) (name := "java/lang/IndexOutOfBoundsException") (E := "java/lang/IndexOutOfBoundsException") hown [] ⟨0, 12, 15, 13⟩ [] (htb.trans rfl) ((fun _ h => nomatch h)) (by decide) (by decide) (hts (.classLink RL 13 "java/lang/IndexOutOfBoundsException") (by decide +kernel)) (va_Nw.use rfl (hZ.2.2.1 "java/lang/IndexOutOfBoundsException" (by decide))) hce hcv hcl ?_
      refine W.eq (g2 := F0 m 15 ls [.ref q9]) rfl ?_
      refine W.widen (k := 3) (n := 18) (by omega) (by omega) ?_
      refine lv_astore (lv' := [(5, .ref q9), (0, .ref Ad0), (1, .int Va0), (2, .int Va1), (3, .int Va2), (4, .ref Ad4)]) hx hb dL_growth_15 hl (by decide) rfl (fun ls hl => ?_)
      refine lv_iconst (v := 1) hx hb dL_growth_17 (by decide) ?_
      have hP9 := hP.sub (ws' := [(Ad4, .inl (Ka1, 1, .inr (.inl Fa1)))]) [0] rfl
      have hD9 := hD.sub (ws' := [(Ad4, .inl (Ka1, 1, .inr (.inl Fa1)))]) [0] (by decide) rfl
      have hK9 := hK.sub (tys' := [(Ka1, .long)]) [0] rfl
      refine vx_ret ?_
      refine W.widen (k := 3) (n := 18) (by decide) (by decide) ?_
      exact W.iret (v := 1) hx hb hr (fun t ht hW => ⟨⟨1, Fa1, rfl, (Or.inr (Or.inr (Or.inl ⟨c105, c106, c107, rfl⟩))), by rw [ht]; exact hP9, va_K.moved hW.alike hK9, hD9⟩, hS.F ht⟩) hS.2.2 dL_growth_18
    · skip
      obtain ⟨hP, hD⟩ := va_join (wr := [(Ad4, .inl (Ka1, 1, .inr (.inl Fa1)))]) (w1 := []) hP hD [0, 1, 2, 3] [4] rfl rfl (by decide) (by decide) hk1 hFc P0 D0
      have hK := hK.sub (tys' := [(Ka1, .long)]) [1] rfl
      generalize H1 = H at hP hS hce ⊢
      have hP : va_P (dC, dI) vwCl [(Ad4, .inl (Ka1, 1, .inr (.inl Fa1)))] H := hP
      have hD : va_D A [(Ad4, .inl (Ka1, 1, .inr (.inl Fa1)))] := hD
      refine vx_catch (own := RL) (name := "java/lang/IndexOutOfBoundsException") (E := "java/lang/IndexOutOfBoundsException") hown [] ⟨0, 12, 15, 13⟩ [] (htb.trans rfl) ((fun _ h => nomatch h)) (by decide) (by decide) (hts (.classLink RL 13 "java/lang/IndexOutOfBoundsException") (by decide +kernel)) (va_Nw.use rfl (hZ.2.2.1 "java/lang/IndexOutOfBoundsException" (by decide))) hce hcv hcl ?_
      refine W.eq (g2 := F0 m 15 ls [.ref q9]) rfl ?_
      refine W.widen (k := 3) (n := 18) (by omega) (by omega) ?_
      refine lv_astore (lv' := [(5, .ref q9), (0, .ref Ad0), (1, .int Va0), (2, .int Va1), (3, .int Va2), (4, .ref Ad4)]) hx hb dL_growth_15 hl (by decide) rfl (fun ls hl => ?_)
      refine lv_iconst (v := 1) hx hb dL_growth_17 (by decide) ?_
      have hP9 := hP.sub (ws' := [(Ad4, .inl (Ka1, 1, .inr (.inl Fa1)))]) [0] rfl
      have hD9 := hD.sub (ws' := [(Ad4, .inl (Ka1, 1, .inr (.inl Fa1)))]) [0] (by decide) rfl
      have hK9 := hK.sub (tys' := [(Ka1, .long)]) [0] rfl
      refine vx_ret ?_
      refine W.widen (k := 3) (n := 18) (by decide) (by decide) ?_
      exact W.iret (v := 1) hx hb hr (fun t ht hW => ⟨⟨1, Fa1, rfl, (Or.inr (Or.inr (Or.inr (Or.inl ⟨c108, c109, c110, c111, rfl⟩)))), by rw [ht]; exact hP9, va_K.moved hW.alike hK9, hD9⟩, hS.F ht⟩) hS.2.2 dL_growth_18
    · skip
      obtain ⟨hP, hD⟩ := va_join (wr := [(Ad4, .inl (Ka1, 1, .inr (.inl Fa1)))]) (w1 := []) hP hD [0, 1, 2, 3] [4] rfl rfl (by decide) (by decide) hk1 hFc P0 D0
      have hK := hK.sub (tys' := [(Ka1, .long)]) [1] rfl
      generalize H1 = H at hP hS hce ⊢
      have hP : va_P (dC, dI) vwCl [(Ad4, .inl (Ka1, 1, .inr (.inl Fa1)))] H := hP
      have hD : va_D A [(Ad4, .inl (Ka1, 1, .inr (.inl Fa1)))] := hD
      refine vx_catch (own := RL) (name := "java/lang/IndexOutOfBoundsException") (E := "java/lang/IndexOutOfBoundsException") hown [] ⟨0, 12, 15, 13⟩ [] (htb.trans rfl) ((fun _ h => nomatch h)) (by decide) (by decide) (hts (.classLink RL 13 "java/lang/IndexOutOfBoundsException") (by decide +kernel)) (va_Nw.use rfl (hZ.2.2.1 "java/lang/IndexOutOfBoundsException" (by decide))) hce hcv hcl ?_
      refine W.eq (g2 := F0 m 15 ls [.ref q9]) rfl ?_
      refine W.widen (k := 3) (n := 18) (by omega) (by omega) ?_
      refine lv_astore (lv' := [(5, .ref q9), (0, .ref Ad0), (1, .int Va0), (2, .int Va1), (3, .int Va2), (4, .ref Ad4)]) hx hb dL_growth_15 hl (by decide) rfl (fun ls hl => ?_)
      refine lv_iconst (v := 1) hx hb dL_growth_17 (by decide) ?_
      have hP9 := hP.sub (ws' := [(Ad4, .inl (Ka1, 1, .inr (.inl Fa1)))]) [0] rfl
      have hD9 := hD.sub (ws' := [(Ad4, .inl (Ka1, 1, .inr (.inl Fa1)))]) [0] (by decide) rfl
      have hK9 := hK.sub (tys' := [(Ka1, .long)]) [0] rfl
      refine vx_ret ?_
      refine W.widen (k := 3) (n := 18) (by decide) (by decide) ?_
      exact W.iret (v := 1) hx hb hr (fun t ht hW => ⟨⟨1, Fa1, rfl, (Or.inr (Or.inr (Or.inr (Or.inr (Or.inl ⟨c112, c113, c114, c115, c116, rfl⟩))))), by rw [ht]; exact hP9, va_K.moved hW.alike hK9, hD9⟩, hS.F ht⟩) hS.2.2 dL_growth_18
    · skip
      obtain ⟨hP, hD⟩ := va_join (wr := [(Ad4, .inl (Ka1, 1, .inr (.inl Fa1)))]) (w1 := []) hP hD [0, 1, 2, 3] [4] rfl rfl (by decide) (by decide) hk1 hFc P0 D0
      have hK := hK.sub (tys' := [(Ka1, .long)]) [1] rfl
      generalize H1 = H at hP hS hce ⊢
      have hP : va_P (dC, dI) vwCl [(Ad4, .inl (Ka1, 1, .inr (.inl Fa1)))] H := hP
      have hD : va_D A [(Ad4, .inl (Ka1, 1, .inr (.inl Fa1)))] := hD
      refine vx_catch (own := RL) (name := "java/lang/IndexOutOfBoundsException") (E := "java/lang/IndexOutOfBoundsException") hown [] ⟨0, 12, 15, 13⟩ [] (htb.trans rfl) ((fun _ h => nomatch h)) (by decide) (by decide) (hts (.classLink RL 13 "java/lang/IndexOutOfBoundsException") (by decide +kernel)) (va_Nw.use rfl (hZ.2.2.1 "java/lang/IndexOutOfBoundsException" (by decide))) hce hcv hcl ?_
      refine W.eq (g2 := F0 m 15 ls [.ref q9]) rfl ?_
      refine W.widen (k := 3) (n := 18) (by omega) (by omega) ?_
      refine lv_astore (lv' := [(5, .ref q9), (0, .ref Ad0), (1, .int Va0), (2, .int Va1), (3, .int Va2), (4, .ref Ad4)]) hx hb dL_growth_15 hl (by decide) rfl (fun ls hl => ?_)
      refine lv_iconst (v := 1) hx hb dL_growth_17 (by decide) ?_
      have hP9 := hP.sub (ws' := [(Ad4, .inl (Ka1, 1, .inr (.inl Fa1)))]) [0] rfl
      have hD9 := hD.sub (ws' := [(Ad4, .inl (Ka1, 1, .inr (.inl Fa1)))]) [0] (by decide) rfl
      have hK9 := hK.sub (tys' := [(Ka1, .long)]) [0] rfl
      refine vx_ret ?_
      refine W.widen (k := 3) (n := 18) (by decide) (by decide) ?_
      exact W.iret (v := 1) hx hb hr (fun t ht hW => ⟨⟨1, Fa1, rfl, (Or.inr (Or.inr (Or.inr (Or.inr (Or.inr (Or.inl ⟨c117, c118, c119, c120, c121, c122, rfl⟩)))))), by rw [ht]; exact hP9, va_K.moved hW.alike hK9, hD9⟩, hS.F ht⟩) hS.2.2 dL_growth_18
  · skip
    obtain ⟨s123, rfl⟩ : ∃ z, z = u := ⟨_, rfl⟩
    obtain ⟨hP1, hK1, hD1⟩ := hB
    rw [ht] at hP1
    try dsimp only at hw
    obtain ⟨hP, hD⟩ := va_join (wr := [(Ad4, .inl (Ka1, 1, .inr (.inl Fa1)))]) (w1 := [(Ad0, .inr (14, s123)), (Ad1, .inl (Ka0, 4, .inr (.inr (.inr (.inr Fa0))))), (Ad2, .inr (8, Fs1)), (Ad3, .inr (8, Fs2))]) hP hD [0, 1, 2, 3] [4] rfl rfl (by decide) (by decide) hk1 hFc hP1 hD1
    have hK := hK.sub (tys' := [(Ka1, .long), (Ka0, .object "HeapWorks$Picture")]) [1, 0] rfl
    generalize H1 = H at hP hS ⊢
    refine W.widen (k := 3) (n := 18) (by omega) (by omega) ?_
    have hP : va_P (dC, dI) vwCl [(Ad4, .inl (Ka1, 1, .inr (.inl Fa1))), (Ad0, .inr (14, s123)), (Ad1, .inl (Ka0, 4, .inr (.inr (.inr (.inr Fa0))))), (Ad2, .inr (8, Fs1)), (Ad3, .inr (8, Fs2))] H := hP
    have hD : va_D A [(Ad4, .inl (Ka1, 1, .inr (.inl Fa1))), (Ad0, .inr (14, s123)), (Ad1, .inl (Ka0, 4, .inr (.inr (.inr (.inr Fa0))))), (Ad2, .inr (8, Fs1)), (Ad3, .inr (8, Fs2))] := hD
    rcases hw with ⟨c124, c125, c126, c127, c128, c129, c130, c131, er132, o_s123⟩ | ⟨c133, c134, c135, c136, c137, c138, c139, c140, er141, o_s123⟩ | ⟨c142, c143, c144, c145, c146, c147, c148, er149, o_s123⟩
    · skip
      subst er132
      have o_s123 := ow_on o_Fs0 o_s123 (l' := [(15, .int 0), (4, .ref Ad1), (14, .ref Br0), (4, .ref Ad1), (14, .ref Br0)]) (w' := [15]) rfl rfl
      refine lv_i2l hx hb dL_growth_10 rfl ?_
      refine lv_topl (fun x150 ex150 => ?_)
      obtain rfl : x150 = 0 := ex150.trans (by decide)
      refine va_last hx hb hK hP hD hS 0 0 rfl rfl (show vp_in 0 1 from by unfold vp_in; decide) dL_growth_11 (fun H locs hP hD hS => ?_)
      have hP : va_P (dC, dI) vwCl [(Ad4, .inl (Ka1, 1, .inr (.inl (vp_updL Fa1 (0 : Int32).toNatClampNeg 0)))), (Ad0, .inr (14, s123)), (Ad1, .inl (Ka0, 4, .inr (.inr (.inr (.inr Fa0))))), (Ad2, .inr (8, Fs1)), (Ad3, .inr (8, Fs2))] H := hP
      have hD : va_D A [(Ad4, .inl (Ka1, 1, .inr (.inl (vp_updL Fa1 (0 : Int32).toNatClampNeg 0)))), (Ad0, .inr (14, s123)), (Ad1, .inl (Ka0, 4, .inr (.inr (.inr (.inr Fa0))))), (Ad2, .inr (8, Fs1)), (Ad3, .inr (8, Fs2))] := hD
      have q152 : (vp_updL Fa1 (0 : Int32).toNatClampNeg 0) (0 : Int32).toNatClampNeg = 0 := pk_uLs
      generalize vp_updL Fa1 (0 : Int32).toNatClampNeg 0 = f151 at hP hD q152
      refine lv_goto (tgt := 19) hx hb dL_growth_12 (by decide) ?_
      refine lv_iconst (v := 0) hx hb dL_growth_19 (by decide) ?_
      have hP9 := hP.sub (ws' := [(Ad4, .inl (Ka1, 1, .inr (.inl f151)))]) [0] rfl
      have hD9 := hD.sub (ws' := [(Ad4, .inl (Ka1, 1, .inr (.inl f151)))]) [0] (by decide) rfl
      have hK9 := hK.sub (tys' := [(Ka1, .long)]) [0] rfl
      refine vx_ret ?_
      refine W.widen (k := 3) (n := 18) (by decide) (by decide) ?_
      exact W.iret (v := 0) hx hb hr (fun t ht hW => ⟨⟨0, f151, rfl, (Or.inr (Or.inr (Or.inr (Or.inr (Or.inr (Or.inr (Or.inl ⟨c124, c125, c126, c127, c128, c129, c130, c131, rfl, q152⟩))))))), by rw [ht]; exact hP9, va_K.moved hW.alike hK9, hD9⟩, hS.F ht⟩) hS.2.2 dL_growth_20
    · skip
      subst er141
      have o_s123 := ow_on o_Fs0 o_s123 (l' := [(15, .int 0), (4, .ref Ad1), (14, .ref Br0), (4, .ref Ad1), (14, .ref Br0)]) (w' := [15]) rfl rfl
      refine lv_i2l hx hb dL_growth_10 rfl ?_
      refine lv_topl (fun x153 ex153 => ?_)
      obtain rfl : x153 = 0 := ex153.trans (by decide)
      refine va_last hx hb hK hP hD hS 0 0 rfl rfl (show vp_in 0 1 from by unfold vp_in; decide) dL_growth_11 (fun H locs hP hD hS => ?_)
      have hP : va_P (dC, dI) vwCl [(Ad4, .inl (Ka1, 1, .inr (.inl (vp_updL Fa1 (0 : Int32).toNatClampNeg 0)))), (Ad0, .inr (14, s123)), (Ad1, .inl (Ka0, 4, .inr (.inr (.inr (.inr Fa0))))), (Ad2, .inr (8, Fs1)), (Ad3, .inr (8, Fs2))] H := hP
      have hD : va_D A [(Ad4, .inl (Ka1, 1, .inr (.inl (vp_updL Fa1 (0 : Int32).toNatClampNeg 0)))), (Ad0, .inr (14, s123)), (Ad1, .inl (Ka0, 4, .inr (.inr (.inr (.inr Fa0))))), (Ad2, .inr (8, Fs1)), (Ad3, .inr (8, Fs2))] := hD
      have q155 : (vp_updL Fa1 (0 : Int32).toNatClampNeg 0) (0 : Int32).toNatClampNeg = 0 := pk_uLs
      generalize vp_updL Fa1 (0 : Int32).toNatClampNeg 0 = f154 at hP hD q155
      refine lv_goto (tgt := 19) hx hb dL_growth_12 (by decide) ?_
      refine lv_iconst (v := 0) hx hb dL_growth_19 (by decide) ?_
      have hP9 := hP.sub (ws' := [(Ad4, .inl (Ka1, 1, .inr (.inl f154)))]) [0] rfl
      have hD9 := hD.sub (ws' := [(Ad4, .inl (Ka1, 1, .inr (.inl f154)))]) [0] (by decide) rfl
      have hK9 := hK.sub (tys' := [(Ka1, .long)]) [0] rfl
      refine vx_ret ?_
      refine W.widen (k := 3) (n := 18) (by decide) (by decide) ?_
      exact W.iret (v := 0) hx hb hr (fun t ht hW => ⟨⟨0, f154, rfl, (Or.inr (Or.inr (Or.inr (Or.inr (Or.inr (Or.inr (Or.inr (Or.inl ⟨c133, c134, c135, c136, c137, c138, c139, c140, rfl, q155⟩)))))))), by rw [ht]; exact hP9, va_K.moved hW.alike hK9, hD9⟩, hS.F ht⟩) hS.2.2 dL_growth_20
    · skip
      subst er149
      have o_s123 := ow_on o_Fs0 o_s123 (l' := [(15, .int 0), (4, .ref Ad1), (14, .ref Br0), (4, .ref Ad1), (14, .ref Br0)]) (w' := [15]) rfl rfl
      refine lv_i2l hx hb dL_growth_10 rfl ?_
      refine lv_topl (fun x156 ex156 => ?_)
      obtain rfl : x156 = 0 := ex156.trans (by decide)
      refine va_last hx hb hK hP hD hS 0 0 rfl rfl (show vp_in 0 1 from by unfold vp_in; decide) dL_growth_11 (fun H locs hP hD hS => ?_)
      have hP : va_P (dC, dI) vwCl [(Ad4, .inl (Ka1, 1, .inr (.inl (vp_updL Fa1 (0 : Int32).toNatClampNeg 0)))), (Ad0, .inr (14, s123)), (Ad1, .inl (Ka0, 4, .inr (.inr (.inr (.inr Fa0))))), (Ad2, .inr (8, Fs1)), (Ad3, .inr (8, Fs2))] H := hP
      have hD : va_D A [(Ad4, .inl (Ka1, 1, .inr (.inl (vp_updL Fa1 (0 : Int32).toNatClampNeg 0)))), (Ad0, .inr (14, s123)), (Ad1, .inl (Ka0, 4, .inr (.inr (.inr (.inr Fa0))))), (Ad2, .inr (8, Fs1)), (Ad3, .inr (8, Fs2))] := hD
      have q158 : (vp_updL Fa1 (0 : Int32).toNatClampNeg 0) (0 : Int32).toNatClampNeg = 0 := pk_uLs
      generalize vp_updL Fa1 (0 : Int32).toNatClampNeg 0 = f157 at hP hD q158
      refine lv_goto (tgt := 19) hx hb dL_growth_12 (by decide) ?_
      refine lv_iconst (v := 0) hx hb dL_growth_19 (by decide) ?_
      have hP9 := hP.sub (ws' := [(Ad4, .inl (Ka1, 1, .inr (.inl f157)))]) [0] rfl
      have hD9 := hD.sub (ws' := [(Ad4, .inl (Ka1, 1, .inr (.inl f157)))]) [0] (by decide) rfl
      have hK9 := hK.sub (tys' := [(Ka1, .long)]) [0] rfl
      refine vx_ret ?_
      refine W.widen (k := 3) (n := 18) (by decide) (by decide) ?_
      exact W.iret (v := 0) hx hb hr (fun t ht hW => ⟨⟨0, f157, rfl, (Or.inr (Or.inr (Or.inr (Or.inr (Or.inr (Or.inr (Or.inr (Or.inr (⟨c142, c143, c144, c145, c146, c147, c148, rfl, q158⟩))))))))), by rw [ht]; exact hP9, va_K.moved hW.alike hK9, hD9⟩, hS.F ht⟩) hS.2.2 dL_growth_20

def l_z_L_growth_1 : List Cond := [.methodLink RL 84 yX11_growth, .instanceMethod yX11_growth, .selects RX11 yX11_growth yX11_growth, .initialized RX11, .classLink RL 13 "java/lang/IndexOutOfBoundsException", .code yX11_growth cX11_growth 4 (some .int), .methodLink RX11 353 yX11_needPicture, .static yX11_needPicture, .classLink RX11 120 "java/lang/IndexOutOfBoundsException", .initialized "java/lang/IndexOutOfBoundsException", .fieldLink RX11 41 "HeapWorks" "pictures" "[LHeapWorks$Picture;", .fieldLink RX11 95 "HeapWorks" "grownThings" "[I", .methodLink RX11 457 yX5_listChanged, .instanceMethod yX5_listChanged, .selects RX5 yX5_listChanged yX5_listChanged, .initialized RX5, .fieldLink RX11 454 "HeapWorks" "grownCount" "I", .methodLink RX11 450 yX5_listMissing, .instanceMethod yX5_listMissing, .selects RX5 yX5_listMissing yX5_listMissing, .code yX11_needPicture cX11_needPicture 1 none, .methodLink RX11 411 yX11_isPicture, .static yX11_isPicture, .code yX11_isPicture cX11_isPicture 1 (some .boolean), .code yX5_listChanged cX5_listChanged 6 (some .int), .fieldLink RX5 82 "HeapWorks$Picture" "things" "I", .code yX5_listMissing cX5_listMissing 5 (some .int)]
def w_z_L_growth_1 : List Cond := .codeWith yL_growth cL_growth 6 (some .int) [(0, 12, 15, 13)] :: (l_z_L_growth_1 ++ ((((vx_at0 RX11 122 "java/lang/IndexOutOfBoundsException" ["java/lang/RuntimeException", "java/lang/Exception"]).filter goodWord) ++ (wsX110 ++ wsX50))))
theorem in_z_L_growth_1_at0_X11_122 : ∀ w ∈ ((vx_at0 RX11 122 "java/lang/IndexOutOfBoundsException" ["java/lang/RuntimeException", "java/lang/Exception"]).filter goodWord), w ∈ w_z_L_growth_1 := fun w h => List.mem_cons_of_mem _ (List.mem_append_right _ (List.mem_append_left _ h))
theorem in_z_L_growth_1_X11 : ∀ w ∈ wsX110, w ∈ w_z_L_growth_1 := fun w h => List.mem_cons_of_mem _ (List.mem_append_right _ (List.mem_append_right _ (List.mem_append_left _ h)))
theorem in_z_L_growth_1_X5 : ∀ w ∈ wsX50, w ∈ w_z_L_growth_1 := fun w h => List.mem_cons_of_mem _ (List.mem_append_right _ (List.mem_append_right _ (List.mem_append_right _ (h))))
theorem g_z_L_growth_1_z_X11_growth_1_84 : GoodIn w_z_L_growth_1 (wsV RL 84 RX11 yX11_growth w_z_X11_growth_1) := goodIn_app (goodIn_r (([.methodLink RL 84 yX11_growth, .instanceMethod yX11_growth, .selects RX11 yX11_growth yX11_growth, .initialized RX11] : List Cond)) [1, 2, 3, 4] rfl (by decide +kernel)) (goodIn_ca (goodIn_r (.code yX11_growth cX11_growth 4 (some .int) :: l_z_X11_growth_1) [6, 7, 8, 4, 9, 10, 11, 12, 13, 14, 15, 16, 17, 18, 19, 20, 21, 22, 23, 24, 25, 26, 27] rfl (by decide +kernel)) (goodIn_app (goodIn_in (in_z_L_growth_1_at0_X11_122) gd_at0_X11_122) (goodIn_app (goodIn_in (in_z_L_growth_1_X11) gd_X11) (goodIn_in (in_z_L_growth_1_X5) gd_X5))))
set_option maxHeartbeats 4000000 in
set_option maxRecDepth 100000 in
theorem z_L_growth_1 (l : Launch) (dC : Nat → ClassId) (dI : Nat → Nat → Nat) (sz : Nat) (Ad0 : Nat) (Fs0 : List Value) (Ad1 : Nat) (Fa0 : Nat → Option Nat) (Ka0 : ClassId) (Ad2 : Nat) (Fs1 : List Value) (Ad3 : Nat) (Fa1 : Nat → Int64) (Ka1 : ClassId) (Va0 : Int32) (Va1 : Int32) (Va2 : Int32) (Br0 : Nat) (k_Fs0 : fh Fs0 18 [(4, .ref Ad1), (15, .int 0), (14, .ref Br0)]) (k_Fs1 : fh Fs1 21 [(0, .int 0)]) (hst : l.stackTraces = false) (hg0 : Fa0 Va1.toNatClampNeg = some Ad2) (hg1 : Fa0 Va0.toNatClampNeg = some Ad2) : vx_Met l yL_growth w_z_L_growth_1 ({ frames := 9, cells := 3, slots := 18, locals := 183 }) (va_Pc [.ref Ad0, .int Va0, .int Va1, .int Va2, .ref Ad3] (fun U => U.heap.size = sz ∧ Zz (va_A [(Ad0, .inr (14, Fs0)), (Ad1, .inl (Ka0, 4, .inr (.inr (.inr (.inr Fa0))))), (Ad2, .inr (8, Fs1)), (Ad3, .inl (Ka1, 1, .inr (.inl Fa1)))] sz) U ∧ Yy U ∧ Wd dC dI [(Ka0, .object "HeapWorks$Picture"), (Ka1, .long)] (fun _ => True) [(Ad0, .inr (14, Fs0)), (Ad1, .inl (Ka0, 4, .inr (.inr (.inr (.inr Fa0))))), (Ad2, .inr (8, Fs1)), (Ad3, .inl (Ka1, 1, .inr (.inl Fa1)))] U)) (va_Qi (fun (r : Int32) (u : (Nat → Int64)) => (Va0 < 0 ∧ r = 1) ∨ (¬ Va0 < 0 ∧ 4 ≤ Va0 ∧ r = 1) ∨ (¬ Va0 < 0 ∧ ¬ 4 ≤ Va0 ∧ Va1 < 0 ∧ r = 1) ∨ (¬ Va0 < 0 ∧ ¬ 4 ≤ Va0 ∧ ¬ Va1 < 0 ∧ 4 ≤ Va1 ∧ r = 1) ∨ (¬ Va0 < 0 ∧ ¬ 4 ≤ Va0 ∧ ¬ Va1 < 0 ∧ ¬ 4 ≤ Va1 ∧ Va2 < 0 ∧ r = 1) ∨ (¬ Va0 < 0 ∧ ¬ 4 ≤ Va0 ∧ ¬ Va1 < 0 ∧ ¬ 4 ≤ Va1 ∧ ¬ Va2 < 0 ∧ ¬ Va2 ≤ 2 ∧ r = 1) ∨ (¬ Va0 < 0 ∧ ¬ 4 ≤ Va0 ∧ ¬ Va1 < 0 ∧ ¬ 4 ≤ Va1 ∧ ¬ Va2 < 0 ∧ Va2 ≤ 2 ∧ ¬ Va2 = 0 ∧ ¬ Va2 = 1 ∧ r = 0 ∧ (u) (0 : Int32).toNatClampNeg = 0) ∨ (¬ Va0 < 0 ∧ ¬ 4 ≤ Va0 ∧ ¬ Va1 < 0 ∧ ¬ 4 ≤ Va1 ∧ ¬ Va2 < 0 ∧ Va2 ≤ 2 ∧ ¬ Va2 = 0 ∧ Va2 = 1 ∧ r = 0 ∧ (u) (0 : Int32).toNatClampNeg = 0) ∨ (¬ Va0 < 0 ∧ ¬ 4 ≤ Va0 ∧ ¬ Va1 < 0 ∧ ¬ 4 ≤ Va1 ∧ ¬ Va2 < 0 ∧ Va2 ≤ 2 ∧ Va2 = 0 ∧ r = 0 ∧ (u) (0 : Int32).toNatClampNeg = 0)) (fun (u : (Nat → Int64)) t => Wd dC dI [(Ka1, .long)] (va_A [(Ad0, .inr (14, Fs0)), (Ad1, .inl (Ka0, 4, .inr (.inr (.inr (.inr Fa0))))), (Ad2, .inr (8, Fs1)), (Ad3, .inl (Ka1, 1, .inr (.inl Fa1)))] sz) [(Ad3, .inl (Ka1, 1, .inr (.inl ((u)))))] t) (va_A [(Ad0, .inr (14, Fs0)), (Ad1, .inl (Ka0, 4, .inr (.inr (.inr (.inr Fa0))))), (Ad2, .inr (8, Fs1)), (Ad3, .inl (Ka1, 1, .inr (.inl Fa1)))] sz)) (vx_X (fun _ : Unit => True) (fun E _ _ => False) (va_A [(Ad0, .inr (14, Fs0)), (Ad1, .inl (Ka0, 4, .inr (.inr (.inr (.inr Fa0))))), (Ad2, .inr (8, Fs1)), (Ad3, .inl (Ka1, 1, .inr (.inl Fa1)))] sz)) 3 18 (va_A [(Ad0, .inr (14, Fs0)), (Ad1, .inl (Ka0, 4, .inr (.inr (.inr (.inr Fa0))))), (Ad2, .inr (8, Fs1)), (Ad3, .inl (Ka1, 1, .inr (.inl Fa1)))] sz) := by
  refine vx_ofWH (cc := cL_growth) (maxL := 6) (ret := (some .int)) (by decide) rfl ?_
  intro p e s m args below meth c s₁ B hml hv
  obtain ⟨rfl, hsz, hZ, hY, hP, hK, hD0⟩ := hv
  have hx := B.exec
  have hb := B.bytes
  have hr := B.returns
  have hts := atoms_spec (ws := w_z_L_growth_1) B.pre
  have hown : s.vm.findClass RL = some m.cls := findClass_of_methodNamed B.named
  have hlocks := B.notSynchronized
  have htb := vx_table (x := yL_growth) B (hts (.codeWith yL_growth cL_growth 6 (some .int) [(0, 12, 15, 13)]) (by decide +kernel))
  subst hsz
  have hD := hD0.self (sz := s.heap.size)
  generalize hAe : va_A [(Ad0, .inr (14, Fs0)), (Ad1, .inl (Ka0, 4, .inr (.inr (.inr (.inr Fa0))))), (Ad2, .inr (8, Fs1)), (Ad3, .inl (Ka1, 1, .inr (.inl Fa1)))] s.heap.size = A at hD hZ ⊢
  have hA : ∀ q : Nat, s.heap.size ≤ q → A q := fun q h => by rw [← hAe]; exact Or.inr h
  have hS : va_S A s.heap s.heap [] := va_S.rf
  have hl := lv_entry ([.ref Ad0, .int Va0, .int Va1, .int Va2, .ref Ad3]) (n := 6) (Nat.le_of_ble_eq_true rfl)
  rw [lg_entry_eq]
  generalize (lg_sl ([.ref Ad0, .int Va0, .int Va1, .int Va2, .ref Ad3]) ++ List.replicate (6 - (lg_sl ([.ref Ad0, .int Va0, .int Va1, .int Va2, .ref Ad3])).length) Slot.unset).toArray = ls at hl ⊢
  have hl : lv_has ls 6 [(0, .ref Ad0), (1, .int Va0), (2, .int Va1), (3, .int Va2), (4, .ref Ad3)] := hl
  have o_Fs0 := ow_0 k_Fs0
  have o_Fs1 := ow_0 k_Fs1
  refine lv_aload hx hb dL_growth_0 (lv_at hl 4 rfl) ?_
  refine lv_iconst (v := 0) hx hb dL_growth_2 (by decide) ?_
  refine lv_aload_n hx hb dL_growth_3 rfl (lv_at hl 0 rfl) ?_
  refine lv_iload_n hx hb dL_growth_4 rfl (lv_at hl 1 rfl) ?_
  refine lv_iload_n hx hb dL_growth_5 rfl (lv_at hl 2 rfl) ?_
  refine lv_iload_n hx hb dL_growth_6 rfl (lv_at hl 3 rfl) ?_
  have hPc := hP.sub (ws' := [(Ad0, .inr (14, Fs0)), (Ad1, .inl (Ka0, 4, .inr (.inr (.inr (.inr Fa0))))), (Ad2, .inr (8, Fs1))]) [0, 1, 2] rfl
  have hDc := hD.sub (ws' := [(Ad0, .inr (14, Fs0)), (Ad1, .inl (Ka0, 4, .inr (.inr (.inr (.inr Fa0))))), (Ad2, .inr (8, Fs1))]) [0, 1, 2] (by decide) rfl
  have hKc := hK.sub (tys' := [(Ka0, .object "HeapWorks$Picture")]) [0] rfl
  have hFc := va_free (wc := [(Ad0, .inr (14, Fs0)), (Ad1, .inl (Ka0, 4, .inr (.inr (.inr (.inr Fa0))))), (Ad2, .inr (8, Fs1))]) hD hS hA [0, 1, 2] rfl
  refine vx_calli (vx_runV (As := [.int Va0, .int Va1, .int Va2]) (rest := [.int 0, .ref Ad3]) ⟨hx, hb, hml, hown, hts⟩ (z_X11_growth_1 l dC dI s.heap.size Ad0 Fs0 Ad1 Fa0 Ka0 Ad2 Fs1 Va0 Va1 Va2 Br0 (fh_sub o_Fs0.2 [0, 1, 2] rfl) (fh_sub o_Fs1.2 [0] rfl) hst hg0 hg1) (cwV 3 hts g_z_L_growth_1_z_X11_growth_1_84 rfl rfl rfl (by decide +kernel) ⟨Nat.le_of_ble_eq_true rfl, Nat.le_of_ble_eq_true rfl⟩) ⟨fun a U g mk q => by obtain ⟨q0, q1, qZ, qP, qK, qD⟩ := q; exact ⟨q0, q1, Zz_call qZ, qP, va_K.moved (u := U) (U := U.calling g mk a) (Vm.Alike.refl U.vm) qK, qD⟩, va_recv hK hP (ci := 14) (q0 := 0) rfl rfl, fun U hU hW => ⟨rfl, by rw [hU], Zz_go hZ hS hFc hU hW, by rw [hU]; exact hPc, va_K.moved hW.alike hKc, hDc.weaken (fun _ _ _ _ => trivial)⟩⟩ rfl rfl hl.1 rfl (lv_room (Nat.le_of_ble_eq_true rfl)) dL_growth_7 ⟨Nat.le_of_ble_eq_true rfl, Nat.le_of_ble_eq_true rfl⟩) hS (fun q _ h => hFc q h) hFc (fun q _ h => hFc q h) (fun E ce q9 u t H1 locs ht hvm hpx hBX hz1 hk1 hS hce hcv hcl => ?_) (fun r101 u t H1 locs ht hvm hw hB hz1 hk1 hS => ?_)
  · rcases hBX with ⟨rfl, c102⟩ | ⟨rfl, c103, c104⟩ | ⟨rfl, c105, c106, c107⟩ | ⟨rfl, c108, c109, c110, c111⟩ | ⟨rfl, c112, c113, c114, c115, c116⟩ | ⟨rfl, c117, c118, c119, c120, c121, c122⟩
    · skip
      obtain ⟨hP, hD⟩ := va_join (wr := [(Ad3, .inl (Ka1, 1, .inr (.inl Fa1)))]) (w1 := []) hP hD [0, 1, 2] [3] rfl rfl (by decide) (by decide) hk1 hFc P0 D0
      have hK := hK.sub (tys' := [(Ka1, .long)]) [1] rfl
      generalize H1 = H at hP hS hce ⊢
      have hP : va_P (dC, dI) vwCl [(Ad3, .inl (Ka1, 1, .inr (.inl Fa1)))] H := hP
      have hD : va_D A [(Ad3, .inl (Ka1, 1, .inr (.inl Fa1)))] := hD
      refine vx_catch (own := RL) (name := "java/lang/IndexOutOfBoundsException") (E := "java/lang/IndexOutOfBoundsException") hown [] ⟨0, 12, 15, 13⟩ [] (htb.trans rfl) ((fun _ h => nomatch h)) (by decide) (by decide) (hts (.classLink RL 13 "java/lang/IndexOutOfBoundsException") (by decide +kernel)) (va_Nw.use rfl (hZ.2.2.1 "java/lang/IndexOutOfBoundsException" (by decide))) hce hcv hcl ?_
      refine W.eq (g2 := F0 m 15 ls [.ref q9]) rfl ?_
      refine W.widen (k := 3) (n := 18) (by omega) (by omega) ?_
      refine lv_astore (lv' := [(5, .ref q9), (0, .ref Ad0), (1, .int Va0), (2, .int Va1), (3, .int Va2), (4, .ref Ad3)]) hx hb dL_growth_15 hl (by decide) rfl (fun ls hl => ?_)
      refine lv_iconst (v := 1) hx hb dL_growth_17 (by decide) ?_
      have hP9 := hP.sub (ws' := [(Ad3, .inl (Ka1, 1, .inr (.inl Fa1)))]) [0] rfl
      have hD9 := hD.sub (ws' := [(Ad3, .inl (Ka1, 1, .inr (.inl Fa1)))]) [0] (by decide) rfl
      have hK9 := hK.sub (tys' := [(Ka1, .long)]) [0] rfl
      refine vx_ret ?_
      refine W.widen (k := 3) (n := 18) (by decide) (by decide) ?_
      exact W.iret (v := 1) hx hb hr (fun t ht hW => ⟨⟨1, Fa1, rfl, (Or.inl ⟨c102, rfl⟩), by rw [ht]; exact hP9, va_K.moved hW.alike hK9, hD9⟩, hS.F ht⟩) hS.2.2 dL_growth_18
    · skip
      obtain ⟨hP, hD⟩ := va_join (wr := [(Ad3, .inl (Ka1, 1, .inr (.inl Fa1)))]) (w1 := []) hP hD [0, 1, 2] [3] rfl rfl (by decide) (by decide) hk1 hFc P0 D0
      have hK := hK.sub (tys' := [(Ka1, .long)]) [1] rfl
      generalize H1 = H at hP hS hce ⊢
      have hP : va_P (dC, dI) vwCl [(Ad3, .inl (Ka1, 1, .inr (.inl Fa1)))] H := hP
      have hD : va_D A [(Ad3, .inl (Ka1, 1, .inr (.inl Fa1)))] := hD
      refine vx_catch (own := RL) (name := "java/lang/IndexOutOfBoundsException") (E := "java/lang/IndexOutOfBoundsException") hown [] ⟨0, 12, 15, 13⟩ [] (htb.trans rfl) ((fun _ h => nomatch h)) (by decide) (by decide) (hts (.classLink RL 13 "java/lang/IndexOutOfBoundsException") (by decide +kernel)) (va_Nw.use rfl (hZ.2.2.1 "java/lang/IndexOutOfBoundsException" (by decide))) hce hcv hcl ?_
      refine W.eq (g2 := F0 m 15 ls [.ref q9]) rfl ?_
      refine W.widen (k := 3) (n := 18) (by omega) (by omega) ?_
      refine lv_astore (lv' := [(5, .ref q9), (0, .ref Ad0), (1, .int Va0), (2, .int Va1), (3, .int Va2), (4, .ref Ad3)]) hx hb dL_growth_15 hl (by decide) rfl (fun ls hl => ?_)
      refine lv_iconst (v := 1) hx hb dL_growth_17 (by decide) ?_
      have hP9 := hP.sub (ws' := [(Ad3, .inl (Ka1, 1, .inr (.inl Fa1)))]) [0] rfl
      have hD9 := hD.sub (ws' := [(Ad3, .inl (Ka1, 1, .inr (.inl Fa1)))]) [0] (by decide) rfl
      have hK9 := hK.sub (tys' := [(Ka1, .long)]) [0] rfl
      refine vx_ret ?_
      refine W.widen (k := 3) (n := 18) (by decide) (by decide) ?_
      exact W.iret (v := 1) hx hb hr (fun t ht hW => ⟨⟨1, Fa1, rfl, (Or.inr (Or.inl ⟨c103, c104, rfl⟩)), by rw [ht]; exact hP9, va_K.moved hW.alike hK9, hD9⟩, hS.F ht⟩) hS.2.2 dL_growth_18
    · skip
      obtain ⟨hP, hD⟩ := va_join (wr := [(Ad3, .inl (Ka1, 1, .inr (.inl Fa1)))]) (w1 := []) hP hD [0, 1, 2] [3] rfl rfl (by decide) (by decide) hk1 hFc P0 D0
      have hK := hK.sub (tys' := [(Ka1, .long)]) [1] rfl
      generalize H1 = H at hP hS hce ⊢
      have hP : va_P (dC, dI) vwCl [(Ad3, .inl (Ka1, 1, .inr (.inl Fa1)))] H := hP
      have hD : va_D A [(Ad3, .inl (Ka1, 1, .inr (.inl Fa1)))] := hD
      refine vx_catch (own := RL) (name := "java/lang/IndexOutOfBoundsException") (E := "java/lang/IndexOutOfBoundsException") hown [] ⟨0, 12, 15, 13⟩ [] (htb.trans rfl) ((fun _ h => nomatch h)) (by decide) (by decide) (hts (.classLink RL 13 "java/lang/IndexOutOfBoundsException") (by decide +kernel)) (va_Nw.use rfl (hZ.2.2.1 "java/lang/IndexOutOfBoundsException" (by decide))) hce hcv hcl ?_
      refine W.eq (g2 := F0 m 15 ls [.ref q9]) rfl ?_
      refine W.widen (k := 3) (n := 18) (by omega) (by omega) ?_
      refine lv_astore (lv' := [(5, .ref q9), (0, .ref Ad0), (1, .int Va0), (2, .int Va1), (3, .int Va2), (4, .ref Ad3)]) hx hb dL_growth_15 hl (by decide) rfl (fun ls hl => ?_)
      refine lv_iconst (v := 1) hx hb dL_growth_17 (by decide) ?_
      have hP9 := hP.sub (ws' := [(Ad3, .inl (Ka1, 1, .inr (.inl Fa1)))]) [0] rfl
      have hD9 := hD.sub (ws' := [(Ad3, .inl (Ka1, 1, .inr (.inl Fa1)))]) [0] (by decide) rfl
      have hK9 := hK.sub (tys' := [(Ka1, .long)]) [0] rfl
      refine vx_ret ?_
      refine W.widen (k := 3) (n := 18) (by decide) (by decide) ?_
      exact W.iret (v := 1) hx hb hr (fun t ht hW => ⟨⟨1, Fa1, rfl, (Or.inr (Or.inr (Or.inl ⟨c105, c106, c107, rfl⟩))), by rw [ht]; exact hP9, va_K.moved hW.alike hK9, hD9⟩, hS.F ht⟩) hS.2.2 dL_growth_18
    · skip
      obtain ⟨hP, hD⟩ := va_join (wr := [(Ad3, .inl (Ka1, 1, .inr (.inl Fa1)))]) (w1 := []) hP hD [0, 1, 2] [3] rfl rfl (by decide) (by decide) hk1 hFc P0 D0
      have hK := hK.sub (tys' := [(Ka1, .long)]) [1] rfl
      generalize H1 = H at hP hS hce ⊢
      have hP : va_P (dC, dI) vwCl [(Ad3, .inl (Ka1, 1, .inr (.inl Fa1)))] H := hP
      have hD : va_D A [(Ad3, .inl (Ka1, 1, .inr (.inl Fa1)))] := hD
      refine vx_catch (own := RL) (name := "java/lang/IndexOutOfBoundsException") (E := "java/lang/IndexOutOfBoundsException") hown [] ⟨0, 12, 15, 13⟩ [] (htb.trans rfl) ((fun _ h => nomatch h)) (by decide) (by decide) (hts (.classLink RL 13 "java/lang/IndexOutOfBoundsException") (by decide +kernel)) (va_Nw.use rfl (hZ.2.2.1 "java/lang/IndexOutOfBoundsException" (by decide))) hce hcv hcl ?_
      refine W.eq (g2 := F0 m 15 ls [.ref q9]) rfl ?_
      refine W.widen (k := 3) (n := 18) (by omega) (by omega) ?_
      refine lv_astore (lv' := [(5, .ref q9), (0, .ref Ad0), (1, .int Va0), (2, .int Va1), (3, .int Va2), (4, .ref Ad3)]) hx hb dL_growth_15 hl (by decide) rfl (fun ls hl => ?_)
      refine lv_iconst (v := 1) hx hb dL_growth_17 (by decide) ?_
      have hP9 := hP.sub (ws' := [(Ad3, .inl (Ka1, 1, .inr (.inl Fa1)))]) [0] rfl
      have hD9 := hD.sub (ws' := [(Ad3, .inl (Ka1, 1, .inr (.inl Fa1)))]) [0] (by decide) rfl
      have hK9 := hK.sub (tys' := [(Ka1, .long)]) [0] rfl
      refine vx_ret ?_
      refine W.widen (k := 3) (n := 18) (by decide) (by decide) ?_
      exact W.iret (v := 1) hx hb hr (fun t ht hW => ⟨⟨1, Fa1, rfl, (Or.inr (Or.inr (Or.inr (Or.inl ⟨c108, c109, c110, c111, rfl⟩)))), by rw [ht]; exact hP9, va_K.moved hW.alike hK9, hD9⟩, hS.F ht⟩) hS.2.2 dL_growth_18
    · skip
      obtain ⟨hP, hD⟩ := va_join (wr := [(Ad3, .inl (Ka1, 1, .inr (.inl Fa1)))]) (w1 := []) hP hD [0, 1, 2] [3] rfl rfl (by decide) (by decide) hk1 hFc P0 D0
      have hK := hK.sub (tys' := [(Ka1, .long)]) [1] rfl
      generalize H1 = H at hP hS hce ⊢
      have hP : va_P (dC, dI) vwCl [(Ad3, .inl (Ka1, 1, .inr (.inl Fa1)))] H := hP
      have hD : va_D A [(Ad3, .inl (Ka1, 1, .inr (.inl Fa1)))] := hD
      refine vx_catch (own := RL) (name := "java/lang/IndexOutOfBoundsException") (E := "java/lang/IndexOutOfBoundsException") hown [] ⟨0, 12, 15, 13⟩ [] (htb.trans rfl) ((fun _ h => nomatch h)) (by decide) (by decide) (hts (.classLink RL 13 "java/lang/IndexOutOfBoundsException") (by decide +kernel)) (va_Nw.use rfl (hZ.2.2.1 "java/lang/IndexOutOfBoundsException" (by decide))) hce hcv hcl ?_
      refine W.eq (g2 := F0 m 15 ls [.ref q9]) rfl ?_
      refine W.widen (k := 3) (n := 18) (by omega) (by omega) ?_
      refine lv_astore (lv' := [(5, .ref q9), (0, .ref Ad0), (1, .int Va0), (2, .int Va1), (3, .int Va2), (4, .ref Ad3)]) hx hb dL_growth_15 hl (by decide) rfl (fun ls hl => ?_)
      refine lv_iconst (v := 1) hx hb dL_growth_17 (by decide) ?_
      have hP9 := hP.sub (ws' := [(Ad3, .inl (Ka1, 1, .inr (.inl Fa1)))]) [0] rfl
      have hD9 := hD.sub (ws' := [(Ad3, .inl (Ka1, 1, .inr (.inl Fa1)))]) [0] (by decide) rfl
      have hK9 := hK.sub (tys' := [(Ka1, .long)]) [0] rfl
      refine vx_ret ?_
      refine W.widen (k := 3) (n := 18) (by decide) (by decide) ?_
      exact W.iret (v := 1) hx hb hr (fun t ht hW => ⟨⟨1, Fa1, rfl, (Or.inr (Or.inr (Or.inr (Or.inr (Or.inl ⟨c112, c113, c114, c115, c116, rfl⟩))))), by rw [ht]; exact hP9, va_K.moved hW.alike hK9, hD9⟩, hS.F ht⟩) hS.2.2 dL_growth_18
    · skip
      obtain ⟨hP, hD⟩ := va_join (wr := [(Ad3, .inl (Ka1, 1, .inr (.inl Fa1)))]) (w1 := []) hP hD [0, 1, 2] [3] rfl rfl (by decide) (by decide) hk1 hFc P0 D0
      have hK := hK.sub (tys' := [(Ka1, .long)]) [1] rfl
      generalize H1 = H at hP hS hce ⊢
      have hP : va_P (dC, dI) vwCl [(Ad3, .inl (Ka1, 1, .inr (.inl Fa1)))] H := hP
      have hD : va_D A [(Ad3, .inl (Ka1, 1, .inr (.inl Fa1)))] := hD
      refine vx_catch (own := RL) (name := "java/lang/IndexOutOfBoundsException") (E := "java/lang/IndexOutOfBoundsException") hown [] ⟨0, 12, 15, 13⟩ [] (htb.trans rfl) ((fun _ h => nomatch h)) (by decide) (by decide) (hts (.classLink RL 13 "java/lang/IndexOutOfBoundsException") (by decide +kernel)) (va_Nw.use rfl (hZ.2.2.1 "java/lang/IndexOutOfBoundsException" (by decide))) hce hcv hcl ?_
      refine W.eq (g2 := F0 m 15 ls [.ref q9]) rfl ?_
      refine W.widen (k := 3) (n := 18) (by omega) (by omega) ?_
      refine lv_astore (lv' := [(5, .ref q9), (0, .ref Ad0), (1, .int Va0), (2, .int Va1), (3, .int Va2), (4, .ref Ad3)]) hx hb dL_growth_15 hl (by decide) rfl (fun ls hl => ?_)
      refine lv_iconst (v := 1) hx hb dL_growth_17 (by decide) ?_
      have hP9 := hP.sub (ws' := [(Ad3, .inl (Ka1, 1, .inr (.inl Fa1)))]) [0] rfl
      have hD9 := hD.sub (ws' := [(Ad3, .inl (Ka1, 1, .inr (.inl Fa1)))]) [0] (by decide) rfl
      have hK9 := hK.sub (tys' := [(Ka1, .long)]) [0] rfl
      refine vx_ret ?_
      refine W.widen (k := 3) (n := 18) (by decide) (by decide) ?_
      exact W.iret (v := 1) hx hb hr (fun t ht hW => ⟨⟨1, Fa1, rfl, (Or.inr (Or.inr (Or.inr (Or.inr (Or.inr (Or.inl ⟨c117, c118, c119, c120, c121, c122, rfl⟩)))))), by rw [ht]; exact hP9, va_K.moved hW.alike hK9, hD9⟩, hS.F ht⟩) hS.2.2 dL_growth_18
  · skip
    obtain ⟨s123, rfl⟩ : ∃ z, z = u := ⟨_, rfl⟩
    obtain ⟨hP1, hK1, hD1⟩ := hB
    rw [ht] at hP1
    try dsimp only at hw
    obtain ⟨hP, hD⟩ := va_join (wr := [(Ad3, .inl (Ka1, 1, .inr (.inl Fa1)))]) (w1 := [(Ad0, .inr (14, s123)), (Ad1, .inl (Ka0, 4, .inr (.inr (.inr (.inr Fa0))))), (Ad2, .inr (8, Fs1))]) hP hD [0, 1, 2] [3] rfl rfl (by decide) (by decide) hk1 hFc hP1 hD1
    have hK := hK.sub (tys' := [(Ka1, .long), (Ka0, .object "HeapWorks$Picture")]) [1, 0] rfl
    generalize H1 = H at hP hS ⊢
    refine W.widen (k := 3) (n := 18) (by omega) (by omega) ?_
    have hP : va_P (dC, dI) vwCl [(Ad3, .inl (Ka1, 1, .inr (.inl Fa1))), (Ad0, .inr (14, s123)), (Ad1, .inl (Ka0, 4, .inr (.inr (.inr (.inr Fa0))))), (Ad2, .inr (8, Fs1))] H := hP
    have hD : va_D A [(Ad3, .inl (Ka1, 1, .inr (.inl Fa1))), (Ad0, .inr (14, s123)), (Ad1, .inl (Ka0, 4, .inr (.inr (.inr (.inr Fa0))))), (Ad2, .inr (8, Fs1))] := hD
    rcases hw with ⟨c124, c125, c126, c127, c128, c129, c130, c131, er132, o_s123⟩ | ⟨c133, c134, c135, c136, c137, c138, c139, c140, er141, o_s123⟩ | ⟨c142, c143, c144, c145, c146, c147, c148, er149, o_s123⟩
    · skip
      subst er132
      have o_s123 := ow_on o_Fs0 o_s123 (l' := [(15, .int 0), (4, .ref Ad1), (14, .ref Br0), (4, .ref Ad1), (14, .ref Br0)]) (w' := [15]) rfl rfl
      refine lv_i2l hx hb dL_growth_10 rfl ?_
      refine lv_topl (fun x150 ex150 => ?_)
      obtain rfl : x150 = 0 := ex150.trans (by decide)
      refine va_last hx hb hK hP hD hS 0 0 rfl rfl (show vp_in 0 1 from by unfold vp_in; decide) dL_growth_11 (fun H locs hP hD hS => ?_)
      have hP : va_P (dC, dI) vwCl [(Ad3, .inl (Ka1, 1, .inr (.inl (vp_updL Fa1 (0 : Int32).toNatClampNeg 0)))), (Ad0, .inr (14, s123)), (Ad1, .inl (Ka0, 4, .inr (.inr (.inr (.inr Fa0))))), (Ad2, .inr (8, Fs1))] H := hP
      have hD : va_D A [(Ad3, .inl (Ka1, 1, .inr (.inl (vp_updL Fa1 (0 : Int32).toNatClampNeg 0)))), (Ad0, .inr (14, s123)), (Ad1, .inl (Ka0, 4, .inr (.inr (.inr (.inr Fa0))))), (Ad2, .inr (8, Fs1))] := hD
      have q152 : (vp_updL Fa1 (0 : Int32).toNatClampNeg 0) (0 : Int32).toNatClampNeg = 0 := pk_uLs
      generalize vp_updL Fa1 (0 : Int32).toNatClampNeg 0 = f151 at hP hD q152
      refine lv_goto (tgt := 19) hx hb dL_growth_12 (by decide) ?_
      refine lv_iconst (v := 0) hx hb dL_growth_19 (by decide) ?_
      have hP9 := hP.sub (ws' := [(Ad3, .inl (Ka1, 1, .inr (.inl f151)))]) [0] rfl
      have hD9 := hD.sub (ws' := [(Ad3, .inl (Ka1, 1, .inr (.inl f151)))]) [0] (by decide) rfl
      have hK9 := hK.sub (tys' := [(Ka1, .long)]) [0] rfl
      refine vx_ret ?_
      refine W.widen (k := 3) (n := 18) (by decide) (by decide) ?_
      exact W.iret (v := 0) hx hb hr (fun t ht hW => ⟨⟨0, f151, rfl, (Or.inr (Or.inr (Or.inr (Or.inr (Or.inr (Or.inr (Or.inl ⟨c124, c125, c126, c127, c128, c129, c130, c131, rfl, q152⟩))))))), by rw [ht]; exact hP9, va_K.moved hW.alike hK9, hD9⟩, hS.F ht⟩) hS.2.2 dL_growth_20
    · skip
      subst er141
      have o_s123 := ow_on o_Fs0 o_s123 (l' := [(15, .int 0), (4, .ref Ad1), (14, .ref Br0), (4, .ref Ad1), (14, .ref Br0)]) (w' := [15]) rfl rfl
      refine lv_i2l hx hb dL_growth_10 rfl ?_
      refine lv_topl (fun x153 ex153 => ?_)
      obtain rfl : x153 = 0 := ex153.trans (by decide)
      refine va_last hx hb hK hP hD hS 0 0 rfl rfl (show vp_in 0 1 from by unfold vp_in; decide) dL_growth_11 (fun H locs hP hD hS => ?_)
      have hP : va_P (dC, dI) vwCl [(Ad3, .inl (Ka1, 1, .inr (.inl (vp_updL Fa1 (0 : Int32).toNatClampNeg 0)))), (Ad0, .inr (14, s123)), (Ad1, .inl (Ka0, 4, .inr (.inr (.inr (.inr Fa0))))), (Ad2, .inr (8, Fs1))] H := hP
      have hD : va_D A [(Ad3, .inl (Ka1, 1, .inr (.inl (vp_updL Fa1 (0 : Int32).toNatClampNeg 0)))), (Ad0, .inr (14, s123)), (Ad1, .inl (Ka0, 4, .inr (.inr (.inr (.inr Fa0))))), (Ad2, .inr (8, Fs1))] := hD
      have q155 : (vp_updL Fa1 (0 : Int32).toNatClampNeg 0) (0 : Int32).toNatClampNeg = 0 := pk_uLs
      generalize vp_updL Fa1 (0 : Int32).toNatClampNeg 0 = f154 at hP hD q155
      refine lv_goto (tgt := 19) hx hb dL_growth_12 (by decide) ?_
      refine lv_iconst (v := 0) hx hb dL_growth_19 (by decide) ?_
      have hP9 := hP.sub (ws' := [(Ad3, .inl (Ka1, 1, .inr (.inl f154)))]) [0] rfl
      have hD9 := hD.sub (ws' := [(Ad3, .inl (Ka1, 1, .inr (.inl f154)))]) [0] (by decide) rfl
      have hK9 := hK.sub (tys' := [(Ka1, .long)]) [0] rfl
      refine vx_ret ?_
      refine W.widen (k := 3) (n := 18) (by decide) (by decide) ?_
      exact W.iret (v := 0) hx hb hr (fun t ht hW => ⟨⟨0, f154, rfl, (Or.inr (Or.inr (Or.inr (Or.inr (Or.inr (Or.inr (Or.inr (Or.inl ⟨c133, c134, c135, c136, c137, c138, c139, c140, rfl, q155⟩)))))))), by rw [ht]; exact hP9, va_K.moved hW.alike hK9, hD9⟩, hS.F ht⟩) hS.2.2 dL_growth_20
    · skip
      subst er149
      have o_s123 := ow_on o_Fs0 o_s123 (l' := [(15, .int 0), (4, .ref Ad1), (14, .ref Br0), (4, .ref Ad1), (14, .ref Br0)]) (w' := [15]) rfl rfl
      refine lv_i2l hx hb dL_growth_10 rfl ?_
      refine lv_topl (fun x156 ex156 => ?_)
      obtain rfl : x156 = 0 := ex156.trans (by decide)
      refine va_last hx hb hK hP hD hS 0 0 rfl rfl (show vp_in 0 1 from by unfold vp_in; decide) dL_growth_11 (fun H locs hP hD hS => ?_)
      have hP : va_P (dC, dI) vwCl [(Ad3, .inl (Ka1, 1, .inr (.inl (vp_updL Fa1 (0 : Int32).toNatClampNeg 0)))), (Ad0, .inr (14, s123)), (Ad1, .inl (Ka0, 4, .inr (.inr (.inr (.inr Fa0))))), (Ad2, .inr (8, Fs1))] H := hP
      have hD : va_D A [(Ad3, .inl (Ka1, 1, .inr (.inl (vp_updL Fa1 (0 : Int32).toNatClampNeg 0)))), (Ad0, .inr (14, s123)), (Ad1, .inl (Ka0, 4, .inr (.inr (.inr (.inr Fa0))))), (Ad2, .inr (8, Fs1))] := hD
      have q158 : (vp_updL Fa1 (0 : Int32).toNatClampNeg 0) (0 : Int32).toNatClampNeg = 0 := pk_uLs
      generalize vp_updL Fa1 (0 : Int32).toNatClampNeg 0 = f157 at hP hD q158
      refine lv_goto (tgt := 19) hx hb dL_growth_12 (by decide) ?_
      refine lv_iconst (v := 0) hx hb dL_growth_19 (by decide) ?_
      have hP9 := hP.sub (ws' := [(Ad3, .inl (Ka1, 1, .inr (.inl f157)))]) [0] rfl
      have hD9 := hD.sub (ws' := [(Ad3, .inl (Ka1, 1, .inr (.inl f157)))]) [0] (by decide) rfl
      have hK9 := hK.sub (tys' := [(Ka1, .long)]) [0] rfl
      refine vx_ret ?_
      refine W.widen (k := 3) (n := 18) (by decide) (by decide) ?_
      exact W.iret (v := 0) hx hb hr (fun t ht hW => ⟨⟨0, f157, rfl, (Or.inr (Or.inr (Or.inr (Or.inr (Or.inr (Or.inr (Or.inr (Or.inr (⟨c142, c143, c144, c145, c146, c147, c148, rfl, q158⟩))))))))), by rw [ht]; exact hP9, va_K.moved hW.alike hK9, hD9⟩, hS.F ht⟩) hS.2.2 dL_growth_20

def l_z_L_like : List Cond := [.methodLink RL 87 yX11_like, .instanceMethod yX11_like, .selects RX11 yX11_like yX11_like, .initialized RX11, .classLink RL 30 "java/util/NoSuchElementException", .code yX11_like cX11_like 5 (some .boolean), .methodLink RX11 359 yX11_isThing, .instanceMethod yX11_isThing, .selects RX11 yX11_isThing yX11_isThing, .classLink RX11 221 "java/util/NoSuchElementException", .initialized "java/util/NoSuchElementException", .code yX11_isThing cX11_isThing 3 (some .boolean), .methodLink RX11 411 yX11_isPicture, .static yX11_isPicture, .fieldLink RX11 41 "HeapWorks" "pictures" "[LHeapWorks$Picture;", .fieldLink RX11 356 "HeapWorks$Picture" "things" "I", .code yX11_isPicture cX11_isPicture 1 (some .boolean)]
def w_z_L_like : List Cond := .codeWith yL_like cL_like 7 (some .int) [(0, 21, 24, 30)] :: (l_z_L_like ++ ((((vx_at0 RX11 223 "java/util/NoSuchElementException" ["java/lang/RuntimeException", "java/lang/Exception"]).filter goodWord) ++ (wsX110 ++ wsX50))))
theorem in_z_L_like_at0_X11_223 : ∀ w ∈ ((vx_at0 RX11 223 "java/util/NoSuchElementException" ["java/lang/RuntimeException", "java/lang/Exception"]).filter goodWord), w ∈ w_z_L_like := fun w h => List.mem_cons_of_mem _ (List.mem_append_right _ (List.mem_append_left _ h))
theorem in_z_L_like_X11 : ∀ w ∈ wsX110, w ∈ w_z_L_like := fun w h => List.mem_cons_of_mem _ (List.mem_append_right _ (List.mem_append_right _ (List.mem_append_left _ h)))
theorem in_z_L_like_X5 : ∀ w ∈ wsX50, w ∈ w_z_L_like := fun w h => List.mem_cons_of_mem _ (List.mem_append_right _ (List.mem_append_right _ (List.mem_append_right _ (h))))
theorem g_z_L_like_z_X11_like_87 : GoodIn w_z_L_like (wsV RL 87 RX11 yX11_like w_z_X11_like) := goodIn_app (goodIn_r (([.methodLink RL 87 yX11_like, .instanceMethod yX11_like, .selects RX11 yX11_like yX11_like, .initialized RX11] : List Cond)) [1, 2, 3, 4] rfl (by decide +kernel)) (goodIn_ca (goodIn_r (.code yX11_like cX11_like 5 (some .boolean) :: l_z_X11_like) [6, 7, 8, 9, 4, 10, 11, 12, 13, 14, 15, 16, 17] rfl (by decide +kernel)) (goodIn_app (goodIn_in (in_z_L_like_at0_X11_223) gd_at0_X11_223) (goodIn_app (goodIn_in (in_z_L_like_X11) gd_X11) (goodIn_in (in_z_L_like_X5) gd_X5))))
set_option maxHeartbeats 4000000 in
set_option maxRecDepth 100000 in
theorem z_L_like (l : Launch) (dC : Nat → ClassId) (dI : Nat → Nat → Nat) (sz : Nat) (Ad0 : Nat) (Fs0 : List Value) (Ad1 : Nat) (Fa0 : Nat → Option Nat) (Ka0 : ClassId) (Ad2 : Nat) (Fs1 : List Value) (Va0 : Int32) (Va1 : Int32) (Va2 : Int32) (Va3 : Int32) (Br0 : Nat) (k_Fs0 : fh Fs0 18 [(4, .ref Ad1)]) (k_Fs1 : fh Fs1 21 [(0, .int 0)]) (hst : l.stackTraces = false) (hg0 : Fa0 Va0.toNatClampNeg = some Ad2) : vx_Met l yL_like w_z_L_like ({ frames := 8, cells := 1, slots := 6, locals := 164 }) (va_Pc [.ref Ad0, .int Va0, .int Va1, .int Va2, .int Va3, .ref Br0] (fun U => U.heap.size = sz ∧ Zz (va_A [(Ad0, .inr (14, Fs0)), (Ad1, .inl (Ka0, 4, .inr (.inr (.inr (.inr Fa0))))), (Ad2, .inr (8, Fs1))] sz) U ∧ Yy U ∧ Wd dC dI [(Ka0, .object "HeapWorks$Picture")] (fun _ => True) [(Ad0, .inr (14, Fs0)), (Ad1, .inl (Ka0, 4, .inr (.inr (.inr (.inr Fa0))))), (Ad2, .inr (8, Fs1))] U)) (va_Qi (fun (r : Int32) (u : Unit) => (Va0 < 0 ∧ r = 1) ∨ (¬ Va0 < 0 ∧ 4 ≤ Va0 ∧ r = 1) ∨ (¬ Va0 < 0 ∧ ¬ 4 ≤ Va0 ∧ Va1 < 0 ∧ r = 1) ∨ (¬ Va0 < 0 ∧ ¬ 4 ≤ Va0 ∧ ¬ Va1 < 0 ∧ 0 ≤ Va1 ∧ r = 1)) (fun (u : Unit) t => Wd dC dI [] (va_A [(Ad0, .inr (14, Fs0)), (Ad1, .inl (Ka0, 4, .inr (.inr (.inr (.inr Fa0))))), (Ad2, .inr (8, Fs1))] sz) [] t) (va_A [(Ad0, .inr (14, Fs0)), (Ad1, .inl (Ka0, 4, .inr (.inr (.inr (.inr Fa0))))), (Ad2, .inr (8, Fs1))] sz)) (vx_X (fun _ : Unit => True) (fun E _ _ => False) (va_A [(Ad0, .inr (14, Fs0)), (Ad1, .inl (Ka0, 4, .inr (.inr (.inr (.inr Fa0))))), (Ad2, .inr (8, Fs1))] sz)) 1 6 (va_A [(Ad0, .inr (14, Fs0)), (Ad1, .inl (Ka0, 4, .inr (.inr (.inr (.inr Fa0))))), (Ad2, .inr (8, Fs1))] sz) := by
  refine vx_ofWH (cc := cL_like) (maxL := 7) (ret := (some .int)) (by decide) rfl ?_
  intro p e s m args below meth c s₁ B hml hv
  obtain ⟨rfl, hsz, hZ, hY, hP, hK, hD0⟩ := hv
  have hx := B.exec
  have hb := B.bytes
  have hr := B.returns
  have hts := atoms_spec (ws := w_z_L_like) B.pre
  have hown : s.vm.findClass RL = some m.cls := findClass_of_methodNamed B.named
  have hlocks := B.notSynchronized
  have htb := vx_table (x := yL_like) B (hts (.codeWith yL_like cL_like 7 (some .int) [(0, 21, 24, 30)]) (by decide +kernel))
  subst hsz
  have hD := hD0.self (sz := s.heap.size)
  generalize hAe : va_A [(Ad0, .inr (14, Fs0)), (Ad1, .inl (Ka0, 4, .inr (.inr (.inr (.inr Fa0))))), (Ad2, .inr (8, Fs1))] s.heap.size = A at hD hZ ⊢
  have hA : ∀ q : Nat, s.heap.size ≤ q → A q := fun q h => by rw [← hAe]; exact Or.inr h
  have hS : va_S A s.heap s.heap [] := va_S.rf
  have hl := lv_entry ([.ref Ad0, .int Va0, .int Va1, .int Va2, .int Va3, .ref Br0]) (n := 7) (Nat.le_of_ble_eq_true rfl)
  rw [lg_entry_eq]
  generalize (lg_sl ([.ref Ad0, .int Va0, .int Va1, .int Va2, .int Va3, .ref Br0]) ++ List.replicate (7 - (lg_sl ([.ref Ad0, .int Va0, .int Va1, .int Va2, .int Va3, .ref Br0])).length) Slot.unset).toArray = ls at hl ⊢
  have hl : lv_has ls 7 [(0, .ref Ad0), (1, .int Va0), (2, .int Va1), (3, .int Va2), (4, .int Va3), (5, .ref Br0)] := hl
  have o_Fs0 := ow_0 k_Fs0
  have o_Fs1 := ow_0 k_Fs1
  refine lv_aload hx hb dL_like_0 (lv_at hl 5 rfl) ?_
  refine lv_iconst (v := 0) hx hb dL_like_2 (by decide) ?_
  refine lv_aload_n hx hb dL_like_3 rfl (lv_at hl 0 rfl) ?_
  refine lv_iload_n hx hb dL_like_4 rfl (lv_at hl 1 rfl) ?_
  refine lv_iload_n hx hb dL_like_5 rfl (lv_at hl 2 rfl) ?_
  refine lv_iload_n hx hb dL_like_6 rfl (lv_at hl 3 rfl) ?_
  refine lv_iload hx hb dL_like_7 (lv_at hl 4 rfl) ?_
  have hPc := hP.sub (ws' := [(Ad0, .inr (14, Fs0)), (Ad1, .inl (Ka0, 4, .inr (.inr (.inr (.inr Fa0))))), (Ad2, .inr (8, Fs1))]) [0, 1, 2] rfl
  have hDc := hD.sub (ws' := [(Ad0, .inr (14, Fs0)), (Ad1, .inl (Ka0, 4, .inr (.inr (.inr (.inr Fa0))))), (Ad2, .inr (8, Fs1))]) [0, 1, 2] (by decide) rfl
  have hKc := hK.sub (tys' := [(Ka0, .object "HeapWorks$Picture")]) [0] rfl
  have hFc := va_free (wc := [(Ad0, .inr (14, Fs0)), (Ad1, .inl (Ka0, 4, .inr (.inr (.inr (.inr Fa0))))), (Ad2, .inr (8, Fs1))]) hD hS hA [0, 1, 2] rfl
  refine vx_calli (vx_runV (As := [.int Va0, .int Va1, .int Va2, .int Va3]) (rest := [.int 0, .ref Br0]) ⟨hx, hb, hml, hown, hts⟩ (z_X11_like l dC dI s.heap.size Ad0 Fs0 Ad1 Fa0 Ka0 Ad2 Fs1 Va0 Va1 Va2 Va3 (fh_sub o_Fs0.2 [0] rfl) (fh_sub o_Fs1.2 [0] rfl) hst hg0) (cwV 4 hts g_z_L_like_z_X11_like_87 rfl rfl rfl (by decide +kernel) ⟨Nat.le_of_ble_eq_true rfl, Nat.le_of_ble_eq_true rfl⟩) ⟨fun a U g mk q => by obtain ⟨q0, q1, qZ, qP, qK, qD⟩ := q; exact ⟨q0, q1, Zz_call qZ, qP, va_K.moved (u := U) (U := U.calling g mk a) (Vm.Alike.refl U.vm) qK, qD⟩, va_recv hK hP (ci := 14) (q0 := 0) rfl rfl, fun U hU hW => ⟨rfl, by rw [hU], Zz_go hZ hS hFc hU hW, by rw [hU]; exact hPc, va_K.moved hW.alike hKc, hDc.weaken (fun _ _ _ _ => trivial)⟩⟩ rfl rfl hl.1 rfl (lv_room (Nat.le_of_ble_eq_true rfl)) dL_like_9 ⟨Nat.le_of_ble_eq_true rfl, Nat.le_of_ble_eq_true rfl⟩) hS (fun q _ h => hFc q h) hFc (fun q _ h => hFc q h) (fun E ce q9 u t H1 locs ht hvm hpx hBX hz1 hk1 hS hce hcv hcl => ?_) (fun r101 u t H1 locs ht hvm hw hB hz1 hk1 hS => ?_)
  · rcases hBX with ⟨rfl, c102⟩ | ⟨rfl, c103, c104⟩ | ⟨rfl, c105, c106, c107⟩ | ⟨rfl, c108, c109, c110, c111⟩
    · skip
      obtain ⟨hP, hD⟩ := va_join (wr := []) (w1 := []) hP hD [0, 1, 2] [] rfl rfl (by decide) (by decide) hk1 hFc P0 D0
      have hK := hK.sub (tys' := []) [] rfl
      generalize H1 = H at hP hS hce ⊢
      have hP : va_P (dC, dI) vwCl [] H := hP
      have hD : va_D A [] := hD
      refine vx_catch (own := RL) (name := "java/util/NoSuchElementException") (E := "java/util/NoSuchElementException") hown [] ⟨0, 21, 24, 30⟩ [] (htb.trans rfl) ((fun _ h => nomatch h)) (by decide) (by decide) (hts (.classLink RL 30 "java/util/NoSuchElementException") (by decide +kernel)) (va_Nw.use rfl (hZ.2.2.1 "java/util/NoSuchElementException" (by decide))) hce hcv hcl ?_
      refine W.eq (g2 := F0 m 24 ls [.ref q9]) rfl ?_
      refine W.widen (k := 1) (n := 6) (by omega) (by omega) ?_
      refine lv_astore (lv' := [(6, .ref q9), (0, .ref Ad0), (1, .int Va0), (2, .int Va1), (3, .int Va2), (4, .int Va3), (5, .ref Br0)]) hx hb dL_like_24 hl (by decide) rfl (fun ls hl => ?_)
      refine lv_iconst (v := 1) hx hb dL_like_26 (by decide) ?_
      have hP9 := hP.sub (ws' := []) [] rfl
      have hD9 := hD.sub (ws' := []) [] (by decide) rfl
      have hK9 := hK.sub (tys' := []) [] rfl
      refine vx_ret ?_
      refine W.widen (k := 1) (n := 6) (by decide) (by decide) ?_
      exact W.iret (v := 1) hx hb hr (fun t ht hW => ⟨⟨1, (), rfl, (Or.inl ⟨c102, rfl⟩), by rw [ht]; exact hP9, va_K.moved hW.alike hK9, hD9⟩, hS.F ht⟩) hS.2.2 dL_like_27
    · skip
      obtain ⟨hP, hD⟩ := va_join (wr := []) (w1 := []) hP hD [0, 1, 2] [] rfl rfl (by decide) (by decide) hk1 hFc P0 D0
      have hK := hK.sub (tys' := []) [] rfl
      generalize H1 = H at hP hS hce ⊢
      have hP : va_P (dC, dI) vwCl [] H := hP
      have hD : va_D A [] := hD
      refine vx_catch (own := RL) (name := "java/util/NoSuchElementException") (E := "java/util/NoSuchElementException") hown [] ⟨0, 21, 24, 30⟩ [] (htb.trans rfl) ((fun _ h => nomatch h)) (by decide) (by decide) (hts (.classLink RL 30 "java/util/NoSuchElementException") (by decide +kernel)) (va_Nw.use rfl (hZ.2.2.1 "java/util/NoSuchElementException" (by decide))) hce hcv hcl ?_
      refine W.eq (g2 := F0 m 24 ls [.ref q9]) rfl ?_
      refine W.widen (k := 1) (n := 6) (by omega) (by omega) ?_
      refine lv_astore (lv' := [(6, .ref q9), (0, .ref Ad0), (1, .int Va0), (2, .int Va1), (3, .int Va2), (4, .int Va3), (5, .ref Br0)]) hx hb dL_like_24 hl (by decide) rfl (fun ls hl => ?_)
      refine lv_iconst (v := 1) hx hb dL_like_26 (by decide) ?_
      have hP9 := hP.sub (ws' := []) [] rfl
      have hD9 := hD.sub (ws' := []) [] (by decide) rfl
      have hK9 := hK.sub (tys' := []) [] rfl
      refine vx_ret ?_
      refine W.widen (k := 1) (n := 6) (by decide) (by decide) ?_
      exact W.iret (v := 1) hx hb hr (fun t ht hW => ⟨⟨1, (), rfl, (Or.inr (Or.inl ⟨c103, c104, rfl⟩)), by rw [ht]; exact hP9, va_K.moved hW.alike hK9, hD9⟩, hS.F ht⟩) hS.2.2 dL_like_27
    · skip
      obtain ⟨hP, hD⟩ := va_join (wr := []) (w1 := []) hP hD [0, 1, 2] [] rfl rfl (by decide) (by decide) hk1 hFc P0 D0
      have hK := hK.sub (tys' := []) [] rfl
      generalize H1 = H at hP hS hce ⊢
      have hP : va_P (dC, dI) vwCl [] H := hP
      have hD : va_D A [] := hD
      refine vx_catch (own := RL) (name := "java/util/NoSuchElementException") (E := "java/util/NoSuchElementException") hown [] ⟨0, 21, 24, 30⟩ [] (htb.trans rfl) ((fun _ h => nomatch h)) (by decide) (by decide) (hts (.classLink RL 30 "java/util/NoSuchElementException") (by decide +kernel)) (va_Nw.use rfl (hZ.2.2.1 "java/util/NoSuchElementException" (by decide))) hce hcv hcl ?_
      refine W.eq (g2 := F0 m 24 ls [.ref q9]) rfl ?_
      refine W.widen (k := 1) (n := 6) (by omega) (by omega) ?_
      refine lv_astore (lv' := [(6, .ref q9), (0, .ref Ad0), (1, .int Va0), (2, .int Va1), (3, .int Va2), (4, .int Va3), (5, .ref Br0)]) hx hb dL_like_24 hl (by decide) rfl (fun ls hl => ?_)
      refine lv_iconst (v := 1) hx hb dL_like_26 (by decide) ?_
      have hP9 := hP.sub (ws' := []) [] rfl
      have hD9 := hD.sub (ws' := []) [] (by decide) rfl
      have hK9 := hK.sub (tys' := []) [] rfl
      refine vx_ret ?_
      refine W.widen (k := 1) (n := 6) (by decide) (by decide) ?_
      exact W.iret (v := 1) hx hb hr (fun t ht hW => ⟨⟨1, (), rfl, (Or.inr (Or.inr (Or.inl ⟨c105, c106, c107, rfl⟩))), by rw [ht]; exact hP9, va_K.moved hW.alike hK9, hD9⟩, hS.F ht⟩) hS.2.2 dL_like_27
    · skip
      obtain ⟨hP, hD⟩ := va_join (wr := []) (w1 := []) hP hD [0, 1, 2] [] rfl rfl (by decide) (by decide) hk1 hFc P0 D0
      have hK := hK.sub (tys' := []) [] rfl
      generalize H1 = H at hP hS hce ⊢
      have hP : va_P (dC, dI) vwCl [] H := hP
      have hD : va_D A [] := hD
      refine vx_catch (own := RL) (name := "java/util/NoSuchElementException") (E := "java/util/NoSuchElementException") hown [] ⟨0, 21, 24, 30⟩ [] (htb.trans rfl) ((fun _ h => nomatch h)) (by decide) (by decide) (hts (.classLink RL 30 "java/util/NoSuchElementException") (by decide +kernel)) (va_Nw.use rfl (hZ.2.2.1 "java/util/NoSuchElementException" (by decide))) hce hcv hcl ?_
      refine W.eq (g2 := F0 m 24 ls [.ref q9]) rfl ?_
      refine W.widen (k := 1) (n := 6) (by omega) (by omega) ?_
      refine lv_astore (lv' := [(6, .ref q9), (0, .ref Ad0), (1, .int Va0), (2, .int Va1), (3, .int Va2), (4, .int Va3), (5, .ref Br0)]) hx hb dL_like_24 hl (by decide) rfl (fun ls hl => ?_)
      refine lv_iconst (v := 1) hx hb dL_like_26 (by decide) ?_
      have hP9 := hP.sub (ws' := []) [] rfl
      have hD9 := hD.sub (ws' := []) [] (by decide) rfl
      have hK9 := hK.sub (tys' := []) [] rfl
      refine vx_ret ?_
      refine W.widen (k := 1) (n := 6) (by decide) (by decide) ?_
      exact W.iret (v := 1) hx hb hr (fun t ht hW => ⟨⟨1, (), rfl, (Or.inr (Or.inr (Or.inr (⟨c108, c109, c110, c111, rfl⟩)))), by rw [ht]; exact hP9, va_K.moved hW.alike hK9, hD9⟩, hS.F ht⟩) hS.2.2 dL_like_27
  · exact hw.elim

def l_z_L_ask : List Cond := [.methodLink RL 91 yX11_ask, .instanceMethod yX11_ask, .selects RX11 yX11_ask yX11_ask, .initialized RX11, .classLink RL 13 "java/lang/IndexOutOfBoundsException", .classLink RL 15 "java/lang/IllegalArgumentException", .code yX11_ask cX11_ask 3 (some .int), .methodLink RX11 353 yX11_needPicture, .static yX11_needPicture, .fieldLink RX11 62 "HeapWorks" "machine" "LHeapWorks$Machine;", .fieldLink RX11 464 "HeapWorks$Machine" "rowCount" "I", .fieldLink RX11 55 "HeapWorks" "question" "LHeapWorks$Program;", .methodLink RX11 466 yX6_readQuestion, .instanceMethod yX6_readQuestion, .selects RX6 yX6_readQuestion yX6_readQuestion, .initialized RX6, .fieldLink RX11 333 "HeapWorks$Program" "fault" "I", .fieldLink RX11 336 "HeapWorks$Program" "place" "I", .methodLink RX11 339 yX11_tellFault, .instanceMethod yX11_tellFault, .selects RX11 yX11_tellFault yX11_tellFault, .fieldLink RX11 469 "HeapWorks" "faultCode" "I", .classLink RX11 127 "java/lang/IllegalArgumentException", .initialized "java/lang/IllegalArgumentException", .code yX11_needPicture cX11_needPicture 1 none, .methodLink RX11 411 yX11_isPicture, .static yX11_isPicture, .classLink RX11 120 "java/lang/IndexOutOfBoundsException", .initialized "java/lang/IndexOutOfBoundsException", .code yX11_isPicture cX11_isPicture 1 (some .boolean), .code yX6_readQuestion cX6_readQuestion 2 (some .boolean), .methodLink RX6 38 yX6_start, .instanceMethod yX6_start, .selects RX6 yX6_start yX6_start, .methodLink RX6 54 yX6_readSet, .instanceMethod yX6_readSet, .selects RX6 yX6_readSet yX6_readSet, .code yX6_start cX6_start 1 none, .fieldLink RX6 72 "HeapWorks$Program" "steps" "I", .fieldLink RX6 75 "HeapWorks$Program" "fault" "I", .fieldLink RX6 78 "HeapWorks$Program" "place" "I", .fieldLink RX6 81 "HeapWorks$Program" "usesHolders" "Z", .fieldLink RX6 84 "HeapWorks$Program" "usesKept" "Z", .fieldLink RX6 87 "HeapWorks$Program" "nodes" "I", .fieldLink RX6 90 "HeapWorks$Program" "nest" "I", .fieldLink RX6 93 "HeapWorks$Program" "folds" "I", .fieldLink RX6 62 "HeapWorks$Program" "itKnown" "Z", .fieldLink RX6 96 "HeapWorks$Program" "scopes" "I", .fieldLink RX6 99 "HeapWorks$Program" "waits" "I", .fieldLink RX6 9 "HeapWorks$Program" "tape" "LHeapWorks$Tape;", .methodLink RX6 102 yX9_startWords, .instanceMethod yX9_startWords, .selects RX9 yX9_startWords yX9_startWords, .initialized RX9, .code yX9_startWords cX9_startWords 2 none, .fieldLink RX9 69 "HeapWorks$Tape" "at" "I", .methodLink RX9 72 yX9_scanWord, .instanceMethod yX9_scanWord, .selects RX9 yX9_scanWord yX9_scanWord, .fieldLink RX9 18 "HeapWorks$Tape" "words" "[I", .fieldLink RX9 75 "HeapWorks$Tape" "word" "I", .fieldLink RX9 21 "HeapWorks$Tape" "places" "[I", .fieldLink RX9 78 "HeapWorks$Tape" "place" "I", .fieldLink RX9 24 "HeapWorks$Tape" "codes" "[J", .fieldLink RX9 81 "HeapWorks$Tape" "code" "J", .fieldLink RX9 85 "HeapWorks$Tape" "next" "I", .methodLink RX9 88 yX9_nextWord, .instanceMethod yX9_nextWord, .selects RX9 yX9_nextWord yX9_nextWord, .code yX9_scanWord cX9_scanWord 1 none, .fieldLink RX9 49 "HeapWorks$Tape" "size" "I", .code yX9_nextWord cX9_nextWord 1 none, .code yX6_readSet cX6_readSet 3 (some .boolean), .fieldLink RX6 45 "HeapWorks$Tape" "word" "I", .methodLink RX6 51 yX6_refuse, .instanceMethod yX6_refuse, .selects RX6 yX6_refuse yX6_refuse, .code yX6_refuse cX6_refuse 1 (some .boolean), .methodLink RX6 112 yX6_fail, .instanceMethod yX6_fail, .selects RX6 yX6_fail yX6_fail, .code yX6_fail cX6_fail 2 (some .boolean), .fieldLink RX6 111 "HeapWorks$Tape" "place" "I", .code yX11_tellFault cX11_tellFault 3 none, .fieldLink RX11 98 "HeapWorks" "faultPlace" "I"]
def w_z_L_ask : List Cond := .codeWith yL_ask cL_ask 4 (some .int) [(0, 9, 12, 13), (0, 9, 15, 15)] :: (l_z_L_ask ++ ((wsX110 ++ (wsX40 ++ (wsX60 ++ (((vx_at0 RX11 129 "java/lang/IllegalArgumentException" ["java/lang/RuntimeException", "java/lang/Exception"]).filter goodWord) ++ (((vx_at0 RX11 122 "java/lang/IndexOutOfBoundsException" ["java/lang/RuntimeException", "java/lang/Exception"]).filter goodWord) ++ wsX90)))))))
theorem in_z_L_ask_X11 : ∀ w ∈ wsX110, w ∈ w_z_L_ask := fun w h => List.mem_cons_of_mem _ (List.mem_append_right _ (List.mem_append_left _ h))
theorem in_z_L_ask_X4 : ∀ w ∈ wsX40, w ∈ w_z_L_ask := fun w h => List.mem_cons_of_mem _ (List.mem_append_right _ (List.mem_append_right _ (List.mem_append_left _ h)))
theorem in_z_L_ask_X6 : ∀ w ∈ wsX60, w ∈ w_z_L_ask := fun w h => List.mem_cons_of_mem _ (List.mem_append_right _ (List.mem_append_right _ (List.mem_append_right _ (List.mem_append_left _ h))))
theorem in_z_L_ask_at0_X11_129 : ∀ w ∈ ((vx_at0 RX11 129 "java/lang/IllegalArgumentException" ["java/lang/RuntimeException", "java/lang/Exception"]).filter goodWord), w ∈ w_z_L_ask := fun w h => List.mem_cons_of_mem _ (List.mem_append_right _ (List.mem_append_right _ (List.mem_append_right _ (List.mem_append_right _ (List.mem_append_left _ h)))))
theorem in_z_L_ask_at0_X11_122 : ∀ w ∈ ((vx_at0 RX11 122 "java/lang/IndexOutOfBoundsException" ["java/lang/RuntimeException", "java/lang/Exception"]).filter goodWord), w ∈ w_z_L_ask := fun w h => List.mem_cons_of_mem _ (List.mem_append_right _ (List.mem_append_right _ (List.mem_append_right _ (List.mem_append_right _ (List.mem_append_right _ (List.mem_append_left _ h))))))
theorem in_z_L_ask_X9 : ∀ w ∈ wsX90, w ∈ w_z_L_ask := fun w h => List.mem_cons_of_mem _ (List.mem_append_right _ (List.mem_append_right _ (List.mem_append_right _ (List.mem_append_right _ (List.mem_append_right _ (List.mem_append_right _ (h)))))))
theorem g_z_L_ask_z_X11_ask_91 : GoodIn w_z_L_ask (wsV RL 91 RX11 yX11_ask w_z_X11_ask) := goodIn_app (goodIn_r (([.methodLink RL 91 yX11_ask, .instanceMethod yX11_ask, .selects RX11 yX11_ask yX11_ask, .initialized RX11] : List Cond)) [1, 2, 3, 4] rfl (by decide +kernel)) (goodIn_ca (goodIn_r (.code yX11_ask cX11_ask 3 (some .int) :: l_z_X11_ask) [7, 8, 9, 4, 10, 11, 12, 13, 14, 15, 16, 17, 18, 19, 20, 21, 22, 23, 24, 25, 26, 27, 28, 29, 30, 31, 32, 33, 34, 35, 36, 37, 38, 39, 40, 41, 42, 43, 44, 45, 46, 47, 48, 49, 50, 51, 52, 53, 54, 55, 56, 57, 58, 59, 60, 61, 62, 63, 64, 65, 66, 67, 68, 69, 70, 71, 72, 73, 74, 75, 76, 77, 78, 79, 80, 81, 82, 83, 84, 85] rfl (by decide +kernel)) (goodIn_app (goodIn_in (in_z_L_ask_X11) gd_X11) (goodIn_app (goodIn_in (in_z_L_ask_X4) gd_X4) (goodIn_app (goodIn_in (in_z_L_ask_X6) gd_X6) (goodIn_app (goodIn_in (in_z_L_ask_at0_X11_129) gd_at0_X11_129) (goodIn_app (goodIn_in (in_z_L_ask_at0_X11_122) gd_at0_X11_122) (goodIn_in (in_z_L_ask_X9) gd_X9)))))))
set_option maxHeartbeats 4000000 in
set_option maxRecDepth 100000 in
theorem z_L_ask (l : Launch) (dC : Nat → ClassId) (dI : Nat → Nat → Nat) (sz : Nat) (Ad0 : Nat) (Fs0 : List Value) (Ad1 : Nat) (Fs1 : List Value) (Ad2 : Nat) (Fa0 : Nat → Int32) (Ka0 : ClassId) (Ad3 : Nat) (Fa1 : Nat → Int32) (Ka1 : ClassId) (Ad4 : Nat) (Fa2 : Nat → Int64) (Ka2 : ClassId) (Ad5 : Nat) (Fs2 : List Value) (Ad6 : Nat) (Fs3 : List Value) (Va0 : Int32) (Br0 : Nat) (k_Fs0 : fh Fs0 18 [(6, .ref Ad5), (7, .ref Ad6), (16, .int 0)]) (k_Fs1 : fh Fs1 12 [(1, .int 0), (5, .ref Ad2), (6, .ref Ad3), (7, .ref Ad4)]) (k_Fs2 : fh Fs2 19 [(0, .ref Ad1)]) (k_Fs3 : fh Fs3 21 []) (hst : l.stackTraces = false)  : vx_Met l yL_ask w_z_L_ask ({ frames := 9, cells := 2, slots := 12, locals := 182 }) (va_Pc [.ref Ad0, .int Va0, .ref Br0] (fun U => U.heap.size = sz ∧ Zz (va_A [(Ad0, .inr (14, Fs0)), (Ad1, .inr (12, Fs1)), (Ad2, .inl (Ka0, 4001, .inl Fa0)), (Ad3, .inl (Ka1, 4001, .inl Fa1)), (Ad4, .inl (Ka2, 4001, .inr (.inl Fa2))), (Ad5, .inr (9, Fs2)), (Ad6, .inr (7, Fs3))] sz) U ∧ Yy U ∧ Wd dC dI [(Ka0, .int), (Ka1, .int), (Ka2, .long)] (fun _ => True) [(Ad0, .inr (14, Fs0)), (Ad1, .inr (12, Fs1)), (Ad2, .inl (Ka0, 4001, .inl Fa0)), (Ad3, .inl (Ka1, 4001, .inl Fa1)), (Ad4, .inl (Ka2, 4001, .inr (.inl Fa2))), (Ad5, .inr (9, Fs2)), (Ad6, .inr (7, Fs3))] U)) (va_Qi (fun (r : Int32) (u : Unit) => (Va0 < 0 ∧ r = 1) ∨ (¬ Va0 < 0 ∧ 4 ≤ Va0 ∧ r = 1) ∨ (¬ Va0 < 0 ∧ ¬ 4 ≤ Va0 ∧ r = 2)) (fun (u : Unit) t => Wd dC dI [] (va_A [(Ad0, .inr (14, Fs0)), (Ad1, .inr (12, Fs1)), (Ad2, .inl (Ka0, 4001, .inl Fa0)), (Ad3, .inl (Ka1, 4001, .inl Fa1)), (Ad4, .inl (Ka2, 4001, .inr (.inl Fa2))), (Ad5, .inr (9, Fs2)), (Ad6, .inr (7, Fs3))] sz) [] t) (va_A [(Ad0, .inr (14, Fs0)), (Ad1, .inr (12, Fs1)), (Ad2, .inl (Ka0, 4001, .inl Fa0)), (Ad3, .inl (Ka1, 4001, .inl Fa1)), (Ad4, .inl (Ka2, 4001, .inr (.inl Fa2))), (Ad5, .inr (9, Fs2)), (Ad6, .inr (7, Fs3))] sz)) (vx_X (fun _ : Unit => True) (fun E _ _ => False) (va_A [(Ad0, .inr (14, Fs0)), (Ad1, .inr (12, Fs1)), (Ad2, .inl (Ka0, 4001, .inl Fa0)), (Ad3, .inl (Ka1, 4001, .inl Fa1)), (Ad4, .inl (Ka2, 4001, .inr (.inl Fa2))), (Ad5, .inr (9, Fs2)), (Ad6, .inr (7, Fs3))] sz)) 2 12 (va_A [(Ad0, .inr (14, Fs0)), (Ad1, .inr (12, Fs1)), (Ad2, .inl (Ka0, 4001, .inl Fa0)), (Ad3, .inl (Ka1, 4001, .inl Fa1)), (Ad4, .inl (Ka2, 4001, .inr (.inl Fa2))), (Ad5, .inr (9, Fs2)), (Ad6, .inr (7, Fs3))] sz) := by
  refine vx_ofWH (cc := cL_ask) (maxL := 4) (ret := (some .int)) (by decide) rfl ?_
  intro p e s m args below meth c s₁ B hml hv
  obtain ⟨rfl, hsz, hZ, hY, hP, hK, hD0⟩ := hv
  have hx := B.exec
  have hb := B.bytes
  have hr := B.returns
  have hts := atoms_spec (ws := w_z_L_ask) B.pre
  have hown : s.vm.findClass RL = some m.cls := findClass_of_methodNamed B.named
  have hlocks := B.notSynchronized
  have htb := vx_table (x := yL_ask) B (hts (.codeWith yL_ask cL_ask 4 (some .int) [(0, 9, 12, 13), (0, 9, 15, 15)]) (by decide +kernel))
  subst hsz
  have hD := hD0.self (sz := s.heap.size)
  generalize hAe : va_A [(Ad0, .inr (14, Fs0)), (Ad1, .inr (12, Fs1)), (Ad2, .inl (Ka0, 4001, .inl Fa0)), (Ad3, .inl (Ka1, 4001, .inl Fa1)), (Ad4, .inl (Ka2, 4001, .inr (.inl Fa2))), (Ad5, .inr (9, Fs2)), (Ad6, .inr (7, Fs3))] s.heap.size = A at hD hZ ⊢
  have hA : ∀ q : Nat, s.heap.size ≤ q → A q := fun q h => by rw [← hAe]; exact Or.inr h
  have hS : va_S A s.heap s.heap [] := va_S.rf
  have hl := lv_entry ([.ref Ad0, .int Va0, .ref Br0]) (n := 4) (Nat.le_of_ble_eq_true rfl)
  rw [lg_entry_eq]
  generalize (lg_sl ([.ref Ad0, .int Va0, .ref Br0]) ++ List.replicate (4 - (lg_sl ([.ref Ad0, .int Va0, .ref Br0])).length) Slot.unset).toArray = ls at hl ⊢
  have hl : lv_has ls 4 [(0, .ref Ad0), (1, .int Va0), (2, .ref Br0)] := hl
  have o_Fs0 := ow_0 k_Fs0
  have o_Fs1 := ow_0 k_Fs1
  have o_Fs2 := ow_0 k_Fs2
  have o_Fs3 := ow_0 k_Fs3
  refine lv_aload_n hx hb dL_ask_0 rfl (lv_at hl 2 rfl) ?_
  refine lv_iconst (v := 0) hx hb dL_ask_1 (by decide) ?_
  refine lv_aload_n hx hb dL_ask_2 rfl (lv_at hl 0 rfl) ?_
  refine lv_iload_n hx hb dL_ask_3 rfl (lv_at hl 1 rfl) ?_
  have hPc := hP.sub (ws' := [(Ad0, .inr (14, Fs0)), (Ad1, .inr (12, Fs1)), (Ad2, .inl (Ka0, 4001, .inl Fa0)), (Ad3, .inl (Ka1, 4001, .inl Fa1)), (Ad4, .inl (Ka2, 4001, .inr (.inl Fa2))), (Ad5, .inr (9, Fs2)), (Ad6, .inr (7, Fs3))]) [0, 1, 2, 3, 4, 5, 6] rfl
  have hDc := hD.sub (ws' := [(Ad0, .inr (14, Fs0)), (Ad1, .inr (12, Fs1)), (Ad2, .inl (Ka0, 4001, .inl Fa0)), (Ad3, .inl (Ka1, 4001, .inl Fa1)), (Ad4, .inl (Ka2, 4001, .inr (.inl Fa2))), (Ad5, .inr (9, Fs2)), (Ad6, .inr (7, Fs3))]) [0, 1, 2, 3, 4, 5, 6] (by decide) rfl
  have hKc := hK.sub (tys' := [(Ka0, .int), (Ka1, .int), (Ka2, .long)]) [0, 1, 2] rfl
  have hFc := va_free (wc := [(Ad0, .inr (14, Fs0)), (Ad1, .inr (12, Fs1)), (Ad2, .inl (Ka0, 4001, .inl Fa0)), (Ad3, .inl (Ka1, 4001, .inl Fa1)), (Ad4, .inl (Ka2, 4001, .inr (.inl Fa2))), (Ad5, .inr (9, Fs2)), (Ad6, .inr (7, Fs3))]) hD hS hA [0, 1, 2, 3, 4, 5, 6] rfl
  refine vx_calli (vx_runV (As := [.int Va0]) (rest := [.int 0, .ref Br0]) ⟨hx, hb, hml, hown, hts⟩ (z_X11_ask l dC dI s.heap.size Ad0 Fs0 Ad1 Fs1 Ad2 Fa0 Ka0 Ad3 Fa1 Ka1 Ad4 Fa2 Ka2 Ad5 Fs2 Ad6 Fs3 Va0 (fh_sub o_Fs0.2 [0, 1, 2] rfl) (fh_sub o_Fs1.2 [0, 1, 2, 3] rfl) (fh_sub o_Fs2.2 [0] rfl) (fh_sub o_Fs3.2 [] rfl) hst ) (cwV 1 hts g_z_L_ask_z_X11_ask_91 rfl rfl rfl (by decide +kernel) ⟨Nat.le_of_ble_eq_true rfl, Nat.le_of_ble_eq_true rfl⟩) ⟨fun a U g mk q => by obtain ⟨q0, q1, qZ, qP, qK, qD⟩ := q; exact ⟨q0, q1, Zz_call qZ, qP, va_K.moved (u := U) (U := U.calling g mk a) (Vm.Alike.refl U.vm) qK, qD⟩, va_recv hK hP (ci := 14) (q0 := 0) rfl rfl, fun U hU hW => ⟨rfl, by rw [hU], Zz_go hZ hS hFc hU hW, by rw [hU]; exact hPc, va_K.moved hW.alike hKc, hDc.weaken (fun _ _ _ _ => trivial)⟩⟩ rfl rfl hl.1 rfl (lv_room (Nat.le_of_ble_eq_true rfl)) dL_ask_4 ⟨Nat.le_of_ble_eq_true rfl, Nat.le_of_ble_eq_true rfl⟩) hS (fun q _ h => hFc q h) hFc (fun q _ h => hFc q h) (fun E ce q9 u t H1 locs ht hvm hpx hBX hz1 hk1 hS hce hcv hcl => ?_) (fun r101 u t H1 locs ht hvm hw hB hz1 hk1 hS => ?_)
  · rcases hBX with ⟨rfl, c102⟩ | ⟨rfl, c103, c104⟩ | ⟨rfl, c105, c106⟩
    · skip
      obtain ⟨hP, hD⟩ := va_join (wr := []) (w1 := []) hP hD [0, 1, 2, 3, 4, 5, 6] [] rfl rfl (by decide) (by decide) hk1 hFc P0 D0
      have hK := hK.sub (tys' := []) [] rfl
      generalize H1 = H at hP hS hce ⊢
      have hP : va_P (dC, dI) vwCl [] H := hP
      have hD : va_D A [] := hD
      refine vx_catch (own := RL) (name := "java/lang/IndexOutOfBoundsException") (E := "java/lang/IndexOutOfBoundsException") hown [] ⟨0, 9, 12, 13⟩ [⟨0, 9, 15, 15⟩] (htb.trans rfl) ((fun _ h => nomatch h)) (by decide) (by decide) (hts (.classLink RL 13 "java/lang/IndexOutOfBoundsException") (by decide +kernel)) (va_Nw.use rfl (hZ.2.2.1 "java/lang/IndexOutOfBoundsException" (by decide))) hce hcv hcl ?_
      refine W.eq (g2 := F0 m 12 ls [.ref q9]) rfl ?_
      refine W.widen (k := 2) (n := 12) (by omega) (by omega) ?_
      refine lv_astore_n (lv' := [(3, .ref q9), (0, .ref Ad0), (1, .int Va0), (2, .ref Br0)]) hx hb dL_ask_12 rfl hl (by decide) rfl (fun ls hl => ?_)
      refine lv_iconst (v := 1) hx hb dL_ask_13 (by decide) ?_
      have hP9 := hP.sub (ws' := []) [] rfl
      have hD9 := hD.sub (ws' := []) [] (by decide) rfl
      have hK9 := hK.sub (tys' := []) [] rfl
      refine vx_ret ?_
      refine W.widen (k := 2) (n := 12) (by decide) (by decide) ?_
      exact W.iret (v := 1) hx hb hr (fun t ht hW => ⟨⟨1, (), rfl, (Or.inl ⟨c102, rfl⟩), by rw [ht]; exact hP9, va_K.moved hW.alike hK9, hD9⟩, hS.F ht⟩) hS.2.2 dL_ask_14
    · skip
      obtain ⟨hP, hD⟩ := va_join (wr := []) (w1 := []) hP hD [0, 1, 2, 3, 4, 5, 6] [] rfl rfl (by decide) (by decide) hk1 hFc P0 D0
      have hK := hK.sub (tys' := []) [] rfl
      generalize H1 = H at hP hS hce ⊢
      have hP : va_P (dC, dI) vwCl [] H := hP
      have hD : va_D A [] := hD
      refine vx_catch (own := RL) (name := "java/lang/IndexOutOfBoundsException") (E := "java/lang/IndexOutOfBoundsException") hown [] ⟨0, 9, 12, 13⟩ [⟨0, 9, 15, 15⟩] (htb.trans rfl) ((fun _ h => nomatch h)) (by decide) (by decide) (hts (.classLink RL 13 "java/lang/IndexOutOfBoundsException") (by decide +kernel)) (va_Nw.use rfl (hZ.2.2.1 "java/lang/IndexOutOfBoundsException" (by decide))) hce hcv hcl ?_
      refine W.eq (g2 := F0 m 12 ls [.ref q9]) rfl ?_
      refine W.widen (k := 2) (n := 12) (by omega) (by omega) ?_
      refine lv_astore_n (lv' := [(3, .ref q9), (0, .ref Ad0), (1, .int Va0), (2, .ref Br0)]) hx hb dL_ask_12 rfl hl (by decide) rfl (fun ls hl => ?_)
      refine lv_iconst (v := 1) hx hb dL_ask_13 (by decide) ?_
      have hP9 := hP.sub (ws' := []) [] rfl
      have hD9 := hD.sub (ws' := []) [] (by decide) rfl
      have hK9 := hK.sub (tys' := []) [] rfl
      refine vx_ret ?_
      refine W.widen (k := 2) (n := 12) (by decide) (by decide) ?_
      exact W.iret (v := 1) hx hb hr (fun t ht hW => ⟨⟨1, (), rfl, (Or.inr (Or.inl ⟨c103, c104, rfl⟩)), by rw [ht]; exact hP9, va_K.moved hW.alike hK9, hD9⟩, hS.F ht⟩) hS.2.2 dL_ask_14
    · skip
      obtain ⟨hP, hD⟩ := va_join (wr := []) (w1 := []) hP hD [0, 1, 2, 3, 4, 5, 6] [] rfl rfl (by decide) (by decide) hk1 hFc P0 D0
      have hK := hK.sub (tys' := []) [] rfl
      generalize H1 = H at hP hS hce ⊢
      have hP : va_P (dC, dI) vwCl [] H := hP
      have hD : va_D A [] := hD
      refine vx_catch (own := RL) (name := "java/lang/IllegalArgumentException") (E := "java/lang/IllegalArgumentException") hown [⟨0, 9, 12, 13⟩] ⟨0, 9, 15, 15⟩ [] (htb.trans rfl) (List.forall_mem_cons.mpr ⟨Or.inr ⟨by decide, "java/lang/IndexOutOfBoundsException", (hts (.classLink RL 13 "java/lang/IndexOutOfBoundsException") (by decide +kernel)), hY "java/lang/IllegalArgumentException" (by decide) "java/lang/IndexOutOfBoundsException" (by decide) (by decide)⟩, (fun _ h => nomatch h)⟩) (by decide) (by decide) (hts (.classLink RL 15 "java/lang/IllegalArgumentException") (by decide +kernel)) (va_Nw.use rfl (hZ.2.2.1 "java/lang/IllegalArgumentException" (by decide))) hce hcv hcl ?_
      refine W.eq (g2 := F0 m 15 ls [.ref q9]) rfl ?_
      refine W.widen (k := 2) (n := 12) (by omega) (by omega) ?_
      refine lv_astore_n (lv' := [(3, .ref q9), (0, .ref Ad0), (1, .int Va0), (2, .ref Br0)]) hx hb dL_ask_15 rfl hl (by decide) rfl (fun ls hl => ?_)
      refine lv_iconst (v := 2) hx hb dL_ask_16 (by decide) ?_
      have hP9 := hP.sub (ws' := []) [] rfl
      have hD9 := hD.sub (ws' := []) [] (by decide) rfl
      have hK9 := hK.sub (tys' := []) [] rfl
      refine vx_ret ?_
      refine W.widen (k := 2) (n := 12) (by decide) (by decide) ?_
      exact W.iret (v := 2) hx hb hr (fun t ht hW => ⟨⟨2, (), rfl, (Or.inr (Or.inr (⟨c105, c106, rfl⟩))), by rw [ht]; exact hP9, va_K.moved hW.alike hK9, hD9⟩, hS.F ht⟩) hS.2.2 dL_ask_17
  · exact hw.elim

def l_z_L_answer : List Cond := [.methodLink RL 94 yX11_answer, .instanceMethod yX11_answer, .selects RX11 yX11_answer yX11_answer, .initialized RX11, .classLink RL 30 "java/util/NoSuchElementException", .code yX11_answer cX11_answer 3 (some .long), .classLink RX11 221 "java/util/NoSuchElementException", .initialized "java/util/NoSuchElementException", .fieldLink RX11 62 "HeapWorks" "machine" "LHeapWorks$Machine;", .fieldLink RX11 464 "HeapWorks$Machine" "rowCount" "I"]
def w_z_L_answer : List Cond := .codeWith yL_answer cL_answer 5 (some .int) [(0, 9, 12, 30)] :: (l_z_L_answer ++ ((((vx_at0 RX11 223 "java/util/NoSuchElementException" ["java/lang/RuntimeException", "java/lang/Exception"]).filter goodWord) ++ (wsX110 ++ wsX40))))
theorem in_z_L_answer_at0_X11_223 : ∀ w ∈ ((vx_at0 RX11 223 "java/util/NoSuchElementException" ["java/lang/RuntimeException", "java/lang/Exception"]).filter goodWord), w ∈ w_z_L_answer := fun w h => List.mem_cons_of_mem _ (List.mem_append_right _ (List.mem_append_left _ h))
theorem in_z_L_answer_X11 : ∀ w ∈ wsX110, w ∈ w_z_L_answer := fun w h => List.mem_cons_of_mem _ (List.mem_append_right _ (List.mem_append_right _ (List.mem_append_left _ h)))
theorem in_z_L_answer_X4 : ∀ w ∈ wsX40, w ∈ w_z_L_answer := fun w h => List.mem_cons_of_mem _ (List.mem_append_right _ (List.mem_append_right _ (List.mem_append_right _ (h))))
theorem g_z_L_answer_z_X11_answer_94 : GoodIn w_z_L_answer (wsV RL 94 RX11 yX11_answer w_z_X11_answer) := goodIn_app (goodIn_r (([.methodLink RL 94 yX11_answer, .instanceMethod yX11_answer, .selects RX11 yX11_answer yX11_answer, .initialized RX11] : List Cond)) [1, 2, 3, 4] rfl (by decide +kernel)) (goodIn_ca (goodIn_r (.code yX11_answer cX11_answer 3 (some .long) :: l_z_X11_answer) [6, 7, 8, 9, 10] rfl (by decide +kernel)) (goodIn_app (goodIn_in (in_z_L_answer_at0_X11_223) gd_at0_X11_223) (goodIn_app (goodIn_in (in_z_L_answer_X11) gd_X11) (goodIn_in (in_z_L_answer_X4) gd_X4))))
set_option maxHeartbeats 4000000 in
set_option maxRecDepth 100000 in
theorem z_L_answer (l : Launch) (dC : Nat → ClassId) (dI : Nat → Nat → Nat) (sz : Nat) (Ad0 : Nat) (Fs0 : List Value) (Ad1 : Nat) (Fs1 : List Value) (Va0 : Int32) (Va1 : Int32) (Br0 : Nat) (k_Fs0 : fh Fs0 18 [(7, .ref Ad1)]) (k_Fs1 : fh Fs1 21 [(20, .int 0)]) (hst : l.stackTraces = false)  : vx_Met l yL_answer w_z_L_answer ({ frames := 8, cells := 1, slots := 6, locals := 162 }) (va_Pc [.ref Ad0, .int Va0, .int Va1, .ref Br0] (fun U => U.heap.size = sz ∧ Zz (va_A [(Ad0, .inr (14, Fs0)), (Ad1, .inr (7, Fs1))] sz) U ∧ Yy U ∧ Wd dC dI [] (fun _ => True) [(Ad0, .inr (14, Fs0)), (Ad1, .inr (7, Fs1))] U)) (va_Qi (fun (r : Int32) (u : Unit) => (Va0 < 0 ∧ r = 1) ∨ (¬ Va0 < 0 ∧ 0 ≤ Va0 ∧ r = 1)) (fun (u : Unit) t => Wd dC dI [] (va_A [(Ad0, .inr (14, Fs0)), (Ad1, .inr (7, Fs1))] sz) [] t) (va_A [(Ad0, .inr (14, Fs0)), (Ad1, .inr (7, Fs1))] sz)) (vx_X (fun _ : Unit => True) (fun E _ _ => False) (va_A [(Ad0, .inr (14, Fs0)), (Ad1, .inr (7, Fs1))] sz)) 1 6 (va_A [(Ad0, .inr (14, Fs0)), (Ad1, .inr (7, Fs1))] sz) := by
  refine vx_ofWH (cc := cL_answer) (maxL := 5) (ret := (some .int)) (by decide) rfl ?_
  intro p e s m args below meth c s₁ B hml hv
  obtain ⟨rfl, hsz, hZ, hY, hP, hK, hD0⟩ := hv
  have hx := B.exec
  have hb := B.bytes
  have hr := B.returns
  have hts := atoms_spec (ws := w_z_L_answer) B.pre
  have hown : s.vm.findClass RL = some m.cls := findClass_of_methodNamed B.named
  have hlocks := B.notSynchronized
  have htb := vx_table (x := yL_answer) B (hts (.codeWith yL_answer cL_answer 5 (some .int) [(0, 9, 12, 30)]) (by decide +kernel))
  subst hsz
  have hD := hD0.self (sz := s.heap.size)
  generalize hAe : va_A [(Ad0, .inr (14, Fs0)), (Ad1, .inr (7, Fs1))] s.heap.size = A at hD hZ ⊢
  have hA : ∀ q : Nat, s.heap.size ≤ q → A q := fun q h => by rw [← hAe]; exact Or.inr h
  have hS : va_S A s.heap s.heap [] := va_S.rf
  have hl := lv_entry ([.ref Ad0, .int Va0, .int Va1, .ref Br0]) (n := 5) (Nat.le_of_ble_eq_true rfl)
  rw [lg_entry_eq]
  generalize (lg_sl ([.ref Ad0, .int Va0, .int Va1, .ref Br0]) ++ List.replicate (5 - (lg_sl ([.ref Ad0, .int Va0, .int Va1, .ref Br0])).length) Slot.unset).toArray = ls at hl ⊢
  have hl : lv_has ls 5 [(0, .ref Ad0), (1, .int Va0), (2, .int Va1), (3, .ref Br0)] := hl
  have o_Fs0 := ow_0 k_Fs0
  have o_Fs1 := ow_0 k_Fs1
  refine lv_aload_n hx hb dL_answer_0 rfl (lv_at hl 3 rfl) ?_
  refine lv_iconst (v := 0) hx hb dL_answer_1 (by decide) ?_
  refine lv_aload_n hx hb dL_answer_2 rfl (lv_at hl 0 rfl) ?_
  refine lv_iload_n hx hb dL_answer_3 rfl (lv_at hl 1 rfl) ?_
  refine lv_iload_n hx hb dL_answer_4 rfl (lv_at hl 2 rfl) ?_
  have hPc := hP.sub (ws' := [(Ad0, .inr (14, Fs0)), (Ad1, .inr (7, Fs1))]) [0, 1] rfl
  have hDc := hD.sub (ws' := [(Ad0, .inr (14, Fs0)), (Ad1, .inr (7, Fs1))]) [0, 1] (by decide) rfl
  have hKc := hK.sub (tys' := []) [] rfl
  have hFc := va_free (wc := [(Ad0, .inr (14, Fs0)), (Ad1, .inr (7, Fs1))]) hD hS hA [0, 1] rfl
  refine vx_calll (vx_runV (As := [.int Va0, .int Va1]) (rest := [.int 0, .ref Br0]) ⟨hx, hb, hml, hown, hts⟩ (z_X11_answer l dC dI s.heap.size Ad0 Fs0 Ad1 Fs1 Va0 Va1 (fh_sub o_Fs0.2 [0] rfl) (fh_sub o_Fs1.2 [0] rfl) hst ) (cwV 2 hts g_z_L_answer_z_X11_answer_94 rfl rfl rfl (by decide +kernel) ⟨Nat.le_of_ble_eq_true rfl, Nat.le_of_ble_eq_true rfl⟩) ⟨fun a U g mk q => by obtain ⟨q0, q1, qZ, qP, qK, qD⟩ := q; exact ⟨q0, q1, Zz_call qZ, qP, va_K.moved (u := U) (U := U.calling g mk a) (Vm.Alike.refl U.vm) qK, qD⟩, va_recv hK hP (ci := 14) (q0 := 0) rfl rfl, fun U hU hW => ⟨rfl, by rw [hU], Zz_go hZ hS hFc hU hW, by rw [hU]; exact hPc, va_K.moved hW.alike hKc, hDc.weaken (fun _ _ _ _ => trivial)⟩⟩ rfl rfl hl.1 rfl (lv_room (Nat.le_of_ble_eq_true rfl)) dL_answer_5 ⟨Nat.le_of_ble_eq_true rfl, Nat.le_of_ble_eq_true rfl⟩) hS (fun q _ h => hFc q h) hFc (fun q _ h => hFc q h) (fun E ce q9 u t H1 locs ht hvm hpx hBX hz1 hk1 hS hce hcv hcl => ?_) (fun r101 u t H1 locs ht hvm hw hB hz1 hk1 hS => ?_)
  · rcases hBX with ⟨rfl, c102⟩ | ⟨rfl, c103, c104⟩
    · skip
      obtain ⟨hP, hD⟩ := va_join (wr := []) (w1 := []) hP hD [0, 1] [] rfl rfl (by decide) (by decide) hk1 hFc P0 D0
      have hK := hK.sub (tys' := []) [] rfl
      generalize H1 = H at hP hS hce ⊢
      have hP : va_P (dC, dI) vwCl [] H := hP
      have hD : va_D A [] := hD
      refine vx_catch (own := RL) (name := "java/util/NoSuchElementException") (E := "java/util/NoSuchElementException") hown [] ⟨0, 9, 12, 30⟩ [] (htb.trans rfl) ((fun _ h => nomatch h)) (by decide) (by decide) (hts (.classLink RL 30 "java/util/NoSuchElementException") (by decide +kernel)) (va_Nw.use rfl (hZ.2.2.1 "java/util/NoSuchElementException" (by decide))) hce hcv hcl ?_
      refine W.eq (g2 := F0 m 12 ls [.ref q9]) rfl ?_
      refine W.widen (k := 1) (n := 6) (by omega) (by omega) ?_
      refine lv_astore (lv' := [(4, .ref q9), (0, .ref Ad0), (1, .int Va0), (2, .int Va1), (3, .ref Br0)]) hx hb dL_answer_12 hl (by decide) rfl (fun ls hl => ?_)
      refine lv_iconst (v := 1) hx hb dL_answer_14 (by decide) ?_
      have hP9 := hP.sub (ws' := []) [] rfl
      have hD9 := hD.sub (ws' := []) [] (by decide) rfl
      have hK9 := hK.sub (tys' := []) [] rfl
      refine vx_ret ?_
      refine W.widen (k := 1) (n := 6) (by decide) (by decide) ?_
      exact W.iret (v := 1) hx hb hr (fun t ht hW => ⟨⟨1, (), rfl, (Or.inl ⟨c102, rfl⟩), by rw [ht]; exact hP9, va_K.moved hW.alike hK9, hD9⟩, hS.F ht⟩) hS.2.2 dL_answer_15
    · skip
      obtain ⟨hP, hD⟩ := va_join (wr := []) (w1 := []) hP hD [0, 1] [] rfl rfl (by decide) (by decide) hk1 hFc P0 D0
      have hK := hK.sub (tys' := []) [] rfl
      generalize H1 = H at hP hS hce ⊢
      have hP : va_P (dC, dI) vwCl [] H := hP
      have hD : va_D A [] := hD
      refine vx_catch (own := RL) (name := "java/util/NoSuchElementException") (E := "java/util/NoSuchElementException") hown [] ⟨0, 9, 12, 30⟩ [] (htb.trans rfl) ((fun _ h => nomatch h)) (by decide) (by decide) (hts (.classLink RL 30 "java/util/NoSuchElementException") (by decide +kernel)) (va_Nw.use rfl (hZ.2.2.1 "java/util/NoSuchElementException" (by decide))) hce hcv hcl ?_
      refine W.eq (g2 := F0 m 12 ls [.ref q9]) rfl ?_
      refine W.widen (k := 1) (n := 6) (by omega) (by omega) ?_
      refine lv_astore (lv' := [(4, .ref q9), (0, .ref Ad0), (1, .int Va0), (2, .int Va1), (3, .ref Br0)]) hx hb dL_answer_12 hl (by decide) rfl (fun ls hl => ?_)
      refine lv_iconst (v := 1) hx hb dL_answer_14 (by decide) ?_
      have hP9 := hP.sub (ws' := []) [] rfl
      have hD9 := hD.sub (ws' := []) [] (by decide) rfl
      have hK9 := hK.sub (tys' := []) [] rfl
      refine vx_ret ?_
      refine W.widen (k := 1) (n := 6) (by decide) (by decide) ?_
      exact W.iret (v := 1) hx hb hr (fun t ht hW => ⟨⟨1, (), rfl, (Or.inr (⟨c103, c104, rfl⟩)), by rw [ht]; exact hP9, va_K.moved hW.alike hK9, hD9⟩, hS.F ht⟩) hS.2.2 dL_answer_15
  · exact hw.elim

def l_z_L_rules : List Cond := [.methodLink RL 97 yX11_rules, .instanceMethod yX11_rules, .selects RX11 yX11_rules yX11_rules, .initialized RX11, .classLink RL 13 "java/lang/IndexOutOfBoundsException", .code yX11_rules cX11_rules 5 (some .int), .methodLink RX11 353 yX11_needPicture, .static yX11_needPicture, .fieldLink RX11 41 "HeapWorks" "pictures" "[LHeapWorks$Picture;", .fieldLink RX11 356 "HeapWorks$Picture" "things" "I", .fieldLink RX11 77 "HeapWorks" "ruleText" "LHeapWorks$RuleText;", .methodLink RX11 481 yX7_readAll, .instanceMethod yX7_readAll, .selects RX7 yX7_readAll yX7_readAll, .initialized RX7, .fieldLink RX11 484 "HeapWorks$RuleText" "fault" "I", .fieldLink RX11 485 "HeapWorks$RuleText" "place" "I", .methodLink RX11 339 yX11_tellFault, .instanceMethod yX11_tellFault, .selects RX11 yX11_tellFault yX11_tellFault, .fieldLink RX11 84 "HeapWorks" "factBook" "LHeapWorks$FactBook;", .methodLink RX11 486 yX1_workOut, .instanceMethod yX1_workOut, .selects RX1 yX1_workOut yX1_workOut, .initialized RX1, .fieldLink RX11 490 "HeapWorks$RuleText" "relations" "I", .code yX11_needPicture cX11_needPicture 1 none, .methodLink RX11 411 yX11_isPicture, .static yX11_isPicture, .classLink RX11 120 "java/lang/IndexOutOfBoundsException", .initialized "java/lang/IndexOutOfBoundsException", .code yX11_isPicture cX11_isPicture 1 (some .boolean), .code yX7_readAll cX7_readAll 2 (some .boolean), .fieldLink RX7 70 "HeapWorks$RuleText" "rules" "I", .fieldLink RX7 74 "HeapWorks$RuleText" "relations" "I", .fieldLink RX7 77 "HeapWorks$RuleText" "fault" "I", .fieldLink RX7 80 "HeapWorks$RuleText" "place" "I", .fieldLink RX7 9 "HeapWorks$RuleText" "tape" "LHeapWorks$Tape;", .methodLink RX7 83 yX9_startWords, .instanceMethod yX9_startWords, .selects RX9 yX9_startWords yX9_startWords, .initialized RX9, .fieldLink RX7 86 "HeapWorks$Tape" "word" "I", .code yX9_startWords cX9_startWords 2 none, .fieldLink RX9 69 "HeapWorks$Tape" "at" "I", .methodLink RX9 72 yX9_scanWord, .instanceMethod yX9_scanWord, .selects RX9 yX9_scanWord yX9_scanWord, .fieldLink RX9 18 "HeapWorks$Tape" "words" "[I", .fieldLink RX9 75 "HeapWorks$Tape" "word" "I", .fieldLink RX9 21 "HeapWorks$Tape" "places" "[I", .fieldLink RX9 78 "HeapWorks$Tape" "place" "I", .fieldLink RX9 24 "HeapWorks$Tape" "codes" "[J", .fieldLink RX9 81 "HeapWorks$Tape" "code" "J", .fieldLink RX9 85 "HeapWorks$Tape" "next" "I", .methodLink RX9 88 yX9_nextWord, .instanceMethod yX9_nextWord, .selects RX9 yX9_nextWord yX9_nextWord, .code yX9_scanWord cX9_scanWord 1 none, .fieldLink RX9 49 "HeapWorks$Tape" "size" "I", .code yX9_nextWord cX9_nextWord 1 none, .code yX11_tellFault cX11_tellFault 3 none, .fieldLink RX11 469 "HeapWorks" "faultCode" "I", .fieldLink RX11 98 "HeapWorks" "faultPlace" "I", .code yX1_workOut cX1_workOut 5 none, .fieldLink RX1 34 "HeapWorks$FactBook" "text" "LHeapWorks$RuleText;", .fieldLink RX1 38 "HeapWorks$Picture" "things" "I", .methodLink RX1 44 Lib.Math.min.name, .static Lib.Math.min.name, .initialized "java/lang/Math", .code Lib.Math.min.name Lib.Math.min.code 2 (some .int), .fieldLink RX1 50 "HeapWorks$FactBook" "things" "I", .fieldLink RX1 51 "HeapWorks$FactBook" "full" "J", .fieldLink RX1 15 "HeapWorks$FactBook" "row" "[J", .methodLink RX1 55 yJ7_fill_d0a16, .static yJ7_fill_d0a16, .initialized RJ7, .fieldLink RX1 19 "HeapWorks$FactBook" "column" "[J", .fieldLink RX1 22 "HeapWorks$FactBook" "diagonal" "[J", .methodLink RX1 61 yX1_addGiven, .instanceMethod yX1_addGiven, .selects RX1 yX1_addGiven yX1_addGiven, .methodLink RX1 65 yX1_findClasses, .instanceMethod yX1_findClasses, .selects RX1 yX1_findClasses yX1_findClasses, .fieldLink RX1 68 "HeapWorks$FactBook" "changed" "Z", .constant RX1 72 (1000000), .fieldLink RX1 73 "HeapWorks$RuleText" "rules" "I", .code yJ7_fill_d0a16 cJ7_fill_d0a16 5 none, .code yX1_addGiven cX1_addGiven 4 none, .code yX1_findClasses cX1_findClasses 6 none]
def w_z_L_rules : List Cond := .codeWith yL_rules cL_rules 4 (some .int) [(0, 9, 12, 13), (0, 9, 15, 17), (0, 9, 18, 15)] :: (l_z_L_rules ++ ((wsX110 ++ (wsX50 ++ (wsX70 ++ (((vx_at0 RX11 122 "java/lang/IndexOutOfBoundsException" ["java/lang/RuntimeException", "java/lang/Exception"]).filter goodWord) ++ (wsX90 ++ wsX10)))))))
theorem in_z_L_rules_X11 : ∀ w ∈ wsX110, w ∈ w_z_L_rules := fun w h => List.mem_cons_of_mem _ (List.mem_append_right _ (List.mem_append_left _ h))
theorem in_z_L_rules_X5 : ∀ w ∈ wsX50, w ∈ w_z_L_rules := fun w h => List.mem_cons_of_mem _ (List.mem_append_right _ (List.mem_append_right _ (List.mem_append_left _ h)))
theorem in_z_L_rules_X7 : ∀ w ∈ wsX70, w ∈ w_z_L_rules := fun w h => List.mem_cons_of_mem _ (List.mem_append_right _ (List.mem_append_right _ (List.mem_append_right _ (List.mem_append_left _ h))))
theorem in_z_L_rules_at0_X11_122 : ∀ w ∈ ((vx_at0 RX11 122 "java/lang/IndexOutOfBoundsException" ["java/lang/RuntimeException", "java/lang/Exception"]).filter goodWord), w ∈ w_z_L_rules := fun w h => List.mem_cons_of_mem _ (List.mem_append_right _ (List.mem_append_right _ (List.mem_append_right _ (List.mem_append_right _ (List.mem_append_left _ h)))))
theorem in_z_L_rules_X9 : ∀ w ∈ wsX90, w ∈ w_z_L_rules := fun w h => List.mem_cons_of_mem _ (List.mem_append_right _ (List.mem_append_right _ (List.mem_append_right _ (List.mem_append_right _ (List.mem_append_right _ (List.mem_append_left _ h))))))
theorem in_z_L_rules_X1 : ∀ w ∈ wsX10, w ∈ w_z_L_rules := fun w h => List.mem_cons_of_mem _ (List.mem_append_right _ (List.mem_append_right _ (List.mem_append_right _ (List.mem_append_right _ (List.mem_append_right _ (List.mem_append_right _ (h)))))))
theorem g_z_L_rules_z_X11_rules_97 : GoodIn w_z_L_rules (wsV RL 97 RX11 yX11_rules w_z_X11_rules) := goodIn_app (goodIn_r (([.methodLink RL 97 yX11_rules, .instanceMethod yX11_rules, .selects RX11 yX11_rules yX11_rules, .initialized RX11] : List Cond)) [1, 2, 3, 4] rfl (by decide +kernel)) (goodIn_ca (goodIn_r (.code yX11_rules cX11_rules 5 (some .int) :: l_z_X11_rules) [6, 7, 8, 4, 9, 10, 11, 12, 13, 14, 15, 16, 17, 18, 19, 20, 21, 22, 23, 24, 25, 26, 27, 28, 29, 30, 31, 32, 33, 34, 35, 36, 37, 38, 39, 40, 41, 42, 43, 44, 45, 46, 47, 48, 49, 50, 51, 52, 53, 54, 55, 56, 57, 58, 59, 60, 61, 62, 63, 64, 65, 66, 67, 68, 69, 70, 71, 72, 73, 74, 75, 76, 77, 78, 79, 80, 81, 82, 83, 84, 85, 86, 87, 88, 89, 90, 91] rfl (by decide +kernel)) (goodIn_app (goodIn_in (in_z_L_rules_X11) gd_X11) (goodIn_app (goodIn_in (in_z_L_rules_X5) gd_X5) (goodIn_app (goodIn_in (in_z_L_rules_X7) gd_X7) (goodIn_app (goodIn_in (in_z_L_rules_at0_X11_122) gd_at0_X11_122) (goodIn_app (goodIn_in (in_z_L_rules_X9) gd_X9) (goodIn_in (in_z_L_rules_X1) gd_X1)))))))
set_option maxHeartbeats 4000000 in
set_option maxRecDepth 100000 in
theorem z_L_rules (l : Launch) (dC : Nat → ClassId) (dI : Nat → Nat → Nat) (sz : Nat) (Ad0 : Nat) (Fs0 : List Value) (Ad1 : Nat) (Fs1 : List Value) (Ad2 : Nat) (Fa0 : Nat → Int32) (Ka0 : ClassId) (Ad3 : Nat) (Fa1 : Nat → Int32) (Ka1 : ClassId) (Ad4 : Nat) (Fa2 : Nat → Int64) (Ka2 : ClassId) (Ad5 : Nat) (Fa3 : Nat → Option Nat) (Ka3 : ClassId) (Ad6 : Nat) (Fs2 : List Value) (Ad7 : Nat) (Fs3 : List Value) (Ad8 : Nat) (Fs4 : List Value) (Ad9 : Nat) (Fa4 : Nat → Int64) (Ka4 : ClassId) (Ad10 : Nat) (Fa5 : Nat → Int64) (Ka5 : ClassId) (Ad11 : Nat) (Fa6 : Nat → Int64) (Ka6 : ClassId) (Ad12 : Nat) (Fa7 : Nat → Int64) (Ka7 : ClassId) (Va0 : Int32) (k_Fs0 : fh Fs0 18 [(4, .ref Ad5), (11, .ref Ad7), (12, .ref Ad8)]) (k_Fs1 : fh Fs1 12 [(1, .int 0), (5, .ref Ad2), (6, .ref Ad3), (7, .ref Ad4)]) (k_Fs2 : fh Fs2 21 [(0, .int 0)]) (k_Fs3 : fh Fs3 21 [(0, .ref Ad1), (16, .int 0)]) (k_Fs4 : fh Fs4 10 [(3, .ref Ad9), (4, .ref Ad10), (5, .ref Ad11)]) (hst : l.stackTraces = false) (hg0 : Fa3 Va0.toNatClampNeg = some Ad6) : vx_Met l yL_rules w_z_L_rules ({ frames := 9, cells := 1, slots := 6, locals := 184 }) (va_Pc [.ref Ad0, .int Va0, .ref Ad12] (fun U => U.heap.size = sz ∧ Zz (va_A [(Ad0, .inr (14, Fs0)), (Ad1, .inr (12, Fs1)), (Ad2, .inl (Ka0, 4001, .inl Fa0)), (Ad3, .inl (Ka1, 4001, .inl Fa1)), (Ad4, .inl (Ka2, 4001, .inr (.inl Fa2))), (Ad5, .inl (Ka3, 4, .inr (.inr (.inr (.inr Fa3))))), (Ad6, .inr (8, Fs2)), (Ad7, .inr (10, Fs3)), (Ad8, .inr (4, Fs4)), (Ad9, .inl (Ka4, 360, .inr (.inl Fa4))), (Ad10, .inl (Ka5, 360, .inr (.inl Fa5))), (Ad11, .inl (Ka6, 9, .inr (.inl Fa6))), (Ad12, .inl (Ka7, 1, .inr (.inl Fa7)))] sz) U ∧ Yy U ∧ Wd dC dI [(Ka0, .int), (Ka1, .int), (Ka2, .long), (Ka3, .object "HeapWorks$Picture"), (Ka4, .long), (Ka5, .long), (Ka6, .long), (Ka7, .long)] (fun _ => True) [(Ad0, .inr (14, Fs0)), (Ad1, .inr (12, Fs1)), (Ad2, .inl (Ka0, 4001, .inl Fa0)), (Ad3, .inl (Ka1, 4001, .inl Fa1)), (Ad4, .inl (Ka2, 4001, .inr (.inl Fa2))), (Ad5, .inl (Ka3, 4, .inr (.inr (.inr (.inr Fa3))))), (Ad6, .inr (8, Fs2)), (Ad7, .inr (10, Fs3)), (Ad8, .inr (4, Fs4)), (Ad9, .inl (Ka4, 360, .inr (.inl Fa4))), (Ad10, .inl (Ka5, 360, .inr (.inl Fa5))), (Ad11, .inl (Ka6, 9, .inr (.inl Fa6))), (Ad12, .inl (Ka7, 1, .inr (.inl Fa7)))] U)) (va_Qi (fun (r : Int32) (u : (Nat → Int64)) => (Va0 < 0 ∧ r = 1) ∨ (¬ Va0 < 0 ∧ 4 ≤ Va0 ∧ r = 1) ∨ (¬ Va0 < 0 ∧ ¬ 4 ≤ Va0 ∧ r = 0 ∧ (u) (0 : Int32).toNatClampNeg = 0)) (fun (u : (Nat → Int64)) t => Wd dC dI [(Ka7, .long)] (va_A [(Ad0, .inr (14, Fs0)), (Ad1, .inr (12, Fs1)), (Ad2, .inl (Ka0, 4001, .inl Fa0)), (Ad3, .inl (Ka1, 4001, .inl Fa1)), (Ad4, .inl (Ka2, 4001, .inr (.inl Fa2))), (Ad5, .inl (Ka3, 4, .inr (.inr (.inr (.inr Fa3))))), (Ad6, .inr (8, Fs2)), (Ad7, .inr (10, Fs3)), (Ad8, .inr (4, Fs4)), (Ad9, .inl (Ka4, 360, .inr (.inl Fa4))), (Ad10, .inl (Ka5, 360, .inr (.inl Fa5))), (Ad11, .inl (Ka6, 9, .inr (.inl Fa6))), (Ad12, .inl (Ka7, 1, .inr (.inl Fa7)))] sz) [(Ad12, .inl (Ka7, 1, .inr (.inl ((u)))))] t) (va_A [(Ad0, .inr (14, Fs0)), (Ad1, .inr (12, Fs1)), (Ad2, .inl (Ka0, 4001, .inl Fa0)), (Ad3, .inl (Ka1, 4001, .inl Fa1)), (Ad4, .inl (Ka2, 4001, .inr (.inl Fa2))), (Ad5, .inl (Ka3, 4, .inr (.inr (.inr (.inr Fa3))))), (Ad6, .inr (8, Fs2)), (Ad7, .inr (10, Fs3)), (Ad8, .inr (4, Fs4)), (Ad9, .inl (Ka4, 360, .inr (.inl Fa4))), (Ad10, .inl (Ka5, 360, .inr (.inl Fa5))), (Ad11, .inl (Ka6, 9, .inr (.inl Fa6))), (Ad12, .inl (Ka7, 1, .inr (.inl Fa7)))] sz)) (vx_X (fun _ : Unit => True) (fun E _ _ => False) (va_A [(Ad0, .inr (14, Fs0)), (Ad1, .inr (12, Fs1)), (Ad2, .inl (Ka0, 4001, .inl Fa0)), (Ad3, .inl (Ka1, 4001, .inl Fa1)), (Ad4, .inl (Ka2, 4001, .inr (.inl Fa2))), (Ad5, .inl (Ka3, 4, .inr (.inr (.inr (.inr Fa3))))), (Ad6, .inr (8, Fs2)), (Ad7, .inr (10, Fs3)), (Ad8, .inr (4, Fs4)), (Ad9, .inl (Ka4, 360, .inr (.inl Fa4))), (Ad10, .inl (Ka5, 360, .inr (.inl Fa5))), (Ad11, .inl (Ka6, 9, .inr (.inl Fa6))), (Ad12, .inl (Ka7, 1, .inr (.inl Fa7)))] sz)) 1 6 (va_A [(Ad0, .inr (14, Fs0)), (Ad1, .inr (12, Fs1)), (Ad2, .inl (Ka0, 4001, .inl Fa0)), (Ad3, .inl (Ka1, 4001, .inl Fa1)), (Ad4, .inl (Ka2, 4001, .inr (.inl Fa2))), (Ad5, .inl (Ka3, 4, .inr (.inr (.inr (.inr Fa3))))), (Ad6, .inr (8, Fs2)), (Ad7, .inr (10, Fs3)), (Ad8, .inr (4, Fs4)), (Ad9, .inl (Ka4, 360, .inr (.inl Fa4))), (Ad10, .inl (Ka5, 360, .inr (.inl Fa5))), (Ad11, .inl (Ka6, 9, .inr (.inl Fa6))), (Ad12, .inl (Ka7, 1, .inr (.inl Fa7)))] sz) := by
  refine vx_ofWH (cc := cL_rules) (maxL := 4) (ret := (some .int)) (by decide) rfl ?_
  intro p e s m args below meth c s₁ B hml hv
  obtain ⟨rfl, hsz, hZ, hY, hP, hK, hD0⟩ := hv
  have hx := B.exec
  have hb := B.bytes
  have hr := B.returns
  have hts := atoms_spec (ws := w_z_L_rules) B.pre
  have hown : s.vm.findClass RL = some m.cls := findClass_of_methodNamed B.named
  have hlocks := B.notSynchronized
  have htb := vx_table (x := yL_rules) B (hts (.codeWith yL_rules cL_rules 4 (some .int) [(0, 9, 12, 13), (0, 9, 15, 17), (0, 9, 18, 15)]) (by decide +kernel))
  subst hsz
  have hD := hD0.self (sz := s.heap.size)
  generalize hAe : va_A [(Ad0, .inr (14, Fs0)), (Ad1, .inr (12, Fs1)), (Ad2, .inl (Ka0, 4001, .inl Fa0)), (Ad3, .inl (Ka1, 4001, .inl Fa1)), (Ad4, .inl (Ka2, 4001, .inr (.inl Fa2))), (Ad5, .inl (Ka3, 4, .inr (.inr (.inr (.inr Fa3))))), (Ad6, .inr (8, Fs2)), (Ad7, .inr (10, Fs3)), (Ad8, .inr (4, Fs4)), (Ad9, .inl (Ka4, 360, .inr (.inl Fa4))), (Ad10, .inl (Ka5, 360, .inr (.inl Fa5))), (Ad11, .inl (Ka6, 9, .inr (.inl Fa6))), (Ad12, .inl (Ka7, 1, .inr (.inl Fa7)))] s.heap.size = A at hD hZ ⊢
  have hA : ∀ q : Nat, s.heap.size ≤ q → A q := fun q h => by rw [← hAe]; exact Or.inr h
  have hS : va_S A s.heap s.heap [] := va_S.rf
  have hl := lv_entry ([.ref Ad0, .int Va0, .ref Ad12]) (n := 4) (Nat.le_of_ble_eq_true rfl)
  rw [lg_entry_eq]
  generalize (lg_sl ([.ref Ad0, .int Va0, .ref Ad12]) ++ List.replicate (4 - (lg_sl ([.ref Ad0, .int Va0, .ref Ad12])).length) Slot.unset).toArray = ls at hl ⊢
  have hl : lv_has ls 4 [(0, .ref Ad0), (1, .int Va0), (2, .ref Ad12)] := hl
  have o_Fs0 := ow_0 k_Fs0
  have o_Fs1 := ow_0 k_Fs1
  have o_Fs2 := ow_0 k_Fs2
  have o_Fs3 := ow_0 k_Fs3
  have o_Fs4 := ow_0 k_Fs4
  refine lv_aload_n hx hb dL_rules_0 rfl (lv_at hl 2 rfl) ?_
  refine lv_iconst (v := 0) hx hb dL_rules_1 (by decide) ?_
  refine lv_aload_n hx hb dL_rules_2 rfl (lv_at hl 0 rfl) ?_
  refine lv_iload_n hx hb dL_rules_3 rfl (lv_at hl 1 rfl) ?_
  have hPc := hP.sub (ws' := [(Ad0, .inr (14, Fs0)), (Ad1, .inr (12, Fs1)), (Ad2, .inl (Ka0, 4001, .inl Fa0)), (Ad3, .inl (Ka1, 4001, .inl Fa1)), (Ad4, .inl (Ka2, 4001, .inr (.inl Fa2))), (Ad5, .inl (Ka3, 4, .inr (.inr (.inr (.inr Fa3))))), (Ad6, .inr (8, Fs2)), (Ad7, .inr (10, Fs3)), (Ad8, .inr (4, Fs4)), (Ad9, .inl (Ka4, 360, .inr (.inl Fa4))), (Ad10, .inl (Ka5, 360, .inr (.inl Fa5))), (Ad11, .inl (Ka6, 9, .inr (.inl Fa6)))]) [0, 1, 2, 3, 4, 5, 6, 7, 8, 9, 10, 11] rfl
  have hDc := hD.sub (ws' := [(Ad0, .inr (14, Fs0)), (Ad1, .inr (12, Fs1)), (Ad2, .inl (Ka0, 4001, .inl Fa0)), (Ad3, .inl (Ka1, 4001, .inl Fa1)), (Ad4, .inl (Ka2, 4001, .inr (.inl Fa2))), (Ad5, .inl (Ka3, 4, .inr (.inr (.inr (.inr Fa3))))), (Ad6, .inr (8, Fs2)), (Ad7, .inr (10, Fs3)), (Ad8, .inr (4, Fs4)), (Ad9, .inl (Ka4, 360, .inr (.inl Fa4))), (Ad10, .inl (Ka5, 360, .inr (.inl Fa5))), (Ad11, .inl (Ka6, 9, .inr (.inl Fa6)))]) [0, 1, 2, 3, 4, 5, 6, 7, 8, 9, 10, 11] (by decide) rfl
  have hKc := hK.sub (tys' := [(Ka0, .int), (Ka1, .int), (Ka2, .long), (Ka3, .object "HeapWorks$Picture"), (Ka4, .long), (Ka5, .long), (Ka6, .long)]) [0, 1, 2, 3, 4, 5, 6] rfl
  have hFc := va_free (wc := [(Ad0, .inr (14, Fs0)), (Ad1, .inr (12, Fs1)), (Ad2, .inl (Ka0, 4001, .inl Fa0)), (Ad3, .inl (Ka1, 4001, .inl Fa1)), (Ad4, .inl (Ka2, 4001, .inr (.inl Fa2))), (Ad5, .inl (Ka3, 4, .inr (.inr (.inr (.inr Fa3))))), (Ad6, .inr (8, Fs2)), (Ad7, .inr (10, Fs3)), (Ad8, .inr (4, Fs4)), (Ad9, .inl (Ka4, 360, .inr (.inl Fa4))), (Ad10, .inl (Ka5, 360, .inr (.inl Fa5))), (Ad11, .inl (Ka6, 9, .inr (.inl Fa6)))]) hD hS hA [0, 1, 2, 3, 4, 5, 6, 7, 8, 9, 10, 11] rfl
  refine vx_calli (vx_runV (As := [.int Va0]) (rest := [.int 0, .ref Ad12]) ⟨hx, hb, hml, hown, hts⟩ (z_X11_rules l dC dI s.heap.size Ad0 Fs0 Ad1 Fs1 Ad2 Fa0 Ka0 Ad3 Fa1 Ka1 Ad4 Fa2 Ka2 Ad5 Fa3 Ka3 Ad6 Fs2 Ad7 Fs3 Ad8 Fs4 Ad9 Fa4 Ka4 Ad10 Fa5 Ka5 Ad11 Fa6 Ka6 Va0 (fh_sub o_Fs0.2 [0, 1, 2] rfl) (fh_sub o_Fs1.2 [0, 1, 2, 3] rfl) (fh_sub o_Fs2.2 [0] rfl) (fh_sub o_Fs3.2 [0, 1] rfl) (fh_sub o_Fs4.2 [0, 1, 2] rfl) hst hg0) (cwV 1 hts g_z_L_rules_z_X11_rules_97 rfl rfl rfl (by decide +kernel) ⟨Nat.le_of_ble_eq_true rfl, Nat.le_of_ble_eq_true rfl⟩) ⟨fun a U g mk q => by obtain ⟨q0, q1, qZ, qP, qK, qD⟩ := q; exact ⟨q0, q1, Zz_call qZ, qP, va_K.moved (u := U) (U := U.calling g mk a) (Vm.Alike.refl U.vm) qK, qD⟩, va_recv hK hP (ci := 14) (q0 := 0) rfl rfl, fun U hU hW => ⟨rfl, by rw [hU], Zz_go hZ hS hFc hU hW, by rw [hU]; exact hPc, va_K.moved hW.alike hKc, hDc.weaken (fun _ _ _ _ => trivial)⟩⟩ rfl rfl hl.1 rfl (lv_room (Nat.le_of_ble_eq_true rfl)) dL_rules_4 ⟨Nat.le_of_ble_eq_true rfl, Nat.le_of_ble_eq_true rfl⟩) hS (fun q _ h => hFc q h) hFc (fun q _ h => hFc q h) (fun E ce q9 u t H1 locs ht hvm hpx hBX hz1 hk1 hS hce hcv hcl => ?_) (fun r101 u t H1 locs ht hvm hw hB hz1 hk1 hS => ?_)
  · rcases hBX with ⟨rfl, c102⟩ | ⟨rfl, c103, c104⟩
    · skip
      obtain ⟨hP, hD⟩ := va_join (wr := [(Ad12, .inl (Ka7, 1, .inr (.inl Fa7)))]) (w1 := []) hP hD [0, 1, 2, 3, 4, 5, 6, 7, 8, 9, 10, 11] [12] rfl rfl (by decide) (by decide) hk1 hFc P0 D0
      have hK := hK.sub (tys' := [(Ka7, .long)]) [7] rfl
      generalize H1 = H at hP hS hce ⊢
      have hP : va_P (dC, dI) vwCl [(Ad12, .inl (Ka7, 1, .inr (.inl Fa7)))] H := hP
      have hD : va_D A [(Ad12, .inl (Ka7, 1, .inr (.inl Fa7)))] := hD
      refine vx_catch (own := RL) (name := "java/lang/IndexOutOfBoundsException") (E := "java/lang/IndexOutOfBoundsException") hown [] ⟨0, 9, 12, 13⟩ [⟨0, 9, 15, 17⟩, ⟨0, 9, 18, 15⟩] (htb.trans rfl) ((fun _ h => nomatch h)) (by decide) (by decide) (hts (.classLink RL 13 "java/lang/IndexOutOfBoundsException") (by decide +kernel)) (va_Nw.use rfl (hZ.2.2.1 "java/lang/IndexOutOfBoundsException" (by decide))) hce hcv hcl ?_
      refine W.eq (g2 := F0 m 12 ls [.ref q9]) rfl ?_
      refine W.widen (k := 1) (n := 6) (by omega) (by omega) ?_
      refine lv_astore_n (lv' := [(3, .ref q9), (0, .ref Ad0), (1, .int Va0), (2, .ref Ad12)]) hx hb dL_rules_12 rfl hl (by decide) rfl (fun ls hl => ?_)
      refine lv_iconst (v := 1) hx hb dL_rules_13 (by decide) ?_
      have hP9 := hP.sub (ws' := [(Ad12, .inl (Ka7, 1, .inr (.inl Fa7)))]) [0] rfl
      have hD9 := hD.sub (ws' := [(Ad12, .inl (Ka7, 1, .inr (.inl Fa7)))]) [0] (by decide) rfl
      have hK9 := hK.sub (tys' := [(Ka7, .long)]) [0] rfl
      refine vx_ret ?_
      refine W.widen (k := 1) (n := 6) (by decide) (by decide) ?_
      exact W.iret (v := 1) hx hb hr (fun t ht hW => ⟨⟨1, Fa7, rfl, (Or.inl ⟨c102, rfl⟩), by rw [ht]; exact hP9, va_K.moved hW.alike hK9, hD9⟩, hS.F ht⟩) hS.2.2 dL_rules_14
    · skip
      obtain ⟨hP, hD⟩ := va_join (wr := [(Ad12, .inl (Ka7, 1, .inr (.inl Fa7)))]) (w1 := []) hP hD [0, 1, 2, 3, 4, 5, 6, 7, 8, 9, 10, 11] [12] rfl rfl (by decide) (by decide) hk1 hFc P0 D0
      have hK := hK.sub (tys' := [(Ka7, .long)]) [7] rfl
      generalize H1 = H at hP hS hce ⊢
      have hP : va_P (dC, dI) vwCl [(Ad12, .inl (Ka7, 1, .inr (.inl Fa7)))] H := hP
      have hD : va_D A [(Ad12, .inl (Ka7, 1, .inr (.inl Fa7)))] := hD
      refine vx_catch (own := RL) (name := "java/lang/IndexOutOfBoundsException") (E := "java/lang/IndexOutOfBoundsException") hown [] ⟨0, 9, 12, 13⟩ [⟨0, 9, 15, 17⟩, ⟨0, 9, 18, 15⟩] (htb.trans rfl) ((fun _ h => nomatch h)) (by decide) (by decide) (hts (.classLink RL 13 "java/lang/IndexOutOfBoundsException") (by decide +kernel)) (va_Nw.use rfl (hZ.2.2.1 "java/lang/IndexOutOfBoundsException" (by decide))) hce hcv hcl ?_
      refine W.eq (g2 := F0 m 12 ls [.ref q9]) rfl ?_
      refine W.widen (k := 1) (n := 6) (by omega) (by omega) ?_
      refine lv_astore_n (lv' := [(3, .ref q9), (0, .ref Ad0), (1, .int Va0), (2, .ref Ad12)]) hx hb dL_rules_12 rfl hl (by decide) rfl (fun ls hl => ?_)
      refine lv_iconst (v := 1) hx hb dL_rules_13 (by decide) ?_
      have hP9 := hP.sub (ws' := [(Ad12, .inl (Ka7, 1, .inr (.inl Fa7)))]) [0] rfl
      have hD9 := hD.sub (ws' := [(Ad12, .inl (Ka7, 1, .inr (.inl Fa7)))]) [0] (by decide) rfl
      have hK9 := hK.sub (tys' := [(Ka7, .long)]) [0] rfl
      refine vx_ret ?_
      refine W.widen (k := 1) (n := 6) (by decide) (by decide) ?_
      exact W.iret (v := 1) hx hb hr (fun t ht hW => ⟨⟨1, Fa7, rfl, (Or.inr (Or.inl ⟨c103, c104, rfl⟩)), by rw [ht]; exact hP9, va_K.moved hW.alike hK9, hD9⟩, hS.F ht⟩) hS.2.2 dL_rules_14
  · skip
    obtain ⟨s105, s106, f107, f108, f109, s110, s111, f112, f113, f114⟩ := u
    obtain ⟨hP1, hK1, hD1⟩ := hB
    rw [ht] at hP1
    try dsimp only at hw
    obtain ⟨hP, hD⟩ := va_join (wr := [(Ad12, .inl (Ka7, 1, .inr (.inl Fa7)))]) (w1 := [(Ad0, .inr (14, s105)), (Ad1, .inr (12, s106)), (Ad2, .inl (Ka0, 4001, .inl f107)), (Ad3, .inl (Ka1, 4001, .inl f108)), (Ad4, .inl (Ka2, 4001, .inr (.inl f109))), (Ad5, .inl (Ka3, 4, .inr (.inr (.inr (.inr Fa3))))), (Ad6, .inr (8, Fs2)), (Ad7, .inr (10, s110)), (Ad8, .inr (4, s111)), (Ad9, .inl (Ka4, 360, .inr (.inl f112))), (Ad10, .inl (Ka5, 360, .inr (.inl f113))), (Ad11, .inl (Ka6, 9, .inr (.inl f114)))]) hP hD [0, 1, 2, 3, 4, 5, 6, 7, 8, 9, 10, 11] [12] rfl rfl (by decide) (by decide) hk1 hFc hP1 hD1
    have hK := hK.sub (tys' := [(Ka7, .long), (Ka0, .int), (Ka1, .int), (Ka2, .long), (Ka3, .object "HeapWorks$Picture"), (Ka4, .long), (Ka5, .long), (Ka6, .long)]) [7, 0, 1, 2, 3, 4, 5, 6] rfl
    generalize H1 = H at hP hS ⊢
    refine W.widen (k := 1) (n := 6) (by omega) (by omega) ?_
    have hP : va_P (dC, dI) vwCl [(Ad12, .inl (Ka7, 1, .inr (.inl Fa7))), (Ad0, .inr (14, s105)), (Ad1, .inr (12, s106)), (Ad2, .inl (Ka0, 4001, .inl f107)), (Ad3, .inl (Ka1, 4001, .inl f108)), (Ad4, .inl (Ka2, 4001, .inr (.inl f109))), (Ad5, .inl (Ka3, 4, .inr (.inr (.inr (.inr Fa3))))), (Ad6, .inr (8, Fs2)), (Ad7, .inr (10, s110)), (Ad8, .inr (4, s111)), (Ad9, .inl (Ka4, 360, .inr (.inl f112))), (Ad10, .inl (Ka5, 360, .inr (.inl f113))), (Ad11, .inl (Ka6, 9, .inr (.inl f114)))] H := hP
    have hD : va_D A [(Ad12, .inl (Ka7, 1, .inr (.inl Fa7))), (Ad0, .inr (14, s105)), (Ad1, .inr (12, s106)), (Ad2, .inl (Ka0, 4001, .inl f107)), (Ad3, .inl (Ka1, 4001, .inl f108)), (Ad4, .inl (Ka2, 4001, .inr (.inl f109))), (Ad5, .inl (Ka3, 4, .inr (.inr (.inr (.inr Fa3))))), (Ad6, .inr (8, Fs2)), (Ad7, .inr (10, s110)), (Ad8, .inr (4, s111)), (Ad9, .inl (Ka4, 360, .inr (.inl f112))), (Ad10, .inl (Ka5, 360, .inr (.inl f113))), (Ad11, .inl (Ka6, 9, .inr (.inl f114)))] := hD
    obtain ⟨c115, c116, er117, o_s105, o_s106, o_s110, o_s111, q118, q119, q120⟩ := hw
    subst er117
    have o_s105 := ow_on o_Fs0 o_s105 (l' := [(17, .int (-1)), (16, .int 0), (4, .ref Ad5), (11, .ref Ad7), (12, .ref Ad8), (4, .ref Ad5), (11, .ref Ad7), (12, .ref Ad8)]) (w' := [17, 16]) rfl rfl
    have o_s106 := ow_on o_Fs1 o_s106 (l' := [(11, .long 0), (10, .int 0), (9, .int 0), (8, .int 0), (5, .ref Ad2), (6, .ref Ad3), (7, .ref Ad4), (8, .int 0), (4, .int 0), (1, .int 0), (4, .int 0), (1, .int 0), (5, .ref Ad2), (6, .ref Ad3), (7, .ref Ad4), (1, .int 0), (5, .ref Ad2), (6, .ref Ad3), (7, .ref Ad4), (1, .int 0), (5, .ref Ad2), (6, .ref Ad3), (7, .ref Ad4), (1, .int 0), (5, .ref Ad2), (6, .ref Ad3), (7, .ref Ad4)]) (w' := [11, 10, 9, 8, 4]) rfl rfl
    have o_s110 := ow_on o_Fs3 o_s110 (l' := [(20, .int (-1)), (19, .int 0), (16, .int 0), (3, .int 0), (0, .ref Ad1), (0, .ref Ad1), (0, .ref Ad1)]) (w' := [20, 19, 16, 3]) rfl rfl
    have o_s111 := ow_on o_Fs4 o_s111 (l' := [(9, .int 0), (2, .long 0), (1, .int 0), (8, .ref Ad7), (3, .ref Ad9), (4, .ref Ad10), (5, .ref Ad11), (3, .ref Ad9), (4, .ref Ad10), (5, .ref Ad11), (3, .ref Ad9), (4, .ref Ad10), (5, .ref Ad11)]) (w' := [9, 2, 1, 8]) rfl rfl
    refine lv_i2l hx hb dL_rules_7 rfl ?_
    refine lv_topl (fun x121 ex121 => ?_)
    obtain rfl : x121 = 0 := ex121.trans (by decide)
    refine va_last hx hb hK hP hD hS 0 0 rfl rfl (show vp_in 0 1 from by unfold vp_in; decide) dL_rules_8 (fun H locs hP hD hS => ?_)
    have hP : va_P (dC, dI) vwCl [(Ad12, .inl (Ka7, 1, .inr (.inl (vp_updL Fa7 (0 : Int32).toNatClampNeg 0)))), (Ad0, .inr (14, s105)), (Ad1, .inr (12, s106)), (Ad2, .inl (Ka0, 4001, .inl f107)), (Ad3, .inl (Ka1, 4001, .inl f108)), (Ad4, .inl (Ka2, 4001, .inr (.inl f109))), (Ad5, .inl (Ka3, 4, .inr (.inr (.inr (.inr Fa3))))), (Ad6, .inr (8, Fs2)), (Ad7, .inr (10, s110)), (Ad8, .inr (4, s111)), (Ad9, .inl (Ka4, 360, .inr (.inl f112))), (Ad10, .inl (Ka5, 360, .inr (.inl f113))), (Ad11, .inl (Ka6, 9, .inr (.inl f114)))] H := hP
    have hD : va_D A [(Ad12, .inl (Ka7, 1, .inr (.inl (vp_updL Fa7 (0 : Int32).toNatClampNeg 0)))), (Ad0, .inr (14, s105)), (Ad1, .inr (12, s106)), (Ad2, .inl (Ka0, 4001, .inl f107)), (Ad3, .inl (Ka1, 4001, .inl f108)), (Ad4, .inl (Ka2, 4001, .inr (.inl f109))), (Ad5, .inl (Ka3, 4, .inr (.inr (.inr (.inr Fa3))))), (Ad6, .inr (8, Fs2)), (Ad7, .inr (10, s110)), (Ad8, .inr (4, s111)), (Ad9, .inl (Ka4, 360, .inr (.inl f112))), (Ad10, .inl (Ka5, 360, .inr (.inl f113))), (Ad11, .inl (Ka6, 9, .inr (.inl f114)))] := hD
    have q123 : (vp_updL Fa7 (0 : Int32).toNatClampNeg 0) (0 : Int32).toNatClampNeg = 0 := pk_uLs
    generalize vp_updL Fa7 (0 : Int32).toNatClampNeg 0 = f122 at hP hD q123
    refine lv_goto (tgt := 21) hx hb dL_rules_9 (by decide) ?_
    refine lv_iconst (v := 0) hx hb dL_rules_21 (by decide) ?_
    have hP9 := hP.sub (ws' := [(Ad12, .inl (Ka7, 1, .inr (.inl f122)))]) [0] rfl
    have hD9 := hD.sub (ws' := [(Ad12, .inl (Ka7, 1, .inr (.inl f122)))]) [0] (by decide) rfl
    have hK9 := hK.sub (tys' := [(Ka7, .long)]) [0] rfl
    refine vx_ret ?_
    refine W.widen (k := 1) (n := 6) (by decide) (by decide) ?_
    exact W.iret (v := 0) hx hb hr (fun t ht hW => ⟨⟨0, f122, rfl, (Or.inr (Or.inr (⟨c115, c116, rfl, q123⟩))), by rw [ht]; exact hP9, va_K.moved hW.alike hK9, hD9⟩, hS.F ht⟩) hS.2.2 dL_rules_22

