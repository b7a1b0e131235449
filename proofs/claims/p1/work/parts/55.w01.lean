def l_z_L_type : List Cond := [.methodLink RL 7 yX11_type, .instanceMethod yX11_type, .selects RX11 yX11_type yX11_type, .initialized RX11, .classLink RL 13 "java/lang/IndexOutOfBoundsException", .classLink RL 15 "java/lang/IllegalArgumentException", .code yX11_type cX11_type 5 (some .int), .classLink RX11 120 "java/lang/IndexOutOfBoundsException", .initialized "java/lang/IndexOutOfBoundsException", .fieldLink RX11 12 "HeapWorks" "tape" "LHeapWorks$Tape;", .methodLink RX11 123 yX9_wholeName, .instanceMethod yX9_wholeName, .selects RX9 yX9_wholeName yX9_wholeName, .initialized RX9, .classLink RX11 127 "java/lang/IllegalArgumentException", .initialized "java/lang/IllegalArgumentException", .fieldLink RX11 19 "HeapWorks" "types" "LHeapWorks$Types;", .methodLink RX11 116 yX10_isClass, .instanceMethod yX10_isClass, .selects RX10 yX10_isClass yX10_isClass, .initialized RX10, .code yX9_wholeName cX9_wholeName 1 (some .long), .fieldLink RX9 49 "HeapWorks$Tape" "size" "I", .fieldLink RX9 69 "HeapWorks$Tape" "at" "I", .methodLink RX9 72 yX9_scanWord, .instanceMethod yX9_scanWord, .selects RX9 yX9_scanWord yX9_scanWord, .fieldLink RX9 75 "HeapWorks$Tape" "word" "I", .code yX9_scanWord cX9_scanWord 1 none, .fieldLink RX9 78 "HeapWorks$Tape" "place" "I", .fieldLink RX9 81 "HeapWorks$Tape" "code" "J", .code yX10_isClass cX10_isClass 2 (some .boolean), .fieldLink RX10 65 "HeapWorks$Types" "count" "I"]
def w_z_L_type : List Cond := .codeWith yL_type cL_type 5 (some .int) [(0, 10, 13, 13), (0, 10, 17, 15), (0, 10, 21, 17)] :: (l_z_L_type ++ ((((vx_at0 RX11 122 "java/lang/IndexOutOfBoundsException" ["java/lang/RuntimeException", "java/lang/Exception"]).filter goodWord) ++ (wsX110 ++ (((vx_at0 RX11 129 "java/lang/IllegalArgumentException" ["java/lang/RuntimeException", "java/lang/Exception"]).filter goodWord) ++ (wsX90 ++ wsX100))))))
theorem in_z_L_type_at0_X11_122 : ∀ w ∈ ((vx_at0 RX11 122 "java/lang/IndexOutOfBoundsException" ["java/lang/RuntimeException", "java/lang/Exception"]).filter goodWord), w ∈ w_z_L_type := fun w h => List.mem_cons_of_mem _ (List.mem_append_right _ (List.mem_append_left _ h))
theorem in_z_L_type_X11 : ∀ w ∈ wsX110, w ∈ w_z_L_type := fun w h => List.mem_cons_of_mem _ (List.mem_append_right _ (List.mem_append_right _ (List.mem_append_left _ h)))
theorem in_z_L_type_at0_X11_129 : ∀ w ∈ ((vx_at0 RX11 129 "java/lang/IllegalArgumentException" ["java/lang/RuntimeException", "java/lang/Exception"]).filter goodWord), w ∈ w_z_L_type := fun w h => List.mem_cons_of_mem _ (List.mem_append_right _ (List.mem_append_right _ (List.mem_append_right _ (List.mem_append_left _ h))))
theorem in_z_L_type_X9 : ∀ w ∈ wsX90, w ∈ w_z_L_type := fun w h => List.mem_cons_of_mem _ (List.mem_append_right _ (List.mem_append_right _ (List.mem_append_right _ (List.mem_append_right _ (List.mem_append_left _ h)))))
theorem in_z_L_type_X10 : ∀ w ∈ wsX100, w ∈ w_z_L_type := fun w h => List.mem_cons_of_mem _ (List.mem_append_right _ (List.mem_append_right _ (List.mem_append_right _ (List.mem_append_right _ (List.mem_append_right _ (h))))))
theorem g_z_L_type_z_X11_type_7 : GoodIn w_z_L_type (wsV RL 7 RX11 yX11_type w_z_X11_type) := goodIn_app (goodIn_r (([.methodLink RL 7 yX11_type, .instanceMethod yX11_type, .selects RX11 yX11_type yX11_type, .initialized RX11] : List Cond)) [1, 2, 3, 4] rfl (by decide +kernel)) (goodIn_ca (goodIn_r (.code yX11_type cX11_type 5 (some .int) :: l_z_X11_type) [7, 8, 9, 10, 11, 12, 13, 14, 15, 16, 17, 18, 19, 20, 21, 22, 23, 24, 25, 26, 27, 28, 29, 30, 31, 32, 33] rfl (by decide +kernel)) (goodIn_app (goodIn_in (in_z_L_type_at0_X11_122) gd_at0_X11_122) (goodIn_app (goodIn_in (in_z_L_type_X11) gd_X11) (goodIn_app (goodIn_in (in_z_L_type_at0_X11_129) gd_at0_X11_129) (goodIn_app (goodIn_in (in_z_L_type_X9) gd_X9) (goodIn_in (in_z_L_type_X10) gd_X10))))))
set_option maxHeartbeats 4000000 in
set_option maxRecDepth 100000 in
theorem z_L_type (l : Launch) (dC : Nat → ClassId) (dI : Nat → Nat → Nat) (sz : Nat) (Ad0 : Nat) (Fs0 : List Value) (Ad1 : Nat) (Fs1 : List Value) (Ad2 : Nat) (Fs2 : List Value) (Va0 : Int32) (Va1 : Int32) (Br0 : Nat) (k_Fs0 : fh Fs0 18 [(0, .ref Ad1), (1, .ref Ad2)]) (k_Fs1 : fh Fs1 12 [(1, .int 0)]) (k_Fs2 : fh Fs2 18 [(0, .int 0)]) (hst : l.stackTraces = false)  : vx_Met l yL_type w_z_L_type ({ frames := 8, cells := 1, slots := 6, locals := 164 }) (va_Pc [.ref Ad0, .int Va0, .int Va1, .ref Br0] (fun U => U.heap.size = sz ∧ Zz (va_A [(Ad0, .inr (14, Fs0)), (Ad1, .inr (12, Fs1)), (Ad2, .inr (13, Fs2))] sz) U ∧ Yy U ∧ Wd dC dI [] (fun _ => True) [(Ad0, .inr (14, Fs0)), (Ad1, .inr (12, Fs1)), (Ad2, .inr (13, Fs2))] U)) (va_Qi (fun (r : Int32) (u : Unit) => (Va0 = (-1) ∧ Va1 < 0 ∧ r = 1) ∨ (Va0 = (-1) ∧ ¬ Va1 < 0 ∧ Va1 < 4 ∧ r = 2) ∨ (Va0 = (-1) ∧ ¬ Va1 < 0 ∧ ¬ Va1 < 4 ∧ r = 1) ∨ (¬ Va0 = (-1) ∧ Va0 < 0 ∧ r = 1) ∨ (¬ Va0 = (-1) ∧ ¬ Va0 < 0 ∧ 0 ≤ Va0 ∧ r = 1)) (fun (u : Unit) t => Wd dC dI [] (va_A [(Ad0, .inr (14, Fs0)), (Ad1, .inr (12, Fs1)), (Ad2, .inr (13, Fs2))] sz) [] t) (va_A [(Ad0, .inr (14, Fs0)), (Ad1, .inr (12, Fs1)), (Ad2, .inr (13, Fs2))] sz)) (vx_X (fun _ : Unit => True) (fun E _ _ => False) (va_A [(Ad0, .inr (14, Fs0)), (Ad1, .inr (12, Fs1)), (Ad2, .inr (13, Fs2))] sz)) 1 6 (va_A [(Ad0, .inr (14, Fs0)), (Ad1, .inr (12, Fs1)), (Ad2, .inr (13, Fs2))] sz) := by
  refine vx_ofWH (cc := cL_type) (maxL := 5) (ret := (some .int)) (by decide) rfl ?_
  intro p e s m args below meth c s₁ B hml hv
  obtain ⟨rfl, hsz, hZ, hY, hP, hK, hD0⟩ := hv
  have hx := B.exec
  have hb := B.bytes
  have hr := B.returns
  have hts := atoms_spec (ws := w_z_L_type) B.pre
  have hown : s.vm.findClass RL = some m.cls := findClass_of_methodNamed B.named
  have hlocks := B.notSynchronized
  have htb := vx_table (x := yL_type) B (hts (.codeWith yL_type cL_type 5 (some .int) [(0, 10, 13, 13), (0, 10, 17, 15), (0, 10, 21, 17)]) (by decide +kernel))
  subst hsz
  have hD := hD0.self (sz := s.heap.size)
  generalize hAe : va_A [(Ad0, .inr (14, Fs0)), (Ad1, .inr (12, Fs1)), (Ad2, .inr (13, Fs2))] s.heap.size = A at hD hZ ⊢
  have hA : ∀ q : Nat, s.heap.size ≤ q → A q := fun q h => by rw [← hAe]; exact Or.inr h
  have hS : va_S A s.heap s.heap [] := va_S.rf
  have hl := lv_entry ([.ref Ad0, .int Va0, .int Va1, .ref Br0]) (n := 5) (Nat.le_of_ble_eq_true rfl)
  rw [lg_entry_eq]
  generalize (lg_sl ([.ref Ad0, .int Va0, .int Va1, .ref Br0]) ++ List.replicate (5 - (lg_sl ([.ref Ad0, .int Va0, .int Va1, .ref Br0])).length) Slot.unset).toArray = ls at hl ⊢
  have hl : lv_has ls 5 [(0, .ref Ad0), (1, .int Va0), (2, .int Va1), (3, .ref Br0)] := hl
  have o_Fs0 := ow_0 k_Fs0
  have o_Fs1 := ow_0 k_Fs1
  have o_Fs2 := ow_0 k_Fs2
  refine lv_aload_n hx hb dL_type_0 rfl (lv_at hl 3 rfl) ?_
  refine lv_iconst (v := 0) hx hb dL_type_1 (by decide) ?_
  refine lv_aload_n hx hb dL_type_2 rfl (lv_at hl 0 rfl) ?_
  refine lv_iload_n hx hb dL_type_3 rfl (lv_at hl 1 rfl) ?_
  refine lv_iload_n hx hb dL_type_4 rfl (lv_at hl 2 rfl) ?_
  have hPc := hP.sub (ws' := [(Ad0, .inr (14, Fs0)), (Ad1, .inr (12, Fs1)), (Ad2, .inr (13, Fs2))]) [0, 1, 2] rfl
  have hDc := hD.sub (ws' := [(Ad0, .inr (14, Fs0)), (Ad1, .inr (12, Fs1)), (Ad2, .inr (13, Fs2))]) [0, 1, 2] (by decide) rfl
  have hKc := hK.sub (tys' := []) [] rfl
  have hFc := va_free (wc := [(Ad0, .inr (14, Fs0)), (Ad1, .inr (12, Fs1)), (Ad2, .inr (13, Fs2))]) hD hS hA [0, 1, 2] rfl
  refine vx_calli (vx_runV (As := [.int Va0, .int Va1]) (rest := [.int 0, .ref Br0]) ⟨hx, hb, hml, hown, hts⟩ (z_X11_type l dC dI s.heap.size Ad0 Fs0 Ad1 Fs1 Ad2 Fs2 Va0 Va1 (fh_sub o_Fs0.2 [0, 1] rfl) (fh_sub o_Fs1.2 [0] rfl) (fh_sub o_Fs2.2 [0] rfl) hst ) (cwV 2 hts g_z_L_type_z_X11_type_7 rfl rfl rfl (by decide +kernel) ⟨Nat.le_of_ble_eq_true rfl, Nat.le_of_ble_eq_true rfl⟩) ⟨fun a U g mk q => by obtain ⟨q0, q1, qZ, qP, qK, qD⟩ := q; exact ⟨q0, q1, Zz_call qZ, qP, va_K.moved (u := U) (U := U.calling g mk a) (Vm.Alike.refl U.vm) qK, qD⟩, va_recv hK hP (ci := 14) (q0 := 0) rfl rfl, fun U hU hW => ⟨rfl, by rw [hU], Zz_go hZ hS hFc hU hW, by rw [hU]; exact hPc, va_K.moved hW.alike hKc, hDc.weaken (fun _ _ _ _ => trivial)⟩⟩ rfl rfl hl.1 rfl (lv_room (Nat.le_of_ble_eq_true rfl)) dL_type_5 ⟨Nat.le_of_ble_eq_true rfl, Nat.le_of_ble_eq_true rfl⟩) hS (fun q _ h => hFc q h) hFc (fun q _ h => hFc q h) (fun E ce q9 u t H1 locs ht hvm hpx hBX hz1 hk1 hS hce hcv hcl => ?_) (fun r101 u t H1 locs ht hvm hw hB hz1 hk1 hS => ?_)
  · rcases hBX with ⟨rfl, c102, c103⟩ | ⟨rfl, c104, c105, c106⟩ | ⟨rfl, c107, c108, c109⟩ | ⟨rfl, c110, c111⟩ | ⟨rfl, c112, c113, c114⟩
    · skip
      obtain ⟨hP, hD⟩ := va_join (wr := []) (w1 := []) hP hD [0, 1, 2] [] rfl rfl (by decide) (by decide) hk1 hFc P0 D0
      have hK := hK.sub (tys' := []) [] rfl
      generalize H1 = H at hP hS hce ⊢
      have hP : va_P (dC, dI) vwCl [] H := hP
      have hD : va_D A [] := hD
      refine vx_catch (own := RL) (name := "java/lang/IndexOutOfBoundsException") (E := "java/lang/IndexOutOfBoundsException") hown [] ⟨0, 10, 13, 13⟩ [⟨0, 10, 17, 15⟩, ⟨0, 10, 21, 17⟩] (htb.trans rfl) ((fun _ h => nomatch h)) (by decide) (by decide) (hts (.classLink RL 13 "java/lang/IndexOutOfBoundsException") (by decide +kernel)) (va_Nw.use rfl (hZ.2.2.1 "java/lang/IndexOutOfBoundsException" (by decide))) hce hcv hcl ?_
      refine W.eq (g2 := F0 m 13 ls [.ref q9]) rfl ?_
      refine W.widen (k := 1) (n := 6) (by omega) (by omega) ?_
      refine lv_astore (lv' := [(4, .ref q9), (0, .ref Ad0), (1, .int Va0), (2, .int Va1), (3, .ref Br0)]) hx hb dL_type_13 hl (by decide) rfl (fun ls hl => ?_)
      refine lv_iconst (v := 1) hx hb dL_type_15 (by decide) ?_
      have hP9 := hP.sub (ws' := []) [] rfl
      have hD9 := hD.sub (ws' := []) [] (by decide) rfl
      have hK9 := hK.sub (tys' := []) [] rfl
      refine vx_ret ?_
      refine W.widen (k := 1) (n := 6) (by decide) (by decide) ?_
      exact W.iret (v := 1) hx hb hr (fun t ht hW => ⟨⟨1, (), rfl, (Or.inl ⟨c102, c103, rfl⟩), by rw [ht]; exact hP9, va_K.moved hW.alike hK9, hD9⟩, hS.F ht⟩) hS.2.2 dL_type_16
    · skip
      obtain ⟨hP, hD⟩ := va_join (wr := []) (w1 := []) hP hD [0, 1, 2] [] rfl rfl (by decide) (by decide) hk1 hFc P0 D0
      have hK := hK.sub (tys' := []) [] rfl
      generalize H1 = H at hP hS hce ⊢
      have hP : va_P (dC, dI) vwCl [] H := hP
      have hD : va_D A [] := hD
      refine vx_catch (own := RL) (name := "java/lang/IllegalArgumentException") (E := "java/lang/IllegalArgumentException") hown [⟨0, 10, 13, 13⟩] ⟨0, 10, 17, 15⟩ [⟨0, 10, 21, 17⟩] (htb.trans rfl) (List.forall_mem_cons.mpr ⟨Or.inr ⟨by decide, "java/lang/IndexOutOfBoundsException", (hts (.classLink RL 13 "java/lang/IndexOutOfBoundsException") (by decide +kernel)), hY "java/lang/IllegalArgumentException" (by decide) "java/lang/IndexOutOfBoundsException" (by decide) (by decide)⟩, (fun _ h => nomatch h)⟩) (by decide) (by decide) (hts (.classLink RL 15 "java/lang/IllegalArgumentException") (by decide +kernel)) (va_Nw.use rfl (hZ.2.2.1 "java/lang/IllegalArgumentException" (by decide))) hce hcv hcl ?_
      refine W.eq (g2 := F0 m 17 ls [.ref q9]) rfl ?_
      refine W.widen (k := 1) (n := 6) (by omega) (by omega) ?_
      refine lv_astore (lv' := [(4, .ref q9), (0, .ref Ad0), (1, .int Va0), (2, .int Va1), (3, .ref Br0)]) hx hb dL_type_17 hl (by decide) rfl (fun ls hl => ?_)
      refine lv_iconst (v := 2) hx hb dL_type_19 (by decide) ?_
      have hP9 := hP.sub (ws' := []) [] rfl
      have hD9 := hD.sub (ws' := []) [] (by decide) rfl
      have hK9 := hK.sub (tys' := []) [] rfl
      refine vx_ret ?_
      refine W.widen (k := 1) (n := 6) (by decide) (by decide) ?_
      exact W.iret (v := 2) hx hb hr (fun t ht hW => ⟨⟨2, (), rfl, (Or.inr (Or.inl ⟨c104, c105, c106, rfl⟩)), by rw [ht]; exact hP9, va_K.moved hW.alike hK9, hD9⟩, hS.F ht⟩) hS.2.2 dL_type_20
    · skip
      obtain ⟨hP, hD⟩ := va_join (wr := []) (w1 := []) hP hD [0, 1, 2] [] rfl rfl (by decide) (by decide) hk1 hFc P0 D0
      have hK := hK.sub (tys' := []) [] rfl
      generalize H1 = H at hP hS hce ⊢
      have hP : va_P (dC, dI) vwCl [] H := hP
      have hD : va_D A [] := hD
      refine vx_catch (own := RL) (name := "java/lang/IndexOutOfBoundsException") (E := "java/lang/IndexOutOfBoundsException") hown [] ⟨0, 10, 13, 13⟩ [⟨0, 10, 17, 15⟩, ⟨0, 10, 21, 17⟩] (htb.trans rfl) ((fun _ h => nomatch h)) (by decide) (by decide) (hts (.classLink RL 13 "java/lang/IndexOutOfBoundsException") (by decide +kernel)) (va_Nw.use rfl (hZ.2.2.1 "java/lang/IndexOutOfBoundsException" (by decide))) hce hcv hcl ?_
      refine W.eq (g2 := F0 m 13 ls [.ref q9]) rfl ?_
      refine W.widen (k := 1) (n := 6) (by omega) (by omega) ?_
      refine lv_astore (lv' := [(4, .ref q9), (0, .ref Ad0), (1, .int Va0), (2, .int Va1), (3, .ref Br0)]) hx hb dL_type_13 hl (by decide) rfl (fun ls hl => ?_)
      refine lv_iconst (v := 1) hx hb dL_type_15 (by decide) ?_
      have hP9 := hP.sub (ws' := []) [] rfl
      have hD9 := hD.sub (ws' := []) [] (by decide) rfl
      have hK9 := hK.sub (tys' := []) [] rfl
      refine vx_ret ?_
      refine W.widen (k := 1) (n := 6) (by decide) (by decide) ?_
      exact W.iret (v := 1) hx hb hr (fun t ht hW => ⟨⟨1, (), rfl, (Or.inr (Or.inr (Or.inl ⟨c107, c108, c109, rfl⟩))), by rw [ht]; exact hP9, va_K.moved hW.alike hK9, hD9⟩, hS.F ht⟩) hS.2.2 dL_type_16
    · skip
      obtain ⟨hP, hD⟩ := va_join (wr := []) (w1 := []) hP hD [0, 1, 2] [] rfl rfl (by decide) (by decide) hk1 hFc P0 D0
      have hK := hK.sub (tys' := []) [] rfl
      generalize H1 = H at hP hS hce ⊢
      have hP : va_P (dC, dI) vwCl [] H := hP
      have hD : va_D A [] := hD
      refine vx_catch (own := RL) (name := "java/lang/IndexOutOfBoundsException") (E := "java/lang/IndexOutOfBoundsException") hown [] ⟨0, 10, 13, 13⟩ [⟨0, 10, 17, 15⟩, ⟨0, 10, 21, 17⟩] (htb.trans rfl) ((fun _ h => nomatch h)) (by decide) (by decide) (hts (.classLink RL 13 "java/lang/IndexOutOfBoundsException") (by decide +kernel)) (va_Nw.use rfl (hZ.2.2.1 "java/lang/IndexOutOfBoundsException" (by decide))) hce hcv hcl ?_
      refine W.eq (g2 := F0 m 13 ls [.ref q9]) rfl ?_
      refine W.widen (k := 1) (n := 6) (by omega) (by omega) ?_
      refine lv_astore (lv' := [(4, .ref q9), (0, .ref Ad0), (1, .int Va0), (2, .int Va1), (3, .ref Br0)]) hx hb dL_type_13 hl (by decide) rfl (fun ls hl => ?_)
      refine lv_iconst (v := 1) hx hb dL_type_15 (by decide) ?_
      have hP9 := hP.sub (ws' := []) [] rfl
      have hD9 := hD.sub (ws' := []) [] (by decide) rfl
      have hK9 := hK.sub (tys' := []) [] rfl
      refine vx_ret ?_
      refine W.widen (k := 1) (n := 6) (by decide) (by decide) ?_
      exact W.iret (v := 1) hx hb hr (fun t ht hW => ⟨⟨1, (), rfl, (Or.inr (Or.inr (Or.inr (Or.inl ⟨c110, c111, rfl⟩)))), by rw [ht]; exact hP9, va_K.moved hW.alike hK9, hD9⟩, hS.F ht⟩) hS.2.2 dL_type_16
    · skip
      obtain ⟨hP, hD⟩ := va_join (wr := []) (w1 := []) hP hD [0, 1, 2] [] rfl rfl (by decide) (by decide) hk1 hFc P0 D0
      have hK := hK.sub (tys' := []) [] rfl
      generalize H1 = H at hP hS hce ⊢
      have hP : va_P (dC, dI) vwCl [] H := hP
      have hD : va_D A [] := hD
      refine vx_catch (own := RL) (name := "java/lang/IndexOutOfBoundsException") (E := "java/lang/IndexOutOfBoundsException") hown [] ⟨0, 10, 13, 13⟩ [⟨0, 10, 17, 15⟩, ⟨0, 10, 21, 17⟩] (htb.trans rfl) ((fun _ h => nomatch h)) (by decide) (by decide) (hts (.classLink RL 13 "java/lang/IndexOutOfBoundsException") (by decide +kernel)) (va_Nw.use rfl (hZ.2.2.1 "java/lang/IndexOutOfBoundsException" (by decide))) hce hcv hcl ?_
      refine W.eq (g2 := F0 m 13 ls [.ref q9]) rfl ?_
      refine W.widen (k := 1) (n := 6) (by omega) (by omega) ?_
      refine lv_astore (lv' := [(4, .ref q9), (0, .ref Ad0), (1, .int Va0), (2, .int Va1), (3, .ref Br0)]) hx hb dL_type_13 hl (by decide) rfl (fun ls hl => ?_)
      refine lv_iconst (v := 1) hx hb dL_type_15 (by decide) ?_
      have hP9 := hP.sub (ws' := []) [] rfl
      have hD9 := hD.sub (ws' := []) [] (by decide) rfl
      have hK9 := hK.sub (tys' := []) [] rfl
      refine vx_ret ?_
      refine W.widen (k := 1) (n := 6) (by decide) (by decide) ?_
      exact W.iret (v := 1) hx hb hr (fun t ht hW => ⟨⟨1, (), rfl, (Or.inr (Or.inr (Or.inr (Or.inr (⟨c112, c113, c114, rfl⟩))))), by rw [ht]; exact hP9, va_K.moved hW.alike hK9, hD9⟩, hS.F ht⟩) hS.2.2 dL_type_16
  · exact hw.elim

def l_z_L_field : List Cond := [.methodLink RL 19 yX11_field, .instanceMethod yX11_field, .selects RX11 yX11_field yX11_field, .initialized RX11, .classLink RL 13 "java/lang/IndexOutOfBoundsException", .code yX11_field cX11_field 8 (some .int), .fieldLink RX11 19 "HeapWorks" "types" "LHeapWorks$Types;", .methodLink RX11 116 yX10_isClass, .instanceMethod yX10_isClass, .selects RX10 yX10_isClass yX10_isClass, .initialized RX10, .classLink RX11 120 "java/lang/IndexOutOfBoundsException", .initialized "java/lang/IndexOutOfBoundsException", .code yX10_isClass cX10_isClass 2 (some .boolean), .fieldLink RX10 65 "HeapWorks$Types" "count" "I"]
def w_z_L_field : List Cond := .codeWith yL_field cL_field 7 (some .int) [(0, 14, 17, 13), (0, 14, 21, 15), (0, 14, 25, 17)] :: (l_z_L_field ++ ((wsX110 ++ (((vx_at0 RX11 122 "java/lang/IndexOutOfBoundsException" ["java/lang/RuntimeException", "java/lang/Exception"]).filter goodWord) ++ wsX100))))
theorem in_z_L_field_X11 : ∀ w ∈ wsX110, w ∈ w_z_L_field := fun w h => List.mem_cons_of_mem _ (List.mem_append_right _ (List.mem_append_left _ h))
theorem in_z_L_field_at0_X11_122 : ∀ w ∈ ((vx_at0 RX11 122 "java/lang/IndexOutOfBoundsException" ["java/lang/RuntimeException", "java/lang/Exception"]).filter goodWord), w ∈ w_z_L_field := fun w h => List.mem_cons_of_mem _ (List.mem_append_right _ (List.mem_append_right _ (List.mem_append_left _ h)))
theorem in_z_L_field_X10 : ∀ w ∈ wsX100, w ∈ w_z_L_field := fun w h => List.mem_cons_of_mem _ (List.mem_append_right _ (List.mem_append_right _ (List.mem_append_right _ (h))))
theorem g_z_L_field_z_X11_field_19 : GoodIn w_z_L_field (wsV RL 19 RX11 yX11_field w_z_X11_field) := goodIn_app (goodIn_r (([.methodLink RL 19 yX11_field, .instanceMethod yX11_field, .selects RX11 yX11_field yX11_field, .initialized RX11] : List Cond)) [1, 2, 3, 4] rfl (by decide +kernel)) (goodIn_ca (goodIn_r (.code yX11_field cX11_field 8 (some .int) :: l_z_X11_field) [6, 7, 8, 9, 10, 11, 12, 13, 14, 15] rfl (by decide +kernel)) (goodIn_app (goodIn_in (in_z_L_field_X11) gd_X11) (goodIn_app (goodIn_in (in_z_L_field_at0_X11_122) gd_at0_X11_122) (goodIn_in (in_z_L_field_X10) gd_X10))))
set_option maxHeartbeats 4000000 in
set_option maxRecDepth 100000 in
theorem z_L_field (l : Launch) (dC : Nat → ClassId) (dI : Nat → Nat → Nat) (sz : Nat) (Ad0 : Nat) (Fs0 : List Value) (Ad1 : Nat) (Fs1 : List Value) (Va0 : Int32) (Va1 : Int32) (Va2 : Int32) (Br0 : Nat) (k_Fs0 : fh Fs0 18 [(1, .ref Ad1)]) (k_Fs1 : fh Fs1 18 [(0, .int 0)]) (hst : l.stackTraces = false)  : vx_Met l yL_field w_z_L_field ({ frames := 8, cells := 1, slots := 6, locals := 167 }) (va_Pc [.ref Ad0, .int Va0, .int Va1, .int Va2, .int 0, .ref Br0] (fun U => U.heap.size = sz ∧ Zz (va_A [(Ad0, .inr (14, Fs0)), (Ad1, .inr (13, Fs1))] sz) U ∧ Yy U ∧ Wd dC dI [] (fun _ => True) [(Ad0, .inr (14, Fs0)), (Ad1, .inr (13, Fs1))] U)) (va_Qi (fun (r : Int32) (u : Unit) => (Va0 < 0 ∧ r = 1) ∨ (¬ Va0 < 0 ∧ 0 ≤ Va0 ∧ r = 1)) (fun (u : Unit) t => Wd dC dI [] (va_A [(Ad0, .inr (14, Fs0)), (Ad1, .inr (13, Fs1))] sz) [] t) (va_A [(Ad0, .inr (14, Fs0)), (Ad1, .inr (13, Fs1))] sz)) (vx_X (fun _ : Unit => True) (fun E _ _ => False) (va_A [(Ad0, .inr (14, Fs0)), (Ad1, .inr (13, Fs1))] sz)) 1 6 (va_A [(Ad0, .inr (14, Fs0)), (Ad1, .inr (13, Fs1))] sz) := by
  refine vx_ofWH (cc := cL_field) (maxL := 7) (ret := (some .int)) (by decide) rfl ?_
  intro p e s m args below meth c s₁ B hml hv
  obtain ⟨rfl, hsz, hZ, hY, hP, hK, hD0⟩ := hv
  have hx := B.exec
  have hb := B.bytes
  have hr := B.returns
  have hts := atoms_spec (ws := w_z_L_field) B.pre
  have hown : s.vm.findClass RL = some m.cls := findClass_of_methodNamed B.named
  have hlocks := B.notSynchronized
  have htb := vx_table (x := yL_field) B (hts (.codeWith yL_field cL_field 7 (some .int) [(0, 14, 17, 13), (0, 14, 21, 15), (0, 14, 25, 17)]) (by decide +kernel))
  subst hsz
  have hD := hD0.self (sz := s.heap.size)
  generalize hAe : va_A [(Ad0, .inr (14, Fs0)), (Ad1, .inr (13, Fs1))] s.heap.size = A at hD hZ ⊢
  have hA : ∀ q : Nat, s.heap.size ≤ q → A q := fun q h => by rw [← hAe]; exact Or.inr h
  have hS : va_S A s.heap s.heap [] := va_S.rf
  have hl := lv_entry ([.ref Ad0, .int Va0, .int Va1, .int Va2, .int 0, .ref Br0]) (n := 7) (Nat.le_of_ble_eq_true rfl)
  rw [lg_entry_eq]
  generalize (lg_sl ([.ref Ad0, .int Va0, .int Va1, .int Va2, .int 0, .ref Br0]) ++ List.replicate (7 - (lg_sl ([.ref Ad0, .int Va0, .int Va1, .int Va2, .int 0, .ref Br0])).length) Slot.unset).toArray = ls at hl ⊢
  have hl : lv_has ls 7 [(0, .ref Ad0), (1, .int Va0), (2, .int Va1), (3, .int Va2), (4, .int 0), (5, .ref Br0)] := hl
  have o_Fs0 := ow_0 k_Fs0
  have o_Fs1 := ow_0 k_Fs1
  refine lv_aload hx hb dL_field_0 (lv_at hl 5 rfl) ?_
  refine lv_iconst (v := 0) hx hb dL_field_2 (by decide) ?_
  refine lv_aload_n hx hb dL_field_3 rfl (lv_at hl 0 rfl) ?_
  refine lv_iload_n hx hb dL_field_4 rfl (lv_at hl 1 rfl) ?_
  refine lv_iload_n hx hb dL_field_5 rfl (lv_at hl 2 rfl) ?_
  refine lv_iload_n hx hb dL_field_6 rfl (lv_at hl 3 rfl) ?_
  refine lv_iload hx hb dL_field_7 (lv_at hl 4 rfl) ?_
  have hPc := hP.sub (ws' := [(Ad0, .inr (14, Fs0)), (Ad1, .inr (13, Fs1))]) [0, 1] rfl
  have hDc := hD.sub (ws' := [(Ad0, .inr (14, Fs0)), (Ad1, .inr (13, Fs1))]) [0, 1] (by decide) rfl
  have hKc := hK.sub (tys' := []) [] rfl
  have hFc := va_free (wc := [(Ad0, .inr (14, Fs0)), (Ad1, .inr (13, Fs1))]) hD hS hA [0, 1] rfl
  refine vx_calli (vx_runV (As := [.int Va0, .int Va1, .int Va2, .int 0]) (rest := [.int 0, .ref Br0]) ⟨hx, hb, hml, hown, hts⟩ (z_X11_field l dC dI s.heap.size Ad0 Fs0 Ad1 Fs1 Va0 Va1 Va2 (fh_sub o_Fs0.2 [0] rfl) (fh_sub o_Fs1.2 [0] rfl) hst ) (cwV 4 hts g_z_L_field_z_X11_field_19 rfl rfl rfl (by decide +kernel) ⟨Nat.le_of_ble_eq_true rfl, Nat.le_of_ble_eq_true rfl⟩) ⟨fun a U g mk q => by obtain ⟨q0, q1, qZ, qP, qK, qD⟩ := q; exact ⟨q0, q1, Zz_call qZ, qP, va_K.moved (u := U) (U := U.calling g mk a) (Vm.Alike.refl U.vm) qK, qD⟩, va_recv hK hP (ci := 14) (q0 := 0) rfl rfl, fun U hU hW => ⟨rfl, by rw [hU], Zz_go hZ hS hFc hU hW, by rw [hU]; exact hPc, va_K.moved hW.alike hKc, hDc.weaken (fun _ _ _ _ => trivial)⟩⟩ rfl rfl hl.1 rfl (lv_room (Nat.le_of_ble_eq_true rfl)) dL_field_9 ⟨Nat.le_of_ble_eq_true rfl, Nat.le_of_ble_eq_true rfl⟩) hS (fun q _ h => hFc q h) hFc (fun q _ h => hFc q h) (fun E ce q9 u t H1 locs ht hvm hpx hBX hz1 hk1 hS hce hcv hcl => ?_) (fun r101 u t H1 locs ht hvm hw hB hz1 hk1 hS => ?_)
  · rcases hBX with ⟨rfl, c102⟩ | ⟨rfl, c103, c104⟩
    · skip
      obtain ⟨hP, hD⟩ := va_join (wr := []) (w1 := []) hP hD [0, 1] [] rfl rfl (by decide) (by decide) hk1 hFc P0 D0
      have hK := hK.sub (tys' := []) [] rfl
      generalize H1 = H at hP hS hce ⊢
      have hP : va_P (dC, dI) vwCl [] H := hP
      have hD : va_D A [] := hD
      refine vx_catch (own := RL) (name := "java/lang/IndexOutOfBoundsException") (E := "java/lang/IndexOutOfBoundsException") hown [] ⟨0, 14, 17, 13⟩ [⟨0, 14, 21, 15⟩, ⟨0, 14, 25, 17⟩] (htb.trans rfl) ((fun _ h => nomatch h)) (by decide) (by decide) (hts (.classLink RL 13 "java/lang/IndexOutOfBoundsException") (by decide +kernel)) (va_Nw.use rfl (hZ.2.2.1 "java/lang/IndexOutOfBoundsException" (by decide))) hce hcv hcl ?_
      refine W.eq (g2 := F0 m 17 ls [.ref q9]) rfl ?_
      refine W.widen (k := 1) (n := 6) (by omega) (by omega) ?_
      refine lv_astore (lv' := [(6, .ref q9), (0, .ref Ad0), (1, .int Va0), (2, .int Va1), (3, .int Va2), (4, .int 0), (5, .ref Br0)]) hx hb dL_field_17 hl (by decide) rfl (fun ls hl => ?_)
      refine lv_iconst (v := 1) hx hb dL_field_19 (by decide) ?_
      have hP9 := hP.sub (ws' := []) [] rfl
      have hD9 := hD.sub (ws' := []) [] (by decide) rfl
      have hK9 := hK.sub (tys' := []) [] rfl
      refine vx_ret ?_
      refine W.widen (k := 1) (n := 6) (by decide) (by decide) ?_
      exact W.iret (v := 1) hx hb hr (fun t ht hW => ⟨⟨1, (), rfl, (Or.inl ⟨c102, rfl⟩), by rw [ht]; exact hP9, va_K.moved hW.alike hK9, hD9⟩, hS.F ht⟩) hS.2.2 dL_field_20
    · skip
      obtain ⟨hP, hD⟩ := va_join (wr := []) (w1 := []) hP hD [0, 1] [] rfl rfl (by decide) (by decide) hk1 hFc P0 D0
      have hK := hK.sub (tys' := []) [] rfl
      generalize H1 = H at hP hS hce ⊢
      have hP : va_P (dC, dI) vwCl [] H := hP
      have hD : va_D A [] := hD
      refine vx_catch (own := RL) (name := "java/lang/IndexOutOfBoundsException") (E := "java/lang/IndexOutOfBoundsException") hown [] ⟨0, 14, 17, 13⟩ [⟨0, 14, 21, 15⟩, ⟨0, 14, 25, 17⟩] (htb.trans rfl) ((fun _ h => nomatch h)) (by decide) (by decide) (hts (.classLink RL 13 "java/lang/IndexOutOfBoundsException") (by decide +kernel)) (va_Nw.use rfl (hZ.2.2.1 "java/lang/IndexOutOfBoundsException" (by decide))) hce hcv hcl ?_
      refine W.eq (g2 := F0 m 17 ls [.ref q9]) rfl ?_
      refine W.widen (k := 1) (n := 6) (by omega) (by omega) ?_
      refine lv_astore (lv' := [(6, .ref q9), (0, .ref Ad0), (1, .int Va0), (2, .int Va1), (3, .int Va2), (4, .int 0), (5, .ref Br0)]) hx hb dL_field_17 hl (by decide) rfl (fun ls hl => ?_)
      refine lv_iconst (v := 1) hx hb dL_field_19 (by decide) ?_
      have hP9 := hP.sub (ws' := []) [] rfl
      have hD9 := hD.sub (ws' := []) [] (by decide) rfl
      have hK9 := hK.sub (tys' := []) [] rfl
      refine vx_ret ?_
      refine W.widen (k := 1) (n := 6) (by decide) (by decide) ?_
      exact W.iret (v := 1) hx hb hr (fun t ht hW => ⟨⟨1, (), rfl, (Or.inr (⟨c103, c104, rfl⟩)), by rw [ht]; exact hP9, va_K.moved hW.alike hK9, hD9⟩, hS.F ht⟩) hS.2.2 dL_field_20
  · exact hw.elim

def l_z_L_field_1 : List Cond := [.methodLink RL 19 yX11_field, .instanceMethod yX11_field, .selects RX11 yX11_field yX11_field, .initialized RX11, .classLink RL 13 "java/lang/IndexOutOfBoundsException", .code yX11_field cX11_field 8 (some .int), .fieldLink RX11 19 "HeapWorks" "types" "LHeapWorks$Types;", .methodLink RX11 116 yX10_isClass, .instanceMethod yX10_isClass, .selects RX10 yX10_isClass yX10_isClass, .initialized RX10, .classLink RX11 120 "java/lang/IndexOutOfBoundsException", .initialized "java/lang/IndexOutOfBoundsException", .code yX10_isClass cX10_isClass 2 (some .boolean), .fieldLink RX10 65 "HeapWorks$Types" "count" "I"]
def w_z_L_field_1 : List Cond := .codeWith yL_field cL_field 7 (some .int) [(0, 14, 17, 13), (0, 14, 21, 15), (0, 14, 25, 17)] :: (l_z_L_field_1 ++ ((wsX110 ++ (((vx_at0 RX11 122 "java/lang/IndexOutOfBoundsException" ["java/lang/RuntimeException", "java/lang/Exception"]).filter goodWord) ++ wsX100))))
theorem in_z_L_field_1_X11 : ∀ w ∈ wsX110, w ∈ w_z_L_field_1 := fun w h => List.mem_cons_of_mem _ (List.mem_append_right _ (List.mem_append_left _ h))
theorem in_z_L_field_1_at0_X11_122 : ∀ w ∈ ((vx_at0 RX11 122 "java/lang/IndexOutOfBoundsException" ["java/lang/RuntimeException", "java/lang/Exception"]).filter goodWord), w ∈ w_z_L_field_1 := fun w h => List.mem_cons_of_mem _ (List.mem_append_right _ (List.mem_append_right _ (List.mem_append_left _ h)))
theorem in_z_L_field_1_X10 : ∀ w ∈ wsX100, w ∈ w_z_L_field_1 := fun w h => List.mem_cons_of_mem _ (List.mem_append_right _ (List.mem_append_right _ (List.mem_append_right _ (h))))
theorem g_z_L_field_1_z_X11_field_1_19 : GoodIn w_z_L_field_1 (wsV RL 19 RX11 yX11_field w_z_X11_field_1) := goodIn_app (goodIn_r (([.methodLink RL 19 yX11_field, .instanceMethod yX11_field, .selects RX11 yX11_field yX11_field, .initialized RX11] : List Cond)) [1, 2, 3, 4] rfl (by decide +kernel)) (goodIn_ca (goodIn_r (.code yX11_field cX11_field 8 (some .int) :: l_z_X11_field_1) [6, 7, 8, 9, 10, 11, 12, 13, 14, 15] rfl (by decide +kernel)) (goodIn_app (goodIn_in (in_z_L_field_1_X11) gd_X11) (goodIn_app (goodIn_in (in_z_L_field_1_at0_X11_122) gd_at0_X11_122) (goodIn_in (in_z_L_field_1_X10) gd_X10))))
set_option maxHeartbeats 4000000 in
set_option maxRecDepth 100000 in
theorem z_L_field_1 (l : Launch) (dC : Nat → ClassId) (dI : Nat → Nat → Nat) (sz : Nat) (Ad0 : Nat) (Fs0 : List Value) (Ad1 : Nat) (Fs1 : List Value) (Va0 : Int32) (Va1 : Int32) (Va2 : Int32) (Br0 : Nat) (k_Fs0 : fh Fs0 18 [(1, .ref Ad1)]) (k_Fs1 : fh Fs1 18 [(0, .int 0)]) (hst : l.stackTraces = false)  : vx_Met l yL_field w_z_L_field_1 ({ frames := 8, cells := 1, slots := 6, locals := 167 }) (va_Pc [.ref Ad0, .int Va0, .int Va1, .int Va2, .int 1, .ref Br0] (fun U => U.heap.size = sz ∧ Zz (va_A [(Ad0, .inr (14, Fs0)), (Ad1, .inr (13, Fs1))] sz) U ∧ Yy U ∧ Wd dC dI [] (fun _ => True) [(Ad0, .inr (14, Fs0)), (Ad1, .inr (13, Fs1))] U)) (va_Qi (fun (r : Int32) (u : Unit) => (Va0 < 0 ∧ r = 1) ∨ (¬ Va0 < 0 ∧ 0 ≤ Va0 ∧ r = 1)) (fun (u : Unit) t => Wd dC dI [] (va_A [(Ad0, .inr (14, Fs0)), (Ad1, .inr (13, Fs1))] sz) [] t) (va_A [(Ad0, .inr (14, Fs0)), (Ad1, .inr (13, Fs1))] sz)) (vx_X (fun _ : Unit => True) (fun E _ _ => False) (va_A [(Ad0, .inr (14, Fs0)), (Ad1, .inr (13, Fs1))] sz)) 1 6 (va_A [(Ad0, .inr (14, Fs0)), (Ad1, .inr (13, Fs1))] sz) := by
  refine vx_ofWH (cc := cL_field) (maxL := 7) (ret := (some .int)) (by decide) rfl ?_
  intro p e s m args below meth c s₁ B hml hv
  obtain ⟨rfl, hsz, hZ, hY, hP, hK, hD0⟩ := hv
  have hx := B.exec
  have hb := B.bytes
  have hr := B.returns
  have hts := atoms_spec (ws := w_z_L_field_1) B.pre
  have hown : s.vm.findClass RL = some m.cls := findClass_of_methodNamed B.named
  have hlocks := B.notSynchronized
  have htb := vx_table (x := yL_field) B (hts (.codeWith yL_field cL_field 7 (some .int) [(0, 14, 17, 13), (0, 14, 21, 15), (0, 14, 25, 17)]) (by decide +kernel))
  subst hsz
  have hD := hD0.self (sz := s.heap.size)
  generalize hAe : va_A [(Ad0, .inr (14, Fs0)), (Ad1, .inr (13, Fs1))] s.heap.size = A at hD hZ ⊢
  have hA : ∀ q : Nat, s.heap.size ≤ q → A q := fun q h => by rw [← hAe]; exact Or.inr h
  have hS : va_S A s.heap s.heap [] := va_S.rf
  have hl := lv_entry ([.ref Ad0, .int Va0, .int Va1, .int Va2, .int 1, .ref Br0]) (n := 7) (Nat.le_of_ble_eq_true rfl)
  rw [lg_entry_eq]
  generalize (lg_sl ([.ref Ad0, .int Va0, .int Va1, .int Va2, .int 1, .ref Br0]) ++ List.replicate (7 - (lg_sl ([.ref Ad0, .int Va0, .int Va1, .int Va2, .int 1, .ref Br0])).length) Slot.unset).toArray = ls at hl ⊢
  have hl : lv_has ls 7 [(0, .ref Ad0), (1, .int Va0), (2, .int Va1), (3, .int Va2), (4, .int 1), (5, .ref Br0)] := hl
  have o_Fs0 := ow_0 k_Fs0
  have o_Fs1 := ow_0 k_Fs1
  refine lv_aload hx hb dL_field_0 (lv_at hl 5 rfl) ?_
  refine lv_iconst (v := 0) hx hb dL_field_2 (by decide) ?_
  refine lv_aload_n hx hb dL_field_3 rfl (lv_at hl 0 rfl) ?_
  refine lv_iload_n hx hb dL_field_4 rfl (lv_at hl 1 rfl) ?_
  refine lv_iload_n hx hb dL_field_5 rfl (lv_at hl 2 rfl) ?_
  refine lv_iload_n hx hb dL_field_6 rfl (lv_at hl 3 rfl) ?_
  refine lv_iload hx hb dL_field_7 (lv_at hl 4 rfl) ?_
  have hPc := hP.sub (ws' := [(Ad0, .inr (14, Fs0)), (Ad1, .inr (13, Fs1))]) [0, 1] rfl
  have hDc := hD.sub (ws' := [(Ad0, .inr (14, Fs0)), (Ad1, .inr (13, Fs1))]) [0, 1] (by decide) rfl
  have hKc := hK.sub (tys' := []) [] rfl
  have hFc := va_free (wc := [(Ad0, .inr (14, Fs0)), (Ad1, .inr (13, Fs1))]) hD hS hA [0, 1] rfl
  refine vx_calli (vx_runV (As := [.int Va0, .int Va1, .int Va2, .int 1]) (rest := [.int 0, .ref Br0]) ⟨hx, hb, hml, hown, hts⟩ (z_X11_field_1 l dC dI s.heap.size Ad0 Fs0 Ad1 Fs1 Va0 Va1 Va2 (fh_sub o_Fs0.2 [0] rfl) (fh_sub o_Fs1.2 [0] rfl) hst ) (cwV 4 hts g_z_L_field_1_z_X11_field_1_19 rfl rfl rfl (by decide +kernel) ⟨Nat.le_of_ble_eq_true rfl, Nat.le_of_ble_eq_true rfl⟩) ⟨fun a U g mk q => by obtain ⟨q0, q1, qZ, qP, qK, qD⟩ := q; exact ⟨q0, q1, Zz_call qZ, qP, va_K.moved (u := U) (U := U.calling g mk a) (Vm.Alike.refl U.vm) qK, qD⟩, va_recv hK hP (ci := 14) (q0 := 0) rfl rfl, fun U hU hW => ⟨rfl, by rw [hU], Zz_go hZ hS hFc hU hW, by rw [hU]; exact hPc, va_K.moved hW.alike hKc, hDc.weaken (fun _ _ _ _ => trivial)⟩⟩ rfl rfl hl.1 rfl (lv_room (Nat.le_of_ble_eq_true rfl)) dL_field_9 ⟨Nat.le_of_ble_eq_true rfl, Nat.le_of_ble_eq_true rfl⟩) hS (fun q _ h => hFc q h) hFc (fun q _ h => hFc q h) (fun E ce q9 u t H1 locs ht hvm hpx hBX hz1 hk1 hS hce hcv hcl => ?_) (fun r101 u t H1 locs ht hvm hw hB hz1 hk1 hS => ?_)
  · rcases hBX with ⟨rfl, c102⟩ | ⟨rfl, c103, c104⟩
    · skip
      obtain ⟨hP, hD⟩ := va_join (wr := []) (w1 := []) hP hD [0, 1] [] rfl rfl (by decide) (by decide) hk1 hFc P0 D0
      have hK := hK.sub (tys' := []) [] rfl
      generalize H1 = H at hP hS hce ⊢
      have hP : va_P (dC, dI) vwCl [] H := hP
      have hD : va_D A [] := hD
      refine vx_catch (own := RL) (name := "java/lang/IndexOutOfBoundsException") (E := "java/lang/IndexOutOfBoundsException") hown [] ⟨0, 14, 17, 13⟩ [⟨0, 14, 21, 15⟩, ⟨0, 14, 25, 17⟩] (htb.trans rfl) ((fun _ h => nomatch h)) (by decide) (by decide) (hts (.classLink RL 13 "java/lang/IndexOutOfBoundsException") (by decide +kernel)) (va_Nw.use rfl (hZ.2.2.1 "java/lang/IndexOutOfBoundsException" (by decide))) hce hcv hcl ?_
      refine W.eq (g2 := F0 m 17 ls [.ref q9]) rfl ?_
      refine W.widen (k := 1) (n := 6) (by omega) (by omega) ?_
      refine lv_astore (lv' := [(6, .ref q9), (0, .ref Ad0), (1, .int Va0), (2, .int Va1), (3, .int Va2), (4, .int 1), (5, .ref Br0)]) hx hb dL_field_17 hl (by decide) rfl (fun ls hl => ?_)
      refine lv_iconst (v := 1) hx hb dL_field_19 (by decide) ?_
      have hP9 := hP.sub (ws' := []) [] rfl
      have hD9 := hD.sub (ws' := []) [] (by decide) rfl
      have hK9 := hK.sub (tys' := []) [] rfl
      refine vx_ret ?_
      refine W.widen (k := 1) (n := 6) (by decide) (by decide) ?_
      exact W.iret (v := 1) hx hb hr (fun t ht hW => ⟨⟨1, (), rfl, (Or.inl ⟨c102, rfl⟩), by rw [ht]; exact hP9, va_K.moved hW.alike hK9, hD9⟩, hS.F ht⟩) hS.2.2 dL_field_20
    · skip
      obtain ⟨hP, hD⟩ := va_join (wr := []) (w1 := []) hP hD [0, 1] [] rfl rfl (by decide) (by decide) hk1 hFc P0 D0
      have hK := hK.sub (tys' := []) [] rfl
      generalize H1 = H at hP hS hce ⊢
      have hP : va_P (dC, dI) vwCl [] H := hP
      have hD : va_D A [] := hD
      refine vx_catch (own := RL) (name := "java/lang/IndexOutOfBoundsException") (E := "java/lang/IndexOutOfBoundsException") hown [] ⟨0, 14, 17, 13⟩ [⟨0, 14, 21, 15⟩, ⟨0, 14, 25, 17⟩] (htb.trans rfl) ((fun _ h => nomatch h)) (by decide) (by decide) (hts (.classLink RL 13 "java/lang/IndexOutOfBoundsException") (by decide +kernel)) (va_Nw.use rfl (hZ.2.2.1 "java/lang/IndexOutOfBoundsException" (by decide))) hce hcv hcl ?_
      refine W.eq (g2 := F0 m 17 ls [.ref q9]) rfl ?_
      refine W.widen (k := 1) (n := 6) (by omega) (by omega) ?_
      refine lv_astore (lv' := [(6, .ref q9), (0, .ref Ad0), (1, .int Va0), (2, .int Va1), (3, .int Va2), (4, .int 1), (5, .ref Br0)]) hx hb dL_field_17 hl (by decide) rfl (fun ls hl => ?_)
      refine lv_iconst (v := 1) hx hb dL_field_19 (by decide) ?_
      have hP9 := hP.sub (ws' := []) [] rfl
      have hD9 := hD.sub (ws' := []) [] (by decide) rfl
      have hK9 := hK.sub (tys' := []) [] rfl
      refine vx_ret ?_
      refine W.widen (k := 1) (n := 6) (by decide) (by decide) ?_
      exact W.iret (v := 1) hx hb hr (fun t ht hW => ⟨⟨1, (), rfl, (Or.inr (⟨c103, c104, rfl⟩)), by rw [ht]; exact hP9, va_K.moved hW.alike hK9, hD9⟩, hS.F ht⟩) hS.2.2 dL_field_20
  · exact hw.elim

def l_z_L_make : List Cond := [.methodLink RL 23 yX11_make, .instanceMethod yX11_make, .selects RX11 yX11_make yX11_make, .initialized RX11, .classLink RL 15 "java/lang/IllegalArgumentException", .code yX11_make cX11_make 4 (some .int), .fieldLink RX11 19 "HeapWorks" "types" "LHeapWorks$Types;", .methodLink RX11 144 yX10_isType, .instanceMethod yX10_isType, .selects RX10 yX10_isType yX10_isType, .initialized RX10, .classLink RX11 127 "java/lang/IllegalArgumentException", .initialized "java/lang/IllegalArgumentException", .methodLink RX11 206 yX10_isArray, .static yX10_isArray, .fieldLink RX11 28 "HeapWorks" "heap" "LHeapWorks$Heap;", .methodLink RX11 209 yX10_slotsOf, .instanceMethod yX10_slotsOf, .selects RX10 yX10_slotsOf yX10_slotsOf, .methodLink RX11 212 yX2_hasRoom, .instanceMethod yX2_hasRoom, .selects RX2 yX2_hasRoom yX2_hasRoom, .initialized RX2, .methodLink RX11 215 yX2_create, .instanceMethod yX2_create, .selects RX2 yX2_create yX2_create, .code yX10_isType cX10_isType 2 (some .boolean), .methodLink RX10 69 yX10_isClass, .instanceMethod yX10_isClass, .selects RX10 yX10_isClass yX10_isClass, .code yX10_isClass cX10_isClass 2 (some .boolean), .fieldLink RX10 65 "HeapWorks$Types" "count" "I", .code yX10_isArray cX10_isArray 1 (some .boolean), .code yX10_slotsOf cX10_slotsOf 3 (some .int), .methodLink RX10 86 yX10_isArray, .code yX2_hasRoom cX2_hasRoom 3 (some .boolean), .fieldLink RX2 47 "HeapWorks$Heap" "made" "I", .fieldLink RX2 62 "HeapWorks$Heap" "slots" "I", .code yX2_create cX2_create 7 (some .int), .fieldLink RX2 75 "HeapWorks$Heap" "there" "I", .fieldLink RX2 15 "HeapWorks$Heap" "type" "[I", .fieldLink RX2 19 "HeapWorks$Heap" "length" "[I", .fieldLink RX2 22 "HeapWorks$Heap" "first" "[I", .fieldLink RX2 9 "HeapWorks$Heap" "types" "LHeapWorks$Types;", .methodLink RX2 78 yX10_use, .instanceMethod yX10_use, .selects RX10 yX10_use yX10_use, .methodLink RX2 51 yX10_slotsOf, .methodLink RX2 82 yX10_kindAt, .instanceMethod yX10_kindAt, .selects RX10 yX10_kindAt yX10_kindAt, .fieldLink RX2 29 "HeapWorks$Heap" "link" "[Z", .fieldLink RX2 25 "HeapWorks$Heap" "value" "[J", .methodLink RX2 85 yX10_firstValue, .static yX10_firstValue, .code yX10_use cX10_use 2 none, .code yX10_kindAt cX10_kindAt 3 (some .int), .code yX10_firstValue cX10_firstValue 1 (some .long), .constantLong RX10 96 (-1)]
def w_z_L_make : List Cond := .codeWith yL_make cL_make 5 (some .int) [(0, 10, 13, 15), (0, 10, 17, 17)] :: (l_z_L_make ++ ((wsX110 ++ (((vx_at0 RX11 129 "java/lang/IllegalArgumentException" ["java/lang/RuntimeException", "java/lang/Exception"]).filter goodWord) ++ (wsX100 ++ wsX20)))))
theorem in_z_L_make_X11 : ∀ w ∈ wsX110, w ∈ w_z_L_make := fun w h => List.mem_cons_of_mem _ (List.mem_append_right _ (List.mem_append_left _ h))
theorem in_z_L_make_at0_X11_129 : ∀ w ∈ ((vx_at0 RX11 129 "java/lang/IllegalArgumentException" ["java/lang/RuntimeException", "java/lang/Exception"]).filter goodWord), w ∈ w_z_L_make := fun w h => List.mem_cons_of_mem _ (List.mem_append_right _ (List.mem_append_right _ (List.mem_append_left _ h)))
theorem in_z_L_make_X10 : ∀ w ∈ wsX100, w ∈ w_z_L_make := fun w h => List.mem_cons_of_mem _ (List.mem_append_right _ (List.mem_append_right _ (List.mem_append_right _ (List.mem_append_left _ h))))
theorem in_z_L_make_X2 : ∀ w ∈ wsX20, w ∈ w_z_L_make := fun w h => List.mem_cons_of_mem _ (List.mem_append_right _ (List.mem_append_right _ (List.mem_append_right _ (List.mem_append_right _ (h)))))
theorem g_z_L_make_z_X11_make_23 : GoodIn w_z_L_make (wsV RL 23 RX11 yX11_make w_z_X11_make) := goodIn_app (goodIn_r (([.methodLink RL 23 yX11_make, .instanceMethod yX11_make, .selects RX11 yX11_make yX11_make, .initialized RX11] : List Cond)) [1, 2, 3, 4] rfl (by decide +kernel)) (goodIn_ca (goodIn_r (.code yX11_make cX11_make 4 (some .int) :: l_z_X11_make) [6, 7, 8, 9, 10, 11, 12, 13, 14, 15, 16, 17, 18, 19, 20, 21, 22, 23, 24, 25, 26, 27, 28, 29, 30, 31, 32, 33, 34, 35, 36, 37, 38, 39, 40, 41, 42, 43, 44, 45, 46, 47, 48, 49, 50, 51, 52, 53, 54, 55, 56, 57, 58, 59] rfl (by decide +kernel)) (goodIn_app (goodIn_in (in_z_L_make_X11) gd_X11) (goodIn_app (goodIn_in (in_z_L_make_at0_X11_129) gd_at0_X11_129) (goodIn_app (goodIn_in (in_z_L_make_X10) gd_X10) (goodIn_in (in_z_L_make_X2) gd_X2)))))
set_option maxHeartbeats 4000000 in
set_option maxRecDepth 100000 in
theorem z_L_make (l : Launch) (dC : Nat → ClassId) (dI : Nat → Nat → Nat) (sz : Nat) (Ad0 : Nat) (Fs0 : List Value) (Ad1 : Nat) (Fs1 : List Value) (Ad2 : Nat) (Fs2 : List Value) (Ad3 : Nat) (Fa0 : Nat → Int32) (Ka0 : ClassId) (Ad4 : Nat) (Fa1 : Nat → Int32) (Ka1 : ClassId) (Ad5 : Nat) (Fa2 : Nat → Int32) (Ka2 : ClassId) (Ad6 : Nat) (Fa3 : Nat → Int64) (Ka3 : ClassId) (Ad7 : Nat) (Fa4 : Nat → Int32) (Ka4 : ClassId) (Ad8 : Nat) (Fa5 : Nat → Int64) (Ka5 : ClassId) (Va0 : Int32) (Va1 : Int32) (k_Fs0 : fh Fs0 18 [(1, .ref Ad1), (2, .ref Ad2)]) (k_Fs1 : fh Fs1 18 [(0, .int 0)]) (k_Fs2 : fh Fs2 14 [(0, .ref Ad1), (1, .int 0), (2, .int 0), (3, .int 0), (4, .ref Ad3), (5, .ref Ad4), (6, .ref Ad5), (7, .ref Ad6), (8, .ref Ad7)]) (hst : l.stackTraces = false)  : vx_Met l yL_make w_z_L_make ({ frames := 8, cells := 1, slots := 6, locals := 163 }) (va_Pc [.ref Ad0, .int Va0, .int Va1, .ref Ad8] (fun U => U.heap.size = sz ∧ Zz (va_A [(Ad0, .inr (14, Fs0)), (Ad1, .inr (13, Fs1)), (Ad2, .inr (5, Fs2)), (Ad3, .inl (Ka0, 400, .inl Fa0)), (Ad4, .inl (Ka1, 400, .inl Fa1)), (Ad5, .inl (Ka2, 400, .inl Fa2)), (Ad6, .inl (Ka3, 4000, .inr (.inl Fa3))), (Ad7, .inl (Ka4, 4000, .inl Fa4)), (Ad8, .inl (Ka5, 1, .inr (.inl Fa5)))] sz) U ∧ Yy U ∧ Wd dC dI [(Ka0, .int), (Ka1, .int), (Ka2, .int), (Ka3, .long), (Ka4, .boolean), (Ka5, .long)] (fun _ => True) [(Ad0, .inr (14, Fs0)), (Ad1, .inr (13, Fs1)), (Ad2, .inr (5, Fs2)), (Ad3, .inl (Ka0, 400, .inl Fa0)), (Ad4, .inl (Ka1, 400, .inl Fa1)), (Ad5, .inl (Ka2, 400, .inl Fa2)), (Ad6, .inl (Ka3, 4000, .inr (.inl Fa3))), (Ad7, .inl (Ka4, 4000, .inl Fa4)), (Ad8, .inl (Ka5, 1, .inr (.inl Fa5)))] U)) (va_Qi (fun (r : Int32) (u : (Nat → Int64)) => (Va0 < 0 ∧ Va0 < 20 ∧ ¬ Va0 = 29 ∧ Va0 < 30 ∧ r = 1) ∨ (¬ Va0 < 0 ∧ 0 ≤ Va0 ∧ Va0 < 20 ∧ ¬ Va0 = 29 ∧ Va0 < 30 ∧ r = 1) ∨ (¬ Va0 < 0 ∧ 0 ≤ Va0 ∧ ¬ Va0 < 20 ∧ Va0 ≤ 24 ∧ ¬ Va0 < 20 ∧ Va1 < 0 ∧ r = 1) ∨ (¬ Va0 < 0 ∧ 0 ≤ Va0 ∧ ¬ Va0 < 20 ∧ Va0 ≤ 24 ∧ ¬ Va0 < 20 ∧ ¬ Va1 < 0 ∧ ¬ Va1 ≤ 60 ∧ r = 1) ∨ (¬ Va0 < 0 ∧ 0 ≤ Va0 ∧ ¬ Va0 < 20 ∧ ¬ Va0 ≤ 24 ∧ Va0 = 29 ∧ ¬ Va0 < 20 ∧ Va1 < 0 ∧ r = 1) ∨ (¬ Va0 < 0 ∧ 0 ≤ Va0 ∧ ¬ Va0 < 20 ∧ ¬ Va0 ≤ 24 ∧ Va0 = 29 ∧ ¬ Va0 < 20 ∧ ¬ Va1 < 0 ∧ ¬ Va1 ≤ 60 ∧ r = 1) ∨ (¬ Va0 < 0 ∧ 0 ≤ Va0 ∧ ¬ Va0 < 20 ∧ ¬ Va0 ≤ 24 ∧ ¬ Va0 = 29 ∧ Va0 < 30 ∧ r = 1) ∨ (¬ Va0 < 0 ∧ 0 ≤ Va0 ∧ ¬ Va0 < 20 ∧ ¬ Va0 ≤ 24 ∧ ¬ Va0 = 29 ∧ ¬ Va0 < 30 ∧ r = 1) ∨ (¬ Va0 < 0 ∧ 0 ≤ Va0 ∧ ¬ Va0 < 20 ∧ Va0 ≤ 24 ∧ ¬ Va0 < 20 ∧ ¬ Va1 < 0 ∧ Va1 ≤ 60 ∧ ¬ Va0 < 20 ∧ ¬ Va0 < 20 ∧ ¬ 4000 < Va1 ∧ ¬ Va0 < 0 ∧ 0 ≤ Va0 ∧ ¬ Va0 < 20 ∧ r = 0 ∧ (u) (0 : Int32).toNatClampNeg = 0) ∨ (¬ Va0 < 0 ∧ 0 ≤ Va0 ∧ ¬ Va0 < 20 ∧ ¬ Va0 ≤ 24 ∧ Va0 = 29 ∧ ¬ Va0 < 20 ∧ ¬ Va1 < 0 ∧ Va1 ≤ 60 ∧ ¬ Va0 < 20 ∧ ¬ Va0 < 20 ∧ ¬ 4000 < Va1 ∧ ¬ Va0 < 0 ∧ 0 ≤ Va0 ∧ ¬ Va0 < 20 ∧ r = 0 ∧ (u) (0 : Int32).toNatClampNeg = 0)) (fun (u : (Nat → Int64)) t => Wd dC dI [(Ka5, .long)] (va_A [(Ad0, .inr (14, Fs0)), (Ad1, .inr (13, Fs1)), (Ad2, .inr (5, Fs2)), (Ad3, .inl (Ka0, 400, .inl Fa0)), (Ad4, .inl (Ka1, 400, .inl Fa1)), (Ad5, .inl (Ka2, 400, .inl Fa2)), (Ad6, .inl (Ka3, 4000, .inr (.inl Fa3))), (Ad7, .inl (Ka4, 4000, .inl Fa4)), (Ad8, .inl (Ka5, 1, .inr (.inl Fa5)))] sz) [(Ad8, .inl (Ka5, 1, .inr (.inl ((u)))))] t) (va_A [(Ad0, .inr (14, Fs0)), (Ad1, .inr (13, Fs1)), (Ad2, .inr (5, Fs2)), (Ad3, .inl (Ka0, 400, .inl Fa0)), (Ad4, .inl (Ka1, 400, .inl Fa1)), (Ad5, .inl (Ka2, 400, .inl Fa2)), (Ad6, .inl (Ka3, 4000, .inr (.inl Fa3))), (Ad7, .inl (Ka4, 4000, .inl Fa4)), (Ad8, .inl (Ka5, 1, .inr (.inl Fa5)))] sz)) (vx_X (fun _ : Unit => True) (fun E _ _ => False) (va_A [(Ad0, .inr (14, Fs0)), (Ad1, .inr (13, Fs1)), (Ad2, .inr (5, Fs2)), (Ad3, .inl (Ka0, 400, .inl Fa0)), (Ad4, .inl (Ka1, 400, .inl Fa1)), (Ad5, .inl (Ka2, 400, .inl Fa2)), (Ad6, .inl (Ka3, 4000, .inr (.inl Fa3))), (Ad7, .inl (Ka4, 4000, .inl Fa4)), (Ad8, .inl (Ka5, 1, .inr (.inl Fa5)))] sz)) 1 6 (va_A [(Ad0, .inr (14, Fs0)), (Ad1, .inr (13, Fs1)), (Ad2, .inr (5, Fs2)), (Ad3, .inl (Ka0, 400, .inl Fa0)), (Ad4, .inl (Ka1, 400, .inl Fa1)), (Ad5, .inl (Ka2, 400, .inl Fa2)), (Ad6, .inl (Ka3, 4000, .inr (.inl Fa3))), (Ad7, .inl (Ka4, 4000, .inl Fa4)), (Ad8, .inl (Ka5, 1, .inr (.inl Fa5)))] sz) := by
  refine vx_ofWH (cc := cL_make) (maxL := 5) (ret := (some .int)) (by decide) rfl ?_
  intro p e s m args below meth c s₁ B hml hv
  obtain ⟨rfl, hsz, hZ, hY, hP, hK, hD0⟩ := hv
  have hx := B.exec
  have hb := B.bytes
  have hr := B.returns
  have hts := atoms_spec (ws := w_z_L_make) B.pre
  have hown : s.vm.findClass RL = some m.cls := findClass_of_methodNamed B.named
  have hlocks := B.notSynchronized
  have htb := vx_table (x := yL_make) B (hts (.codeWith yL_make cL_make 5 (some .int) [(0, 10, 13, 15), (0, 10, 17, 17)]) (by decide +kernel))
  subst hsz
  have hD := hD0.self (sz := s.heap.size)
  generalize hAe : va_A [(Ad0, .inr (14, Fs0)), (Ad1, .inr (13, Fs1)), (Ad2, .inr (5, Fs2)), (Ad3, .inl (Ka0, 400, .inl Fa0)), (Ad4, .inl (Ka1, 400, .inl Fa1)), (Ad5, .inl (Ka2, 400, .inl Fa2)), (Ad6, .inl (Ka3, 4000, .inr (.inl Fa3))), (Ad7, .inl (Ka4, 4000, .inl Fa4)), (Ad8, .inl (Ka5, 1, .inr (.inl Fa5)))] s.heap.size = A at hD hZ ⊢
  have hA : ∀ q : Nat, s.heap.size ≤ q → A q := fun q h => by rw [← hAe]; exact Or.inr h
  have hS : va_S A s.heap s.heap [] := va_S.rf
  have hl := lv_entry ([.ref Ad0, .int Va0, .int Va1, .ref Ad8]) (n := 5) (Nat.le_of_ble_eq_true rfl)
  rw [lg_entry_eq]
  generalize (lg_sl ([.ref Ad0, .int Va0, .int Va1, .ref Ad8]) ++ List.replicate (5 - (lg_sl ([.ref Ad0, .int Va0, .int Va1, .ref Ad8])).length) Slot.unset).toArray = ls at hl ⊢
  have hl : lv_has ls 5 [(0, .ref Ad0), (1, .int Va0), (2, .int Va1), (3, .ref Ad8)] := hl
  have o_Fs0 := ow_0 k_Fs0
  have o_Fs1 := ow_0 k_Fs1
  have o_Fs2 := ow_0 k_Fs2
  refine lv_aload_n hx hb dL_make_0 rfl (lv_at hl 3 rfl) ?_
  refine lv_iconst (v := 0) hx hb dL_make_1 (by decide) ?_
  refine lv_aload_n hx hb dL_make_2 rfl (lv_at hl 0 rfl) ?_
  refine lv_iload_n hx hb dL_make_3 rfl (lv_at hl 1 rfl) ?_
  refine lv_iload_n hx hb dL_make_4 rfl (lv_at hl 2 rfl) ?_
  have hPc := hP.sub (ws' := [(Ad0, .inr (14, Fs0)), (Ad1, .inr (13, Fs1)), (Ad2, .inr (5, Fs2)), (Ad3, .inl (Ka0, 400, .inl Fa0)), (Ad4, .inl (Ka1, 400, .inl Fa1)), (Ad5, .inl (Ka2, 400, .inl Fa2)), (Ad6, .inl (Ka3, 4000, .inr (.inl Fa3))), (Ad7, .inl (Ka4, 4000, .inl Fa4))]) [0, 1, 2, 3, 4, 5, 6, 7] rfl
  have hDc := hD.sub (ws' := [(Ad0, .inr (14, Fs0)), (Ad1, .inr (13, Fs1)), (Ad2, .inr (5, Fs2)), (Ad3, .inl (Ka0, 400, .inl Fa0)), (Ad4, .inl (Ka1, 400, .inl Fa1)), (Ad5, .inl (Ka2, 400, .inl Fa2)), (Ad6, .inl (Ka3, 4000, .inr (.inl Fa3))), (Ad7, .inl (Ka4, 4000, .inl Fa4))]) [0, 1, 2, 3, 4, 5, 6, 7] (by decide) rfl
  have hKc := hK.sub (tys' := [(Ka0, .int), (Ka1, .int), (Ka2, .int), (Ka3, .long), (Ka4, .boolean)]) [0, 1, 2, 3, 4] rfl
  have hFc := va_free (wc := [(Ad0, .inr (14, Fs0)), (Ad1, .inr (13, Fs1)), (Ad2, .inr (5, Fs2)), (Ad3, .inl (Ka0, 400, .inl Fa0)), (Ad4, .inl (Ka1, 400, .inl Fa1)), (Ad5, .inl (Ka2, 400, .inl Fa2)), (Ad6, .inl (Ka3, 4000, .inr (.inl Fa3))), (Ad7, .inl (Ka4, 4000, .inl Fa4))]) hD hS hA [0, 1, 2, 3, 4, 5, 6, 7] rfl
  refine vx_calli (vx_runV (As := [.int Va0, .int Va1]) (rest := [.int 0, .ref Ad8]) ⟨hx, hb, hml, hown, hts⟩ (z_X11_make l dC dI s.heap.size Ad0 Fs0 Ad1 Fs1 Ad2 Fs2 Ad3 Fa0 Ka0 Ad4 Fa1 Ka1 Ad5 Fa2 Ka2 Ad6 Fa3 Ka3 Ad7 Fa4 Ka4 Va0 Va1 (fh_sub o_Fs0.2 [0, 1] rfl) (fh_sub o_Fs1.2 [0] rfl) (fh_sub o_Fs2.2 [0, 1, 2, 3, 4, 5, 6, 7, 8] rfl) hst ) (cwV 2 hts g_z_L_make_z_X11_make_23 rfl rfl rfl (by decide +kernel) ⟨Nat.le_of_ble_eq_true rfl, Nat.le_of_ble_eq_true rfl⟩) ⟨fun a U g mk q => by obtain ⟨q0, q1, qZ, qP, qK, qD⟩ := q; exact ⟨q0, q1, Zz_call qZ, qP, va_K.moved (u := U) (U := U.calling g mk a) (Vm.Alike.refl U.vm) qK, qD⟩, va_recv hK hP (ci := 14) (q0 := 0) rfl rfl, fun U hU hW => ⟨rfl, by rw [hU], Zz_go hZ hS hFc hU hW, by rw [hU]; exact hPc, va_K.moved hW.alike hKc, hDc.weaken (fun _ _ _ _ => trivial)⟩⟩ rfl rfl hl.1 rfl (lv_room (Nat.le_of_ble_eq_true rfl)) dL_make_5 ⟨Nat.le_of_ble_eq_true rfl, Nat.le_of_ble_eq_true rfl⟩) hS (fun q _ h => hFc q h) hFc (fun q _ h => hFc q h) (fun E ce q9 u t H1 locs ht hvm hpx hBX hz1 hk1 hS hce hcv hcl => ?_) (fun r101 u t H1 locs ht hvm hw hB hz1 hk1 hS => ?_)
  · rcases hBX with ⟨rfl, c102, c103, c104, c105⟩ | ⟨rfl, c106, c107, c108, c109, c110⟩ | ⟨rfl, c111, c112, c113, c114, c115, c116⟩ | ⟨rfl, c117, c118, c119, c120, c121, c122, c123⟩ | ⟨rfl, c124, c125, c126, c127, c128, c129, c130⟩ | ⟨rfl, c131, c132, c133, c134, c135, c136, c137, c138⟩ | ⟨rfl, c139, c140, c141, c142, c143, c144⟩ | ⟨rfl, c145, c146, c147, c148, c149, c150⟩
    · skip
      obtain ⟨hP, hD⟩ := va_join (wr := [(Ad8, .inl (Ka5, 1, .inr (.inl Fa5)))]) (w1 := []) hP hD [0, 1, 2, 3, 4, 5, 6, 7] [8] rfl rfl (by decide) (by decide) hk1 hFc P0 D0
      have hK := hK.sub (tys' := [(Ka5, .long)]) [5] rfl
      generalize H1 = H at hP hS hce ⊢
      have hP : va_P (dC, dI) vwCl [(Ad8, .inl (Ka5, 1, .inr (.inl Fa5)))] H := hP
      have hD : va_D A [(Ad8, .inl (Ka5, 1, .inr (.inl Fa5)))] := hD
      refine vx_catch (own := RL) (name := "java/lang/IllegalArgumentException") (E := "java/lang/IllegalArgumentException") hown [] ⟨0, 10, 13, 15⟩ [⟨0, 10, 17, 17⟩] (htb.trans rfl) ((fun _ h => nomatch h)) (by decide) (by decide) (hts (.classLink RL 15 "java/lang/IllegalArgumentException") (by decide +kernel)) (va_Nw.use rfl (hZ.2.2.1 "java/lang/IllegalArgumentException" (by decide))) hce hcv hcl ?_
      refine W.eq (g2 := F0 m 13 ls [.ref q9]) rfl ?_
      refine W.widen (k := 1) (n := 6) (by omega) (by omega) ?_
      refine lv_astore (lv' := [(4, .ref q9), (0, .ref Ad0), (1, .int Va0), (2, .int Va1), (3, .ref Ad8)]) hx hb dL_make_13 hl (by decide) rfl (fun ls hl => ?_)
      refine lv_iconst (v := 1) hx hb dL_make_15 (by decide) ?_
      have hP9 := hP.sub (ws' := [(Ad8, .inl (Ka5, 1, .inr (.inl Fa5)))]) [0] rfl
      have hD9 := hD.sub (ws' := [(Ad8, .inl (Ka5, 1, .inr (.inl Fa5)))]) [0] (by decide) rfl
      have hK9 := hK.sub (tys' := [(Ka5, .long)]) [0] rfl
      refine vx_ret ?_
      refine W.widen (k := 1) (n := 6) (by decide) (by decide) ?_
      exact W.iret (v := 1) hx hb hr (fun t ht hW => ⟨⟨1, Fa5, rfl, (Or.inl ⟨c102, c103, c104, c105, rfl⟩), by rw [ht]; exact hP9, va_K.moved hW.alike hK9, hD9⟩, hS.F ht⟩) hS.2.2 dL_make_16
    · skip
      obtain ⟨hP, hD⟩ := va_join (wr := [(Ad8, .inl (Ka5, 1, .inr (.inl Fa5)))]) (w1 := []) hP hD [0, 1, 2, 3, 4, 5, 6, 7] [8] rfl rfl (by decide) (by decide) hk1 hFc P0 D0
      have hK := hK.sub (tys' := [(Ka5, .long)]) [5] rfl
      generalize H1 = H at hP hS hce ⊢
      have hP : va_P (dC, dI) vwCl [(Ad8, .inl (Ka5, 1, .inr (.inl Fa5)))] H := hP
      have hD : va_D A [(Ad8, .inl (Ka5, 1, .inr (.inl Fa5)))] := hD
      refine vx_catch (own := RL) (name := "java/lang/IllegalArgumentException") (E := "java/lang/IllegalArgumentException") hown [] ⟨0, 10, 13, 15⟩ [⟨0, 10, 17, 17⟩] (htb.trans rfl) ((fun _ h => nomatch h)) (by decide) (by decide) (hts (.classLink RL 15 "java/lang/IllegalArgumentException") (by decide +kernel)) (va_Nw.use rfl (hZ.2.2.1 "java/lang/IllegalArgumentException" (by decide))) hce hcv hcl ?_
      refine W.eq (g2 := F0 m 13 ls [.ref q9]) rfl ?_
      refine W.widen (k := 1) (n := 6) (by omega) (by omega) ?_
      refine lv_astore (lv' := [(4, .ref q9), (0, .ref Ad0), (1, .int Va0), (2, .int Va1), (3, .ref Ad8)]) hx hb dL_make_13 hl (by decide) rfl (fun ls hl => ?_)
      refine lv_iconst (v := 1) hx hb dL_make_15 (by decide) ?_
      have hP9 := hP.sub (ws' := [(Ad8, .inl (Ka5, 1, .inr (.inl Fa5)))]) [0] rfl
      have hD9 := hD.sub (ws' := [(Ad8, .inl (Ka5, 1, .inr (.inl Fa5)))]) [0] (by decide) rfl
      have hK9 := hK.sub (tys' := [(Ka5, .long)]) [0] rfl
      refine vx_ret ?_
      refine W.widen (k := 1) (n := 6) (by decide) (by decide) ?_
      exact W.iret (v := 1) hx hb hr (fun t ht hW => ⟨⟨1, Fa5, rfl, (Or.inr (Or.inl ⟨c106, c107, c108, c109, c110, rfl⟩)), by rw [ht]; exact hP9, va_K.moved hW.alike hK9, hD9⟩, hS.F ht⟩) hS.2.2 dL_make_16
    · skip
      obtain ⟨hP, hD⟩ := va_join (wr := [(Ad8, .inl (Ka5, 1, .inr (.inl Fa5)))]) (w1 := []) hP hD [0, 1, 2, 3, 4, 5, 6, 7] [8] rfl rfl (by decide) (by decide) hk1 hFc P0 D0
      have hK := hK.sub (tys' := [(Ka5, .long)]) [5] rfl
      generalize H1 = H at hP hS hce ⊢
      have hP : va_P (dC, dI) vwCl [(Ad8, .inl (Ka5, 1, .inr (.inl Fa5)))] H := hP
      have hD : va_D A [(Ad8, .inl (Ka5, 1, .inr (.inl Fa5)))] := hD
      refine vx_catch (own := RL) (name := "java/lang/IllegalArgumentException") (E := "java/lang/IllegalArgumentException") hown [] ⟨0, 10, 13, 15⟩ [⟨0, 10, 17, 17⟩] (htb.trans rfl) ((fun _ h => nomatch h)) (by decide) (by decide) (hts (.classLink RL 15 "java/lang/IllegalArgumentException") (by decide +kernel)) (va_Nw.use rfl (hZ.2.2.1 "java/lang/IllegalArgumentException" (by decide))) hce hcv hcl ?_
      refine W.eq (g2 := F0 m 13 ls [.ref q9]) rfl ?_
      refine W.widen (k := 1) (n := 6) (by omega) (by omega) ?_
      refine lv_astore (lv' := [(4, .ref q9), (0, .ref Ad0), (1, .int Va0), (2, .int Va1), (3, .ref Ad8)]) hx hb dL_make_13 hl (by decide) rfl (fun ls hl => ?_)
      refine lv_iconst (v := 1) hx hb dL_make_15 (by decide) ?_
      have hP9 := hP.sub (ws' := [(Ad8, .inl (Ka5, 1, .inr (.inl Fa5)))]) [0] rfl
      have hD9 := hD.sub (ws' := [(Ad8, .inl (Ka5, 1, .inr (.inl Fa5)))]) [0] (by decide) rfl
      have hK9 := hK.sub (tys' := [(Ka5, .long)]) [0] rfl
      refine vx_ret ?_
      refine W.widen (k := 1) (n := 6) (by decide) (by decide) ?_
      exact W.iret (v := 1) hx hb hr (fun t ht hW => ⟨⟨1, Fa5, rfl, (Or.inr (Or.inr (Or.inl ⟨c111, c112, c113, c114, c115, c116, rfl⟩))), by rw [ht]; exact hP9, va_K.moved hW.alike hK9, hD9⟩, hS.F ht⟩) hS.2.2 dL_make_16
    · skip
      obtain ⟨hP, hD⟩ := va_join (wr := [(Ad8, .inl (Ka5, 1, .inr (.inl Fa5)))]) (w1 := []) hP hD [0, 1, 2, 3, 4, 5, 6, 7] [8] rfl rfl (by decide) (by decide) hk1 hFc P0 D0
      have hK := hK.sub (tys' := [(Ka5, .long)]) [5] rfl
      generalize H1 = H at hP hS hce ⊢
      have hP : va_P (dC, dI) vwCl [(Ad8, .inl (Ka5, 1, .inr (.inl Fa5)))] H := hP
      have hD : va_D A [(Ad8, .inl (Ka5, 1, .inr (.inl Fa5)))] := hD
      refine vx_catch (own := RL) (name := "java/lang/IllegalArgumentException") (E := "java/lang/IllegalArgumentException") hown [] ⟨0, 10, 13, 15⟩ [⟨0, 10, 17, 17⟩] (htb.trans rfl) ((fun _ h => nomatch h)) (by decide) (by decide) (hts (.classLink RL 15 "java/lang/IllegalArgumentException") (by decide +kernel)) (va_Nw.use rfl (hZ.2.2.1 "java/lang/IllegalArgumentException" (by decide))) hce hcv hcl ?_
      refine W.eq (g2 := F0 m 13 ls [.ref q9]) rfl ?_
      refine W.widen (k := 1) (n := 6) (by omega) (by omega) ?_
      refine lv_astore (lv' := [(4, .ref q9), (0, .ref Ad0), (1, .int Va0), (2, .int Va1), (3, .ref Ad8)]) hx hb dL_make_13 hl (by decide) rfl (fun ls hl => ?_)
      refine lv_iconst (v := 1) hx hb dL_make_15 (by decide) ?_
      have hP9 := hP.sub (ws' := [(Ad8, .inl (Ka5, 1, .inr (.inl Fa5)))]) [0] rfl
      have hD9 := hD.sub (ws' := [(Ad8, .inl (Ka5, 1, .inr (.inl Fa5)))]) [0] (by decide) rfl
      have hK9 := hK.sub (tys' := [(Ka5, .long)]) [0] rfl
      refine vx_ret ?_
      refine W.widen (k := 1) (n := 6) (by decide) (by decide) ?_
      exact W.iret (v := 1) hx hb hr (fun t ht hW => ⟨⟨1, Fa5, rfl, (Or.inr (Or.inr (Or.inr (Or.inl ⟨c117, c118, c119, c120, c121, c122, c123, rfl⟩)))), by rw [ht]; exact hP9, va_K.moved hW.alike hK9, hD9⟩, hS.F ht⟩) hS.2.2 dL_make_16
    · skip
      obtain ⟨hP, hD⟩ := va_join (wr := [(Ad8, .inl (Ka5, 1, .inr (.inl Fa5)))]) (w1 := []) hP hD [0, 1, 2, 3, 4, 5, 6, 7] [8] rfl rfl (by decide) (by decide) hk1 hFc P0 D0
      have hK := hK.sub (tys' := [(Ka5, .long)]) [5] rfl
      generalize H1 = H at hP hS hce ⊢
      have hP : va_P (dC, dI) vwCl [(Ad8, .inl (Ka5, 1, .inr (.inl Fa5)))] H := hP
      have hD : va_D A [(Ad8, .inl (Ka5, 1, .inr (.inl Fa5)))] := hD
      refine vx_catch (own := RL) (name := "java/lang/IllegalArgumentException") (E := "java/lang/IllegalArgumentException") hown [] ⟨0, 10, 13, 15⟩ [⟨0, 10, 17, 17⟩] (htb.trans rfl) ((fun _ h => nomatch h)) (by decide) (by decide) (hts (.classLink RL 15 "java/lang/IllegalArgumentException") (by decide +kernel)) (va_Nw.use rfl (hZ.2.2.1 "java/lang/IllegalArgumentException" (by decide))) hce hcv hcl ?_
      refine W.eq (g2 := F0 m 13 ls [.ref q9]) rfl ?_
      refine W.widen (k := 1) (n := 6) (by omega) (by omega) ?_
      refine lv_astore (lv' := [(4, .ref q9), (0, .ref Ad0), (1, .int Va0), (2, .int Va1), (3, .ref Ad8)]) hx hb dL_make_13 hl (by decide) rfl (fun ls hl => ?_)
      refine lv_iconst (v := 1) hx hb dL_make_15 (by decide) ?_
      have hP9 := hP.sub (ws' := [(Ad8, .inl (Ka5, 1, .inr (.inl Fa5)))]) [0] rfl
      have hD9 := hD.sub (ws' := [(Ad8, .inl (Ka5, 1, .inr (.inl Fa5)))]) [0] (by decide) rfl
      have hK9 := hK.sub (tys' := [(Ka5, .long)]) [0] rfl
      refine vx_ret ?_
      refine W.widen (k := 1) (n := 6) (by decide) (by decide) ?_
      exact W.iret (v := 1) hx hb hr (fun t ht hW => ⟨⟨1, Fa5, rfl, (Or.inr (Or.inr (Or.inr (Or.inr (Or.inl ⟨c124, c125, c126, c127, c128, c129, c130, rfl⟩))))), by rw [ht]; exact hP9, va_K.moved hW.alike hK9, hD9⟩, hS.F ht⟩) hS.2.2 dL_make_16
    · skip
      obtain ⟨hP, hD⟩ := va_join (wr := [(Ad8, .inl (Ka5, 1, .inr (.inl Fa5)))]) (w1 := []) hP hD [0, 1, 2, 3, 4, 5, 6, 7] [8] rfl rfl (by decide) (by decide) hk1 hFc P0 D0
      have hK := hK.sub (tys' := [(Ka5, .long)]) [5] rfl
      generalize H1 = H at hP hS hce ⊢
      have hP : va_P (dC, dI) vwCl [(Ad8, .inl (Ka5, 1, .inr (.inl Fa5)))] H := hP
      have hD : va_D A [(Ad8, .inl (Ka5, 1, .inr (.inl Fa5)))] := hD
      refine vx_catch (own := RL) (name := "java/lang/IllegalArgumentException") (E := "java/lang/IllegalArgumentException") hown [] ⟨0, 10, 13, 15⟩ [⟨0, 10, 17, 17⟩] (htb.trans rfl) ((fun _ h => nomatch h)) (by decide) (by decide) (hts (.classLink RL 15 "java/lang/IllegalArgumentException") (by decide +kernel)) (va_Nw.use rfl (hZ.2.2.1 "java/lang/IllegalArgumentException" (by decide))) hce hcv hcl ?_
      refine W.eq (g2 := F0 m 13 ls [.ref q9]) rfl ?_
      refine W.widen (k := 1) (n := 6) (by omega) (by omega) ?_
      refine lv_astore (lv' := [(4, .ref q9), (0, .ref Ad0), (1, .int Va0), (2, .int Va1), (3, .ref Ad8)]) hx hb dL_make_13 hl (by decide) rfl (fun ls hl => ?_)
      refine lv_iconst (v := 1) hx hb dL_make_15 (by decide) ?_
      have hP9 := hP.sub (ws' := [(Ad8, .inl (Ka5, 1, .inr (.inl Fa5)))]) [0] rfl
      have hD9 := hD.sub (ws' := [(Ad8, .inl (Ka5, 1, .inr (.inl Fa5)))]) [0] (by decide) rfl
      have hK9 := hK.sub (tys' := [(Ka5, .long)]) [0] rfl
      refine vx_ret ?_
      refine W.widen (k := 1) (n := 6) (by decide) (by decide) ?_
      exact W.iret (v := 1) hx hb hr (fun t ht hW => ⟨⟨1, Fa5, rfl, (Or.inr (Or.inr (Or.inr (Or.inr (Or.inr (Or.inl ⟨c131, c132, c133, c134, c135, c136, c137, c138, rfl⟩)))))), by rw [ht]; exact hP9, va_K.moved hW.alike hK9, hD9⟩, hS.F ht⟩) hS.2.2 dL_make_16
    · skip
      obtain ⟨hP, hD⟩ := va_join (wr := [(Ad8, .inl (Ka5, 1, .inr (.inl Fa5)))]) (w1 := []) hP hD [0, 1, 2, 3, 4, 5, 6, 7] [8] rfl rfl (by decide) (by decide) hk1 hFc P0 D0
      have hK := hK.sub (tys' := [(Ka5, .long)]) [5] rfl
      generalize H1 = H at hP hS hce ⊢
      have hP : va_P (dC, dI) vwCl [(Ad8, .inl (Ka5, 1, .inr (.inl Fa5)))] H := hP
      have hD : va_D A [(Ad8, .inl (Ka5, 1, .inr (.inl Fa5)))] := hD
      refine vx_catch (own := RL) (name := "java/lang/IllegalArgumentException") (E := "java/lang/IllegalArgumentException") hown [] ⟨0, 10, 13, 15⟩ [⟨0, 10, 17, 17⟩] (htb.trans rfl) ((fun _ h => nomatch h)) (by decide) (by decide) (hts (.classLink RL 15 "java/lang/IllegalArgumentException") (by decide +kernel)) (va_Nw.use rfl (hZ.2.2.1 "java/lang/IllegalArgumentException" (by decide))) hce hcv hcl ?_
      refine W.eq (g2 := F0 m 13 ls [.ref q9]) rfl ?_
      refine W.widen (k := 1) (n := 6) (by omega) (by omega) ?_
      refine lv_astore (lv' := [(4, .ref q9), (0, .ref Ad0), (1, .int Va0), (2, .int Va1), (3, .ref Ad8)]) hx hb dL_make_13 hl (by decide) rfl (fun ls hl => ?_)
      refine lv_iconst (v := 1) hx hb dL_make_15 (by decide) ?_
      have hP9 := hP.sub (ws' := [(Ad8, .inl (Ka5, 1, .inr (.inl Fa5)))]) [0] rfl
      have hD9 := hD.sub (ws' := [(Ad8, .inl (Ka5, 1, .inr (.inl Fa5)))]) [0] (by decide) rfl
      have hK9 := hK.sub (tys' := [(Ka5, .long)]) [0] rfl
      refine vx_ret ?_
      refine W.widen (k := 1) (n := 6) (by decide) (by decide) ?_
      exact W.iret (v := 1) hx hb hr (fun t ht hW => ⟨⟨1, Fa5, rfl, (Or.inr (Or.inr (Or.inr (Or.inr (Or.inr (Or.inr (Or.inl ⟨c139, c140, c141, c142, c143, c144, rfl⟩))))))), by rw [ht]; exact hP9, va_K.moved hW.alike hK9, hD9⟩, hS.F ht⟩) hS.2.2 dL_make_16
    · skip
      obtain ⟨hP, hD⟩ := va_join (wr := [(Ad8, .inl (Ka5, 1, .inr (.inl Fa5)))]) (w1 := []) hP hD [0, 1, 2, 3, 4, 5, 6, 7] [8] rfl rfl (by decide) (by decide) hk1 hFc P0 D0
      have hK := hK.sub (tys' := [(Ka5, .long)]) [5] rfl
      generalize H1 = H at hP hS hce ⊢
      have hP : va_P (dC, dI) vwCl [(Ad8, .inl (Ka5, 1, .inr (.inl Fa5)))] H := hP
      have hD : va_D A [(Ad8, .inl (Ka5, 1, .inr (.inl Fa5)))] := hD
      refine vx_catch (own := RL) (name := "java/lang/IllegalArgumentException") (E := "java/lang/IllegalArgumentException") hown [] ⟨0, 10, 13, 15⟩ [⟨0, 10, 17, 17⟩] (htb.trans rfl) ((fun _ h => nomatch h)) (by decide) (by decide) (hts (.classLink RL 15 "java/lang/IllegalArgumentException") (by decide +kernel)) (va_Nw.use rfl (hZ.2.2.1 "java/lang/IllegalArgumentException" (by decide))) hce hcv hcl ?_
      refine W.eq (g2 := F0 m 13 ls [.ref q9]) rfl ?_
      refine W.widen (k := 1) (n := 6) (by omega) (by omega) ?_
      refine lv_astore (lv' := [(4, .ref q9), (0, .ref Ad0), (1, .int Va0), (2, .int Va1), (3, .ref Ad8)]) hx hb dL_make_13 hl (by decide) rfl (fun ls hl => ?_)
      refine lv_iconst (v := 1) hx hb dL_make_15 (by decide) ?_
      have hP9 := hP.sub (ws' := [(Ad8, .inl (Ka5, 1, .inr (.inl Fa5)))]) [0] rfl
      have hD9 := hD.sub (ws' := [(Ad8, .inl (Ka5, 1, .inr (.inl Fa5)))]) [0] (by decide) rfl
      have hK9 := hK.sub (tys' := [(Ka5, .long)]) [0] rfl
      refine vx_ret ?_
      refine W.widen (k := 1) (n := 6) (by decide) (by decide) ?_
      exact W.iret (v := 1) hx hb hr (fun t ht hW => ⟨⟨1, Fa5, rfl, (Or.inr (Or.inr (Or.inr (Or.inr (Or.inr (Or.inr (Or.inr (Or.inl ⟨c145, c146, c147, c148, c149, c150, rfl⟩)))))))), by rw [ht]; exact hP9, va_K.moved hW.alike hK9, hD9⟩, hS.F ht⟩) hS.2.2 dL_make_16
  · skip
    obtain ⟨s151, f152, f153, f154, f155, f156⟩ := u
    obtain ⟨hP1, hK1, hD1⟩ := hB
    rw [ht] at hP1
    try dsimp only at hw
    obtain ⟨hP, hD⟩ := va_join (wr := [(Ad8, .inl (Ka5, 1, .inr (.inl Fa5)))]) (w1 := [(Ad0, .inr (14, Fs0)), (Ad1, .inr (13, Fs1)), (Ad2, .inr (5, s151)), (Ad3, .inl (Ka0, 400, .inl f152)), (Ad4, .inl (Ka1, 400, .inl f153)), (Ad5, .inl (Ka2, 400, .inl f154)), (Ad6, .inl (Ka3, 4000, .inr (.inl f155))), (Ad7, .inl (Ka4, 4000, .inl f156))]) hP hD [0, 1, 2, 3, 4, 5, 6, 7] [8] rfl rfl (by decide) (by decide) hk1 hFc hP1 hD1
    have hK := hK.sub (tys' := [(Ka5, .long), (Ka0, .int), (Ka1, .int), (Ka2, .int), (Ka3, .long), (Ka4, .boolean)]) [5, 0, 1, 2, 3, 4] rfl
    generalize H1 = H at hP hS ⊢
    refine W.widen (k := 1) (n := 6) (by omega) (by omega) ?_
    have hP : va_P (dC, dI) vwCl [(Ad8, .inl (Ka5, 1, .inr (.inl Fa5))), (Ad0, .inr (14, Fs0)), (Ad1, .inr (13, Fs1)), (Ad2, .inr (5, s151)), (Ad3, .inl (Ka0, 400, .inl f152)), (Ad4, .inl (Ka1, 400, .inl f153)), (Ad5, .inl (Ka2, 400, .inl f154)), (Ad6, .inl (Ka3, 4000, .inr (.inl f155))), (Ad7, .inl (Ka4, 4000, .inl f156))] H := hP
    have hD : va_D A [(Ad8, .inl (Ka5, 1, .inr (.inl Fa5))), (Ad0, .inr (14, Fs0)), (Ad1, .inr (13, Fs1)), (Ad2, .inr (5, s151)), (Ad3, .inl (Ka0, 400, .inl f152)), (Ad4, .inl (Ka1, 400, .inl f153)), (Ad5, .inl (Ka2, 400, .inl f154)), (Ad6, .inl (Ka3, 4000, .inr (.inl f155))), (Ad7, .inl (Ka4, 4000, .inl f156))] := hD
    rcases hw with ⟨c157, c158, c159, c160, c161, c162, c163, c164, c165, c166, c167, c168, c169, er170, o_s151, q171, q172, q173⟩ | ⟨c174, c175, c176, c177, c178, c179, c180, c181, c182, c183, c184, c185, c186, c187, er188, o_s151, q189, q190, q191⟩
    · skip
      subst er170
      have o_s151 := ow_on o_Fs2 o_s151 (l' := [(0, .ref Ad1), (4, .ref Ad3), (5, .ref Ad4), (6, .ref Ad5), (7, .ref Ad6), (8, .ref Ad7), (0, .ref Ad1), (4, .ref Ad3), (5, .ref Ad4), (6, .ref Ad5), (7, .ref Ad6), (8, .ref Ad7), (0, .ref Ad1), (4, .ref Ad3), (5, .ref Ad4), (6, .ref Ad5), (7, .ref Ad6), (8, .ref Ad7)]) (w' := [1, 2, 3]) rfl rfl
      refine lv_i2l hx hb dL_make_8 rfl ?_
      refine lv_topl (fun x192 ex192 => ?_)
      obtain rfl : x192 = 0 := ex192.trans (by decide)
      refine va_last hx hb hK hP hD hS 0 0 rfl rfl (show vp_in 0 1 from by unfold vp_in; decide) dL_make_9 (fun H locs hP hD hS => ?_)
      have hP : va_P (dC, dI) vwCl [(Ad8, .inl (Ka5, 1, .inr (.inl (vp_updL Fa5 (0 : Int32).toNatClampNeg 0)))), (Ad0, .inr (14, Fs0)), (Ad1, .inr (13, Fs1)), (Ad2, .inr (5, s151)), (Ad3, .inl (Ka0, 400, .inl f152)), (Ad4, .inl (Ka1, 400, .inl f153)), (Ad5, .inl (Ka2, 400, .inl f154)), (Ad6, .inl (Ka3, 4000, .inr (.inl f155))), (Ad7, .inl (Ka4, 4000, .inl f156))] H := hP
      have hD : va_D A [(Ad8, .inl (Ka5, 1, .inr (.inl (vp_updL Fa5 (0 : Int32).toNatClampNeg 0)))), (Ad0, .inr (14, Fs0)), (Ad1, .inr (13, Fs1)), (Ad2, .inr (5, s151)), (Ad3, .inl (Ka0, 400, .inl f152)), (Ad4, .inl (Ka1, 400, .inl f153)), (Ad5, .inl (Ka2, 400, .inl f154)), (Ad6, .inl (Ka3, 4000, .inr (.inl f155))), (Ad7, .inl (Ka4, 4000, .inl f156))] := hD
      have q194 : (vp_updL Fa5 (0 : Int32).toNatClampNeg 0) (0 : Int32).toNatClampNeg = 0 := pk_uLs
      generalize vp_updL Fa5 (0 : Int32).toNatClampNeg 0 = f193 at hP hD q194
      refine lv_goto (tgt := 21) hx hb dL_make_10 (by decide) ?_
      refine lv_iconst (v := 0) hx hb dL_make_21 (by decide) ?_
      have hP9 := hP.sub (ws' := [(Ad8, .inl (Ka5, 1, .inr (.inl f193)))]) [0] rfl
      have hD9 := hD.sub (ws' := [(Ad8, .inl (Ka5, 1, .inr (.inl f193)))]) [0] (by decide) rfl
      have hK9 := hK.sub (tys' := [(Ka5, .long)]) [0] rfl
      refine vx_ret ?_
      refine W.widen (k := 1) (n := 6) (by decide) (by decide) ?_
      exact W.iret (v := 0) hx hb hr (fun t ht hW => ⟨⟨0, f193, rfl, (Or.inr (Or.inr (Or.inr (Or.inr (Or.inr (Or.inr (Or.inr (Or.inr (Or.inl ⟨c157, c158, c159, c160, c161, c162, c163, c164, c165, c166, c167, c168, c169, rfl, q194⟩))))))))), by rw [ht]; exact hP9, va_K.moved hW.alike hK9, hD9⟩, hS.F ht⟩) hS.2.2 dL_make_22
    · skip
      subst er188
      have o_s151 := ow_on o_Fs2 o_s151 (l' := [(0, .ref Ad1), (4, .ref Ad3), (5, .ref Ad4), (6, .ref Ad5), (7, .ref Ad6), (8, .ref Ad7), (0, .ref Ad1), (4, .ref Ad3), (5, .ref Ad4), (6, .ref Ad5), (7, .ref Ad6), (8, .ref Ad7), (0, .ref Ad1), (4, .ref Ad3), (5, .ref Ad4), (6, .ref Ad5), (7, .ref Ad6), (8, .ref Ad7)]) (w' := [1, 2, 3]) rfl rfl
      refine lv_i2l hx hb dL_make_8 rfl ?_
      refine lv_topl (fun x195 ex195 => ?_)
      obtain rfl : x195 = 0 := ex195.trans (by decide)
      refine va_last hx hb hK hP hD hS 0 0 rfl rfl (show vp_in 0 1 from by unfold vp_in; decide) dL_make_9 (fun H locs hP hD hS => ?_)
      have hP : va_P (dC, dI) vwCl [(Ad8, .inl (Ka5, 1, .inr (.inl (vp_updL Fa5 (0 : Int32).toNatClampNeg 0)))), (Ad0, .inr (14, Fs0)), (Ad1, .inr (13, Fs1)), (Ad2, .inr (5, s151)), (Ad3, .inl (Ka0, 400, .inl f152)), (Ad4, .inl (Ka1, 400, .inl f153)), (Ad5, .inl (Ka2, 400, .inl f154)), (Ad6, .inl (Ka3, 4000, .inr (.inl f155))), (Ad7, .inl (Ka4, 4000, .inl f156))] H := hP
      have hD : va_D A [(Ad8, .inl (Ka5, 1, .inr (.inl (vp_updL Fa5 (0 : Int32).toNatClampNeg 0)))), (Ad0, .inr (14, Fs0)), (Ad1, .inr (13, Fs1)), (Ad2, .inr (5, s151)), (Ad3, .inl (Ka0, 400, .inl f152)), (Ad4, .inl (Ka1, 400, .inl f153)), (Ad5, .inl (Ka2, 400, .inl f154)), (Ad6, .inl (Ka3, 4000, .inr (.inl f155))), (Ad7, .inl (Ka4, 4000, .inl f156))] := hD
      have q197 : (vp_updL Fa5 (0 : Int32).toNatClampNeg 0) (0 : Int32).toNatClampNeg = 0 := pk_uLs
      generalize vp_updL Fa5 (0 : Int32).toNatClampNeg 0 = f196 at hP hD q197
      refine lv_goto (tgt := 21) hx hb dL_make_10 (by decide) ?_
      refine lv_iconst (v := 0) hx hb dL_make_21 (by decide) ?_
      have hP9 := hP.sub (ws' := [(Ad8, .inl (Ka5, 1, .inr (.inl f196)))]) [0] rfl
      have hD9 := hD.sub (ws' := [(Ad8, .inl (Ka5, 1, .inr (.inl f196)))]) [0] (by decide) rfl
      have hK9 := hK.sub (tys' := [(Ka5, .long)]) [0] rfl
      refine vx_ret ?_
      refine W.widen (k := 1) (n := 6) (by decide) (by decide) ?_
      exact W.iret (v := 0) hx hb hr (fun t ht hW => ⟨⟨0, f196, rfl, (Or.inr (Or.inr (Or.inr (Or.inr (Or.inr (Or.inr (Or.inr (Or.inr (Or.inr (⟨c174, c175, c176, c177, c178, c179, c180, c181, c182, c183, c184, c185, c186, c187, rfl, q197⟩)))))))))), by rw [ht]; exact hP9, va_K.moved hW.alike hK9, hD9⟩, hS.F ht⟩) hS.2.2 dL_make_22

def l_z_L_root : List Cond := [.methodLink RL 26 yX11_root, .instanceMethod yX11_root, .selects RX11 yX11_root yX11_root, .initialized RX11, .classLink RL 30 "java/util/NoSuchElementException", .code yX11_root cX11_root 4 none, .fieldLink RX11 28 "HeapWorks" "heap" "LHeapWorks$Heap;", .methodLink RX11 218 yX2_isThere, .instanceMethod yX2_isThere, .selects RX2 yX2_isThere yX2_isThere, .initialized RX2, .classLink RX11 221 "java/util/NoSuchElementException", .initialized "java/util/NoSuchElementException", .code yX2_isThere cX2_isThere 2 (some .boolean), .fieldLink RX2 47 "HeapWorks$Heap" "made" "I"]
def w_z_L_root : List Cond := .codeWith yL_root cL_root 4 (some .int) [(0, 6, 9, 30), (0, 6, 12, 17)] :: (l_z_L_root ++ ((wsX110 ++ (((vx_at0 RX11 223 "java/util/NoSuchElementException" ["java/lang/RuntimeException", "java/lang/Exception"]).filter goodWord) ++ wsX20))))
theorem in_z_L_root_X11 : ∀ w ∈ wsX110, w ∈ w_z_L_root := fun w h => List.mem_cons_of_mem _ (List.mem_append_right _ (List.mem_append_left _ h))
theorem in_z_L_root_at0_X11_223 : ∀ w ∈ ((vx_at0 RX11 223 "java/util/NoSuchElementException" ["java/lang/RuntimeException", "java/lang/Exception"]).filter goodWord), w ∈ w_z_L_root := fun w h => List.mem_cons_of_mem _ (List.mem_append_right _ (List.mem_append_right _ (List.mem_append_left _ h)))
theorem in_z_L_root_X2 : ∀ w ∈ wsX20, w ∈ w_z_L_root := fun w h => List.mem_cons_of_mem _ (List.mem_append_right _ (List.mem_append_right _ (List.mem_append_right _ (h))))
theorem g_z_L_root_z_X11_root_26 : GoodIn w_z_L_root (wsV RL 26 RX11 yX11_root w_z_X11_root) := goodIn_app (goodIn_r (([.methodLink RL 26 yX11_root, .instanceMethod yX11_root, .selects RX11 yX11_root yX11_root, .initialized RX11] : List Cond)) [1, 2, 3, 4] rfl (by decide +kernel)) (goodIn_ca (goodIn_r (.code yX11_root cX11_root 4 none :: l_z_X11_root) [6, 7, 8, 9, 10, 11, 12, 13, 14, 15] rfl (by decide +kernel)) (goodIn_app (goodIn_in (in_z_L_root_X11) gd_X11) (goodIn_app (goodIn_in (in_z_L_root_at0_X11_223) gd_at0_X11_223) (goodIn_in (in_z_L_root_X2) gd_X2))))
set_option maxHeartbeats 4000000 in
set_option maxRecDepth 100000 in
theorem z_L_root (l : Launch) (dC : Nat → ClassId) (dI : Nat → Nat → Nat) (sz : Nat) (Ad0 : Nat) (Fs0 : List Value) (Ad1 : Nat) (Fs1 : List Value) (Va0 : Int32) (k_Fs0 : fh Fs0 18 [(2, .ref Ad1)]) (k_Fs1 : fh Fs1 14 [(1, .int 0)]) (hst : l.stackTraces = false)  : vx_Met l yL_root w_z_L_root ({ frames := 8, cells := 1, slots := 6, locals := 163 }) (va_Pc [.ref Ad0, .int Va0, .int 0] (fun U => U.heap.size = sz ∧ Zz (va_A [(Ad0, .inr (14, Fs0)), (Ad1, .inr (5, Fs1))] sz) U ∧ Yy U ∧ Wd dC dI [] (fun _ => True) [(Ad0, .inr (14, Fs0)), (Ad1, .inr (5, Fs1))] U)) (va_Qi (fun (r : Int32) (u : Unit) => (Va0 < 0 ∧ r = 1) ∨ (¬ Va0 < 0 ∧ 0 ≤ Va0 ∧ r = 1)) (fun (u : Unit) t => Wd dC dI [] (va_A [(Ad0, .inr (14, Fs0)), (Ad1, .inr (5, Fs1))] sz) [] t) (va_A [(Ad0, .inr (14, Fs0)), (Ad1, .inr (5, Fs1))] sz)) (vx_X (fun _ : Unit => True) (fun E _ _ => False) (va_A [(Ad0, .inr (14, Fs0)), (Ad1, .inr (5, Fs1))] sz)) 1 6 (va_A [(Ad0, .inr (14, Fs0)), (Ad1, .inr (5, Fs1))] sz) := by
  refine vx_ofWH (cc := cL_root) (maxL := 4) (ret := (some .int)) (by decide) rfl ?_
  intro p e s m args below meth c s₁ B hml hv
  obtain ⟨rfl, hsz, hZ, hY, hP, hK, hD0⟩ := hv
  have hx := B.exec
  have hb := B.bytes
  have hr := B.returns
  have hts := atoms_spec (ws := w_z_L_root) B.pre
  have hown : s.vm.findClass RL = some m.cls := findClass_of_methodNamed B.named
  have hlocks := B.notSynchronized
  have htb := vx_table (x := yL_root) B (hts (.codeWith yL_root cL_root 4 (some .int) [(0, 6, 9, 30), (0, 6, 12, 17)]) (by decide +kernel))
  subst hsz
  have hD := hD0.self (sz := s.heap.size)
  generalize hAe : va_A [(Ad0, .inr (14, Fs0)), (Ad1, .inr (5, Fs1))] s.heap.size = A at hD hZ ⊢
  have hA : ∀ q : Nat, s.heap.size ≤ q → A q := fun q h => by rw [← hAe]; exact Or.inr h
  have hS : va_S A s.heap s.heap [] := va_S.rf
  have hl := lv_entry ([.ref Ad0, .int Va0, .int 0]) (n := 4) (Nat.le_of_ble_eq_true rfl)
  rw [lg_entry_eq]
  generalize (lg_sl ([.ref Ad0, .int Va0, .int 0]) ++ List.replicate (4 - (lg_sl ([.ref Ad0, .int Va0, .int 0])).length) Slot.unset).toArray = ls at hl ⊢
  have hl : lv_has ls 4 [(0, .ref Ad0), (1, .int Va0), (2, .int 0)] := hl
  have o_Fs0 := ow_0 k_Fs0
  have o_Fs1 := ow_0 k_Fs1
  refine lv_aload_n hx hb dL_root_0 rfl (lv_at hl 0 rfl) ?_
  refine lv_iload_n hx hb dL_root_1 rfl (lv_at hl 1 rfl) ?_
  refine lv_iload_n hx hb dL_root_2 rfl (lv_at hl 2 rfl) ?_
  have hPc := hP.sub (ws' := [(Ad0, .inr (14, Fs0)), (Ad1, .inr (5, Fs1))]) [0, 1] rfl
  have hDc := hD.sub (ws' := [(Ad0, .inr (14, Fs0)), (Ad1, .inr (5, Fs1))]) [0, 1] (by decide) rfl
  have hKc := hK.sub (tys' := []) [] rfl
  have hFc := va_free (wc := [(Ad0, .inr (14, Fs0)), (Ad1, .inr (5, Fs1))]) hD hS hA [0, 1] rfl
  refine vx_callv (vx_runV (As := [.int Va0, .int 0]) (rest := []) ⟨hx, hb, hml, hown, hts⟩ (z_X11_root l dC dI s.heap.size Ad0 Fs0 Ad1 Fs1 Va0 (fh_sub o_Fs0.2 [0] rfl) (fh_sub o_Fs1.2 [0] rfl) hst ) (cwV 2 hts g_z_L_root_z_X11_root_26 rfl rfl rfl (by decide +kernel) ⟨Nat.le_of_ble_eq_true rfl, Nat.le_of_ble_eq_true rfl⟩) ⟨fun a U g mk q => by obtain ⟨q0, q1, qZ, qP, qK, qD⟩ := q; exact ⟨q0, q1, Zz_call qZ, qP, va_K.moved (u := U) (U := U.calling g mk a) (Vm.Alike.refl U.vm) qK, qD⟩, va_recv hK hP (ci := 14) (q0 := 0) rfl rfl, fun U hU hW => ⟨rfl, by rw [hU], Zz_go hZ hS hFc hU hW, by rw [hU]; exact hPc, va_K.moved hW.alike hKc, hDc.weaken (fun _ _ _ _ => trivial)⟩⟩ rfl rfl hl.1 rfl (lv_room (Nat.le_of_ble_eq_true rfl)) dL_root_3 ⟨Nat.le_of_ble_eq_true rfl, Nat.le_of_ble_eq_true rfl⟩) hS (fun q _ h => hFc q h) hFc (fun q _ h => hFc q h) (fun E ce q9 u t H1 locs ht hvm hpx hBX hz1 hk1 hS hce hcv hcl => ?_) (fun u t H1 locs ht hvm hw hB hz1 hk1 hS => ?_)
  · rcases hBX with ⟨rfl, c101⟩ | ⟨rfl, c102, c103⟩
    · skip
      obtain ⟨hP, hD⟩ := va_join (wr := []) (w1 := []) hP hD [0, 1] [] rfl rfl (by decide) (by decide) hk1 hFc P0 D0
      have hK := hK.sub (tys' := []) [] rfl
      generalize H1 = H at hP hS hce ⊢
      have hP : va_P (dC, dI) vwCl [] H := hP
      have hD : va_D A [] := hD
      refine vx_catch (own := RL) (name := "java/util/NoSuchElementException") (E := "java/util/NoSuchElementException") hown [] ⟨0, 6, 9, 30⟩ [⟨0, 6, 12, 17⟩] (htb.trans rfl) ((fun _ h => nomatch h)) (by decide) (by decide) (hts (.classLink RL 30 "java/util/NoSuchElementException") (by decide +kernel)) (va_Nw.use rfl (hZ.2.2.1 "java/util/NoSuchElementException" (by decide))) hce hcv hcl ?_
      refine W.eq (g2 := F0 m 9 ls [.ref q9]) rfl ?_
      refine W.widen (k := 1) (n := 6) (by omega) (by omega) ?_
      refine lv_astore_n (lv' := [(3, .ref q9), (0, .ref Ad0), (1, .int Va0), (2, .int 0)]) hx hb dL_root_9 rfl hl (by decide) rfl (fun ls hl => ?_)
      refine lv_iconst (v := 1) hx hb dL_root_10 (by decide) ?_
      have hP9 := hP.sub (ws' := []) [] rfl
      have hD9 := hD.sub (ws' := []) [] (by decide) rfl
      have hK9 := hK.sub (tys' := []) [] rfl
      refine vx_ret ?_
      refine W.widen (k := 1) (n := 6) (by decide) (by decide) ?_
      exact W.iret (v := 1) hx hb hr (fun t ht hW => ⟨⟨1, (), rfl, (Or.inl ⟨c101, rfl⟩), by rw [ht]; exact hP9, va_K.moved hW.alike hK9, hD9⟩, hS.F ht⟩) hS.2.2 dL_root_11
    · skip
      obtain ⟨hP, hD⟩ := va_join (wr := []) (w1 := []) hP hD [0, 1] [] rfl rfl (by decide) (by decide) hk1 hFc P0 D0
      have hK := hK.sub (tys' := []) [] rfl
      generalize H1 = H at hP hS hce ⊢
      have hP : va_P (dC, dI) vwCl [] H := hP
      have hD : va_D A [] := hD
      refine vx_catch (own := RL) (name := "java/util/NoSuchElementException") (E := "java/util/NoSuchElementException") hown [] ⟨0, 6, 9, 30⟩ [⟨0, 6, 12, 17⟩] (htb.trans rfl) ((fun _ h => nomatch h)) (by decide) (by decide) (hts (.classLink RL 30 "java/util/NoSuchElementException") (by decide +kernel)) (va_Nw.use rfl (hZ.2.2.1 "java/util/NoSuchElementException" (by decide))) hce hcv hcl ?_
      refine W.eq (g2 := F0 m 9 ls [.ref q9]) rfl ?_
      refine W.widen (k := 1) (n := 6) (by omega) (by omega) ?_
      refine lv_astore_n (lv' := [(3, .ref q9), (0, .ref Ad0), (1, .int Va0), (2, .int 0)]) hx hb dL_root_9 rfl hl (by decide) rfl (fun ls hl => ?_)
      refine lv_iconst (v := 1) hx hb dL_root_10 (by decide) ?_
      have hP9 := hP.sub (ws' := []) [] rfl
      have hD9 := hD.sub (ws' := []) [] (by decide) rfl
      have hK9 := hK.sub (tys' := []) [] rfl
      refine vx_ret ?_
      refine W.widen (k := 1) (n := 6) (by decide) (by decide) ?_
      exact W.iret (v := 1) hx hb hr (fun t ht hW => ⟨⟨1, (), rfl, (Or.inr (⟨c102, c103, rfl⟩)), by rw [ht]; exact hP9, va_K.moved hW.alike hK9, hD9⟩, hS.F ht⟩) hS.2.2 dL_root_11
  · exact hw.elim

def l_z_L_root_1 : List Cond := [.methodLink RL 26 yX11_root, .instanceMethod yX11_root, .selects RX11 yX11_root yX11_root, .initialized RX11, .classLink RL 30 "java/util/NoSuchElementException", .code yX11_root cX11_root 4 none, .fieldLink RX11 28 "HeapWorks" "heap" "LHeapWorks$Heap;", .methodLink RX11 218 yX2_isThere, .instanceMethod yX2_isThere, .selects RX2 yX2_isThere yX2_isThere, .initialized RX2, .classLink RX11 221 "java/util/NoSuchElementException", .initialized "java/util/NoSuchElementException", .code yX2_isThere cX2_isThere 2 (some .boolean), .fieldLink RX2 47 "HeapWorks$Heap" "made" "I"]
def w_z_L_root_1 : List Cond := .codeWith yL_root cL_root 4 (some .int) [(0, 6, 9, 30), (0, 6, 12, 17)] :: (l_z_L_root_1 ++ ((wsX110 ++ (((vx_at0 RX11 223 "java/util/NoSuchElementException" ["java/lang/RuntimeException", "java/lang/Exception"]).filter goodWord) ++ wsX20))))
theorem in_z_L_root_1_X11 : ∀ w ∈ wsX110, w ∈ w_z_L_root_1 := fun w h => List.mem_cons_of_mem _ (List.mem_append_right _ (List.mem_append_left _ h))
theorem in_z_L_root_1_at0_X11_223 : ∀ w ∈ ((vx_at0 RX11 223 "java/util/NoSuchElementException" ["java/lang/RuntimeException", "java/lang/Exception"]).filter goodWord), w ∈ w_z_L_root_1 := fun w h => List.mem_cons_of_mem _ (List.mem_append_right _ (List.mem_append_right _ (List.mem_append_left _ h)))
theorem in_z_L_root_1_X2 : ∀ w ∈ wsX20, w ∈ w_z_L_root_1 := fun w h => List.mem_cons_of_mem _ (List.mem_append_right _ (List.mem_append_right _ (List.mem_append_right _ (h))))
theorem g_z_L_root_1_z_X11_root_1_26 : GoodIn w_z_L_root_1 (wsV RL 26 RX11 yX11_root w_z_X11_root_1) := goodIn_app (goodIn_r (([.methodLink RL 26 yX11_root, .instanceMethod yX11_root, .selects RX11 yX11_root yX11_root, .initialized RX11] : List Cond)) [1, 2, 3, 4] rfl (by decide +kernel)) (goodIn_ca (goodIn_r (.code yX11_root cX11_root 4 none :: l_z_X11_root_1) [6, 7, 8, 9, 10, 11, 12, 13, 14, 15] rfl (by decide +kernel)) (goodIn_app (goodIn_in (in_z_L_root_1_X11) gd_X11) (goodIn_app (goodIn_in (in_z_L_root_1_at0_X11_223) gd_at0_X11_223) (goodIn_in (in_z_L_root_1_X2) gd_X2))))
set_option maxHeartbeats 4000000 in
set_option maxRecDepth 100000 in
theorem z_L_root_1 (l : Launch) (dC : Nat → ClassId) (dI : Nat → Nat → Nat) (sz : Nat) (Ad0 : Nat) (Fs0 : List Value) (Ad1 : Nat) (Fs1 : List Value) (Va0 : Int32) (k_Fs0 : fh Fs0 18 [(2, .ref Ad1)]) (k_Fs1 : fh Fs1 14 [(1, .int 0)]) (hst : l.stackTraces = false)  : vx_Met l yL_root w_z_L_root_1 ({ frames := 8, cells := 1, slots := 6, locals := 163 }) (va_Pc [.ref Ad0, .int Va0, .int 1] (fun U => U.heap.size = sz ∧ Zz (va_A [(Ad0, .inr (14, Fs0)), (Ad1, .inr (5, Fs1))] sz) U ∧ Yy U ∧ Wd dC dI [] (fun _ => True) [(Ad0, .inr (14, Fs0)), (Ad1, .inr (5, Fs1))] U)) (va_Qi (fun (r : Int32) (u : Unit) => (Va0 < 0 ∧ r = 1) ∨ (¬ Va0 < 0 ∧ 0 ≤ Va0 ∧ r = 1)) (fun (u : Unit) t => Wd dC dI [] (va_A [(Ad0, .inr (14, Fs0)), (Ad1, .inr (5, Fs1))] sz) [] t) (va_A [(Ad0, .inr (14, Fs0)), (Ad1, .inr (5, Fs1))] sz)) (vx_X (fun _ : Unit => True) (fun E _ _ => False) (va_A [(Ad0, .inr (14, Fs0)), (Ad1, .inr (5, Fs1))] sz)) 1 6 (va_A [(Ad0, .inr (14, Fs0)), (Ad1, .inr (5, Fs1))] sz) := by
  refine vx_ofWH (cc := cL_root) (maxL := 4) (ret := (some .int)) (by decide) rfl ?_
  intro p e s m args below meth c s₁ B hml hv
  obtain ⟨rfl, hsz, hZ, hY, hP, hK, hD0⟩ := hv
  have hx := B.exec
  have hb := B.bytes
  have hr := B.returns
  have hts := atoms_spec (ws := w_z_L_root_1) B.pre
  have hown : s.vm.findClass RL = some m.cls := findClass_of_methodNamed B.named
  have hlocks := B.notSynchronized
  have htb := vx_table (x := yL_root) B (hts (.codeWith yL_root cL_root 4 (some .int) [(0, 6, 9, 30), (0, 6, 12, 17)]) (by decide +kernel))
  subst hsz
  have hD := hD0.self (sz := s.heap.size)
  generalize hAe : va_A [(Ad0, .inr (14, Fs0)), (Ad1, .inr (5, Fs1))] s.heap.size = A at hD hZ ⊢
  have hA : ∀ q : Nat, s.heap.size ≤ q → A q := fun q h => by rw [← hAe]; exact Or.inr h
  have hS : va_S A s.heap s.heap [] := va_S.rf
  have hl := lv_entry ([.ref Ad0, .int Va0, .int 1]) (n := 4) (Nat.le_of_ble_eq_true rfl)
  rw [lg_entry_eq]
  generalize (lg_sl ([.ref Ad0, .int Va0, .int 1]) ++ List.replicate (4 - (lg_sl ([.ref Ad0, .int Va0, .int 1])).length) Slot.unset).toArray = ls at hl ⊢
  have hl : lv_has ls 4 [(0, .ref Ad0), (1, .int Va0), (2, .int 1)] := hl
  have o_Fs0 := ow_0 k_Fs0
  have o_Fs1 := ow_0 k_Fs1
  refine lv_aload_n hx hb dL_root_0 rfl (lv_at hl 0 rfl) ?_
  refine lv_iload_n hx hb dL_root_1 rfl (lv_at hl 1 rfl) ?_
  refine lv_iload_n hx hb dL_root_2 rfl (lv_at hl 2 rfl) ?_
  have hPc := hP.sub (ws' := [(Ad0, .inr (14, Fs0)), (Ad1, .inr (5, Fs1))]) [0, 1] rfl
  have hDc := hD.sub (ws' := [(Ad0, .inr (14, Fs0)), (Ad1, .inr (5, Fs1))]) [0, 1] (by decide) rfl
  have hKc := hK.sub (tys' := []) [] rfl
  have hFc := va_free (wc := [(Ad0, .inr (14, Fs0)), (Ad1, .inr (5, Fs1))]) hD hS hA [0, 1] rfl
  refine vx_callv (vx_runV (As := [.int Va0, .int 1]) (rest := []) ⟨hx, hb, hml, hown, hts⟩ (z_X11_root_1 l dC dI s.heap.size Ad0 Fs0 Ad1 Fs1 Va0 (fh_sub o_Fs0.2 [0] rfl) (fh_sub o_Fs1.2 [0] rfl) hst ) (cwV 2 hts g_z_L_root_1_z_X11_root_1_26 rfl rfl rfl (by decide +kernel) ⟨Nat.le_of_ble_eq_true rfl, Nat.le_of_ble_eq_true rfl⟩) ⟨fun a U g mk q => by obtain ⟨q0, q1, qZ, qP, qK, qD⟩ := q; exact ⟨q0, q1, Zz_call qZ, qP, va_K.moved (u := U) (U := U.calling g mk a) (Vm.Alike.refl U.vm) qK, qD⟩, va_recv hK hP (ci := 14) (q0 := 0) rfl rfl, fun U hU hW => ⟨rfl, by rw [hU], Zz_go hZ hS hFc hU hW, by rw [hU]; exact hPc, va_K.moved hW.alike hKc, hDc.weaken (fun _ _ _ _ => trivial)⟩⟩ rfl rfl hl.1 rfl (lv_room (Nat.le_of_ble_eq_true rfl)) dL_root_3 ⟨Nat.le_of_ble_eq_true rfl, Nat.le_of_ble_eq_true rfl⟩) hS (fun q _ h => hFc q h) hFc (fun q _ h => hFc q h) (fun E ce q9 u t H1 locs ht hvm hpx hBX hz1 hk1 hS hce hcv hcl => ?_) (fun u t H1 locs ht hvm hw hB hz1 hk1 hS => ?_)
  · rcases hBX with ⟨rfl, c101⟩ | ⟨rfl, c102, c103⟩
    · skip
      obtain ⟨hP, hD⟩ := va_join (wr := []) (w1 := []) hP hD [0, 1] [] rfl rfl (by decide) (by decide) hk1 hFc P0 D0
      have hK := hK.sub (tys' := []) [] rfl
      generalize H1 = H at hP hS hce ⊢
      have hP : va_P (dC, dI) vwCl [] H := hP
      have hD : va_D A [] := hD
      refine vx_catch (own := RL) (name := "java/util/NoSuchElementException") (E := "java/util/NoSuchElementException") hown [] ⟨0, 6, 9, 30⟩ [⟨0, 6, 12, 17⟩] (htb.trans rfl) ((fun _ h => nomatch h)) (by decide) (by decide) (hts (.classLink RL 30 "java/util/NoSuchElementException") (by decide +kernel)) (va_Nw.use rfl (hZ.2.2.1 "java/util/NoSuchElementException" (by decide))) hce hcv hcl ?_
      refine W.eq (g2 := F0 m 9 ls [.ref q9]) rfl ?_
      refine W.widen (k := 1) (n := 6) (by omega) (by omega) ?_
      refine lv_astore_n (lv' := [(3, .ref q9), (0, .ref Ad0), (1, .int Va0), (2, .int 1)]) hx hb dL_root_9 rfl hl (by decide) rfl (fun ls hl => ?_)
      refine lv_iconst (v := 1) hx hb dL_root_10 (by decide) ?_
      have hP9 := hP.sub (ws' := []) [] rfl
      have hD9 := hD.sub (ws' := []) [] (by decide) rfl
      have hK9 := hK.sub (tys' := []) [] rfl
      refine vx_ret ?_
      refine W.widen (k := 1) (n := 6) (by decide) (by decide) ?_
      exact W.iret (v := 1) hx hb hr (fun t ht hW => ⟨⟨1, (), rfl, (Or.inl ⟨c101, rfl⟩), by rw [ht]; exact hP9, va_K.moved hW.alike hK9, hD9⟩, hS.F ht⟩) hS.2.2 dL_root_11
    · skip
      obtain ⟨hP, hD⟩ := va_join (wr := []) (w1 := []) hP hD [0, 1] [] rfl rfl (by decide) (by decide) hk1 hFc P0 D0
      have hK := hK.sub (tys' := []) [] rfl
      generalize H1 = H at hP hS hce ⊢
      have hP : va_P (dC, dI) vwCl [] H := hP
      have hD : va_D A [] := hD
      refine vx_catch (own := RL) (name := "java/util/NoSuchElementException") (E := "java/util/NoSuchElementException") hown [] ⟨0, 6, 9, 30⟩ [⟨0, 6, 12, 17⟩] (htb.trans rfl) ((fun _ h => nomatch h)) (by decide) (by decide) (hts (.classLink RL 30 "java/util/NoSuchElementException") (by decide +kernel)) (va_Nw.use rfl (hZ.2.2.1 "java/util/NoSuchElementException" (by decide))) hce hcv hcl ?_
      refine W.eq (g2 := F0 m 9 ls [.ref q9]) rfl ?_
      refine W.widen (k := 1) (n := 6) (by omega) (by omega) ?_
      refine lv_astore_n (lv' := [(3, .ref q9), (0, .ref Ad0), (1, .int Va0), (2, .int 1)]) hx hb dL_root_9 rfl hl (by decide) rfl (fun ls hl => ?_)
      refine lv_iconst (v := 1) hx hb dL_root_10 (by decide) ?_
      have hP9 := hP.sub (ws' := []) [] rfl
      have hD9 := hD.sub (ws' := []) [] (by decide) rfl
      have hK9 := hK.sub (tys' := []) [] rfl
      refine vx_ret ?_
      refine W.widen (k := 1) (n := 6) (by decide) (by decide) ?_
      exact W.iret (v := 1) hx hb hr (fun t ht hW => ⟨⟨1, (), rfl, (Or.inr (⟨c102, c103, rfl⟩)), by rw [ht]; exact hP9, va_K.moved hW.alike hK9, hD9⟩, hS.F ht⟩) hS.2.2 dL_root_11
  · exact hw.elim

def l_z_L_set : List Cond := [.methodLink RL 32 yX11_set, .instanceMethod yX11_set, .selects RX11 yX11_set yX11_set, .initialized RX11, .classLink RL 30 "java/util/NoSuchElementException", .code yX11_set cX11_set 7 (some .int), .fieldLink RX11 28 "HeapWorks" "heap" "LHeapWorks$Heap;", .methodLink RX11 237 yX2_hasSlot, .instanceMethod yX2_hasSlot, .selects RX2 yX2_hasSlot yX2_hasSlot, .initialized RX2, .classLink RX11 221 "java/util/NoSuchElementException", .initialized "java/util/NoSuchElementException", .code yX2_hasSlot cX2_hasSlot 3 (some .boolean), .methodLink RX2 55 yX2_isThere, .instanceMethod yX2_isThere, .selects RX2 yX2_isThere yX2_isThere, .code yX2_isThere cX2_isThere 2 (some .boolean), .fieldLink RX2 47 "HeapWorks$Heap" "made" "I"]
def w_z_L_set : List Cond := .codeWith yL_set cL_set 7 (some .int) [(0, 12, 15, 30), (0, 12, 19, 15)] :: (l_z_L_set ++ ((wsX110 ++ (((vx_at0 RX11 223 "java/util/NoSuchElementException" ["java/lang/RuntimeException", "java/lang/Exception"]).filter goodWord) ++ wsX20))))
theorem in_z_L_set_X11 : ∀ w ∈ wsX110, w ∈ w_z_L_set := fun w h => List.mem_cons_of_mem _ (List.mem_append_right _ (List.mem_append_left _ h))
theorem in_z_L_set_at0_X11_223 : ∀ w ∈ ((vx_at0 RX11 223 "java/util/NoSuchElementException" ["java/lang/RuntimeException", "java/lang/Exception"]).filter goodWord), w ∈ w_z_L_set := fun w h => List.mem_cons_of_mem _ (List.mem_append_right _ (List.mem_append_right _ (List.mem_append_left _ h)))
theorem in_z_L_set_X2 : ∀ w ∈ wsX20, w ∈ w_z_L_set := fun w h => List.mem_cons_of_mem _ (List.mem_append_right _ (List.mem_append_right _ (List.mem_append_right _ (h))))
theorem g_z_L_set_z_X11_set_32 : GoodIn w_z_L_set (wsV RL 32 RX11 yX11_set w_z_X11_set) := goodIn_app (goodIn_r (([.methodLink RL 32 yX11_set, .instanceMethod yX11_set, .selects RX11 yX11_set yX11_set, .initialized RX11] : List Cond)) [1, 2, 3, 4] rfl (by decide +kernel)) (goodIn_ca (goodIn_r (.code yX11_set cX11_set 7 (some .int) :: l_z_X11_set) [6, 7, 8, 9, 10, 11, 12, 13, 14, 15, 16, 17, 18, 19] rfl (by decide +kernel)) (goodIn_app (goodIn_in (in_z_L_set_X11) gd_X11) (goodIn_app (goodIn_in (in_z_L_set_at0_X11_223) gd_at0_X11_223) (goodIn_in (in_z_L_set_X2) gd_X2))))
set_option maxHeartbeats 4000000 in
set_option maxRecDepth 100000 in
theorem z_L_set (l : Launch) (dC : Nat → ClassId) (dI : Nat → Nat → Nat) (sz : Nat) (Ad0 : Nat) (Fs0 : List Value) (Ad1 : Nat) (Fs1 : List Value) (Va0 : Int32) (Va1 : Int32) (Ja0 : Int64) (Br0 : Nat) (k_Fs0 : fh Fs0 18 [(2, .ref Ad1)]) (k_Fs1 : fh Fs1 14 [(1, .int 0)]) (hst : l.stackTraces = false)  : vx_Met l yL_set w_z_L_set ({ frames := 8, cells := 1, slots := 6, locals := 166 }) (va_Pc [.ref Ad0, .int Va0, .int Va1, .long Ja0, .ref Br0] (fun U => U.heap.size = sz ∧ Zz (va_A [(Ad0, .inr (14, Fs0)), (Ad1, .inr (5, Fs1))] sz) U ∧ Yy U ∧ Wd dC dI [] (fun _ => True) [(Ad0, .inr (14, Fs0)), (Ad1, .inr (5, Fs1))] U)) (va_Qi (fun (r : Int32) (u : Unit) => (Va0 < 0 ∧ r = 1) ∨ (¬ Va0 < 0 ∧ 0 ≤ Va0 ∧ r = 1)) (fun (u : Unit) t => Wd dC dI [] (va_A [(Ad0, .inr (14, Fs0)), (Ad1, .inr (5, Fs1))] sz) [] t) (va_A [(Ad0, .inr (14, Fs0)), (Ad1, .inr (5, Fs1))] sz)) (vx_X (fun _ : Unit => True) (fun E _ _ => False) (va_A [(Ad0, .inr (14, Fs0)), (Ad1, .inr (5, Fs1))] sz)) 1 6 (va_A [(Ad0, .inr (14, Fs0)), (Ad1, .inr (5, Fs1))] sz) := by
  refine vx_ofWH (cc := cL_set) (maxL := 7) (ret := (some .int)) (by decide) rfl ?_
  intro p e s m args below meth c s₁ B hml hv
  obtain ⟨rfl, hsz, hZ, hY, hP, hK, hD0⟩ := hv
  have hx := B.exec
  have hb := B.bytes
  have hr := B.returns
  have hts := atoms_spec (ws := w_z_L_set) B.pre
  have hown : s.vm.findClass RL = some m.cls := findClass_of_methodNamed B.named
  have hlocks := B.notSynchronized
  have htb := vx_table (x := yL_set) B (hts (.codeWith yL_set cL_set 7 (some .int) [(0, 12, 15, 30), (0, 12, 19, 15)]) (by decide +kernel))
  subst hsz
  have hD := hD0.self (sz := s.heap.size)
  generalize hAe : va_A [(Ad0, .inr (14, Fs0)), (Ad1, .inr (5, Fs1))] s.heap.size = A at hD hZ ⊢
  have hA : ∀ q : Nat, s.heap.size ≤ q → A q := fun q h => by rw [← hAe]; exact Or.inr h
  have hS : va_S A s.heap s.heap [] := va_S.rf
  have hl := lv_entry ([.ref Ad0, .int Va0, .int Va1, .long Ja0, .ref Br0]) (n := 7) (Nat.le_of_ble_eq_true rfl)
  rw [lg_entry_eq]
  generalize (lg_sl ([.ref Ad0, .int Va0, .int Va1, .long Ja0, .ref Br0]) ++ List.replicate (7 - (lg_sl ([.ref Ad0, .int Va0, .int Va1, .long Ja0, .ref Br0])).length) Slot.unset).toArray = ls at hl ⊢
  have hl : lv_has ls 7 [(0, .ref Ad0), (1, .int Va0), (2, .int Va1), (3, .long Ja0), (5, .ref Br0)] := hl
  have o_Fs0 := ow_0 k_Fs0
  have o_Fs1 := ow_0 k_Fs1
  refine lv_aload hx hb dL_set_0 (lv_at hl 4 rfl) ?_
  refine lv_iconst (v := 0) hx hb dL_set_2 (by decide) ?_
  refine lv_aload_n hx hb dL_set_3 rfl (lv_at hl 0 rfl) ?_
  refine lv_iload_n hx hb dL_set_4 rfl (lv_at hl 1 rfl) ?_
  refine lv_iload_n hx hb dL_set_5 rfl (lv_at hl 2 rfl) ?_
  refine lv_lload_n hx hb dL_set_6 rfl (lv_at hl 3 rfl) ?_
  have hPc := hP.sub (ws' := [(Ad0, .inr (14, Fs0)), (Ad1, .inr (5, Fs1))]) [0, 1] rfl
  have hDc := hD.sub (ws' := [(Ad0, .inr (14, Fs0)), (Ad1, .inr (5, Fs1))]) [0, 1] (by decide) rfl
  have hKc := hK.sub (tys' := []) [] rfl
  have hFc := va_free (wc := [(Ad0, .inr (14, Fs0)), (Ad1, .inr (5, Fs1))]) hD hS hA [0, 1] rfl
  refine vx_calli (vx_runV (As := [.int Va0, .int Va1, .long Ja0]) (rest := [.int 0, .ref Br0]) ⟨hx, hb, hml, hown, hts⟩ (z_X11_set l dC dI s.heap.size Ad0 Fs0 Ad1 Fs1 Va0 Va1 Ja0 (fh_sub o_Fs0.2 [0] rfl) (fh_sub o_Fs1.2 [0] rfl) hst ) (cwV 3 hts g_z_L_set_z_X11_set_32 rfl rfl rfl (by decide +kernel) ⟨Nat.le_of_ble_eq_true rfl, Nat.le_of_ble_eq_true rfl⟩) ⟨fun a U g mk q => by obtain ⟨q0, q1, qZ, qP, qK, qD⟩ := q; exact ⟨q0, q1, Zz_call qZ, qP, va_K.moved (u := U) (U := U.calling g mk a) (Vm.Alike.refl U.vm) qK, qD⟩, va_recv hK hP (ci := 14) (q0 := 0) rfl rfl, fun U hU hW => ⟨rfl, by rw [hU], Zz_go hZ hS hFc hU hW, by rw [hU]; exact hPc, va_K.moved hW.alike hKc, hDc.weaken (fun _ _ _ _ => trivial)⟩⟩ rfl rfl hl.1 rfl (lv_room (Nat.le_of_ble_eq_true rfl)) dL_set_7 ⟨Nat.le_of_ble_eq_true rfl, Nat.le_of_ble_eq_true rfl⟩) hS (fun q _ h => hFc q h) hFc (fun q _ h => hFc q h) (fun E ce q9 u t H1 locs ht hvm hpx hBX hz1 hk1 hS hce hcv hcl => ?_) (fun r101 u t H1 locs ht hvm hw hB hz1 hk1 hS => ?_)
  · rcases hBX with ⟨rfl, c102⟩ | ⟨rfl, c103, c104⟩
    · skip
      obtain ⟨hP, hD⟩ := va_join (wr := []) (w1 := []) hP hD [0, 1] [] rfl rfl (by decide) (by decide) hk1 hFc P0 D0
      have hK := hK.sub (tys' := []) [] rfl
      generalize H1 = H at hP hS hce ⊢
      have hP : va_P (dC, dI) vwCl [] H := hP
      have hD : va_D A [] := hD
      refine vx_catch (own := RL) (name := "java/util/NoSuchElementException") (E := "java/util/NoSuchElementException") hown [] ⟨0, 12, 15, 30⟩ [⟨0, 12, 19, 15⟩] (htb.trans rfl) ((fun _ h => nomatch h)) (by decide) (by decide) (hts (.classLink RL 30 "java/util/NoSuchElementException") (by decide +kernel)) (va_Nw.use rfl (hZ.2.2.1 "java/util/NoSuchElementException" (by decide))) hce hcv hcl ?_
      refine W.eq (g2 := F0 m 15 ls [.ref q9]) rfl ?_
      refine W.widen (k := 1) (n := 6) (by omega) (by omega) ?_
      refine lv_astore (lv' := [(6, .ref q9), (0, .ref Ad0), (1, .int Va0), (2, .int Va1), (3, .long Ja0), (5, .ref Br0)]) hx hb dL_set_15 hl (by decide) rfl (fun ls hl => ?_)
      refine lv_iconst (v := 1) hx hb dL_set_17 (by decide) ?_
      have hP9 := hP.sub (ws' := []) [] rfl
      have hD9 := hD.sub (ws' := []) [] (by decide) rfl
      have hK9 := hK.sub (tys' := []) [] rfl
      refine vx_ret ?_
      refine W.widen (k := 1) (n := 6) (by decide) (by decide) ?_
      exact W.iret (v := 1) hx hb hr (fun t ht hW => ⟨⟨1, (), rfl, (Or.inl ⟨c102, rfl⟩), by rw [ht]; exact hP9, va_K.moved hW.alike hK9, hD9⟩, hS.F ht⟩) hS.2.2 dL_set_18
    · skip
      obtain ⟨hP, hD⟩ := va_join (wr := []) (w1 := []) hP hD [0, 1] [] rfl rfl (by decide) (by decide) hk1 hFc P0 D0
      have hK := hK.sub (tys' := []) [] rfl
      generalize H1 = H at hP hS hce ⊢
      have hP : va_P (dC, dI) vwCl [] H := hP
      have hD : va_D A [] := hD
      refine vx_catch (own := RL) (name := "java/util/NoSuchElementException") (E := "java/util/NoSuchElementException") hown [] ⟨0, 12, 15, 30⟩ [⟨0, 12, 19, 15⟩] (htb.trans rfl) ((fun _ h => nomatch h)) (by decide) (by decide) (hts (.classLink RL 30 "java/util/NoSuchElementException") (by decide +kernel)) (va_Nw.use rfl (hZ.2.2.1 "java/util/NoSuchElementException" (by decide))) hce hcv hcl ?_
      refine W.eq (g2 := F0 m 15 ls [.ref q9]) rfl ?_
      refine W.widen (k := 1) (n := 6) (by omega) (by omega) ?_
      refine lv_astore (lv' := [(6, .ref q9), (0, .ref Ad0), (1, .int Va0), (2, .int Va1), (3, .long Ja0), (5, .ref Br0)]) hx hb dL_set_15 hl (by decide) rfl (fun ls hl => ?_)
      refine lv_iconst (v := 1) hx hb dL_set_17 (by decide) ?_
      have hP9 := hP.sub (ws' := []) [] rfl
      have hD9 := hD.sub (ws' := []) [] (by decide) rfl
      have hK9 := hK.sub (tys' := []) [] rfl
      refine vx_ret ?_
      refine W.widen (k := 1) (n := 6) (by decide) (by decide) ?_
      exact W.iret (v := 1) hx hb hr (fun t ht hW => ⟨⟨1, (), rfl, (Or.inr (⟨c103, c104, rfl⟩)), by rw [ht]; exact hP9, va_K.moved hW.alike hK9, hD9⟩, hS.F ht⟩) hS.2.2 dL_set_18
  · exact hw.elim

def l_z_L_setStatic : List Cond := [.methodLink RL 36 yX11_setStatic, .instanceMethod yX11_setStatic, .selects RX11 yX11_setStatic yX11_setStatic, .initialized RX11, .classLink RL 30 "java/util/NoSuchElementException", .code yX11_setStatic cX11_setStatic 8 (some .int), .fieldLink RX11 19 "HeapWorks" "types" "LHeapWorks$Types;", .methodLink RX11 260 yX10_staticField, .instanceMethod yX10_staticField, .selects RX10 yX10_staticField yX10_staticField, .initialized RX10, .classLink RX11 221 "java/util/NoSuchElementException", .initialized "java/util/NoSuchElementException", .code yX10_staticField cX10_staticField 5 (some .int), .methodLink RX10 69 yX10_isClass, .instanceMethod yX10_isClass, .selects RX10 yX10_isClass yX10_isClass, .code yX10_isClass cX10_isClass 2 (some .boolean), .fieldLink RX10 65 "HeapWorks$Types" "count" "I"]
def w_z_L_setStatic : List Cond := .codeWith yL_setStatic cL_setStatic 7 (some .int) [(0, 12, 15, 30), (0, 12, 19, 15)] :: (l_z_L_setStatic ++ ((wsX110 ++ (((vx_at0 RX11 223 "java/util/NoSuchElementException" ["java/lang/RuntimeException", "java/lang/Exception"]).filter goodWord) ++ wsX100))))
theorem in_z_L_setStatic_X11 : ∀ w ∈ wsX110, w ∈ w_z_L_setStatic := fun w h => List.mem_cons_of_mem _ (List.mem_append_right _ (List.mem_append_left _ h))
theorem in_z_L_setStatic_at0_X11_223 : ∀ w ∈ ((vx_at0 RX11 223 "java/util/NoSuchElementException" ["java/lang/RuntimeException", "java/lang/Exception"]).filter goodWord), w ∈ w_z_L_setStatic := fun w h => List.mem_cons_of_mem _ (List.mem_append_right _ (List.mem_append_right _ (List.mem_append_left _ h)))
theorem in_z_L_setStatic_X10 : ∀ w ∈ wsX100, w ∈ w_z_L_setStatic := fun w h => List.mem_cons_of_mem _ (List.mem_append_right _ (List.mem_append_right _ (List.mem_append_right _ (h))))
theorem g_z_L_setStatic_z_X11_setStatic_36 : GoodIn w_z_L_setStatic (wsV RL 36 RX11 yX11_setStatic w_z_X11_setStatic) := goodIn_app (goodIn_r (([.methodLink RL 36 yX11_setStatic, .instanceMethod yX11_setStatic, .selects RX11 yX11_setStatic yX11_setStatic, .initialized RX11] : List Cond)) [1, 2, 3, 4] rfl (by decide +kernel)) (goodIn_ca (goodIn_r (.code yX11_setStatic cX11_setStatic 8 (some .int) :: l_z_X11_setStatic) [6, 7, 8, 9, 10, 11, 12, 13, 14, 15, 16, 17, 18, 19] rfl (by decide +kernel)) (goodIn_app (goodIn_in (in_z_L_setStatic_X11) gd_X11) (goodIn_app (goodIn_in (in_z_L_setStatic_at0_X11_223) gd_at0_X11_223) (goodIn_in (in_z_L_setStatic_X10) gd_X10))))
set_option maxHeartbeats 4000000 in
set_option maxRecDepth 100000 in
theorem z_L_setStatic (l : Launch) (dC : Nat → ClassId) (dI : Nat → Nat → Nat) (sz : Nat) (Ad0 : Nat) (Fs0 : List Value) (Ad1 : Nat) (Fs1 : List Value) (Va0 : Int32) (Va1 : Int32) (Ja0 : Int64) (Br0 : Nat) (k_Fs0 : fh Fs0 18 [(1, .ref Ad1)]) (k_Fs1 : fh Fs1 18 [(0, .int 0)]) (hst : l.stackTraces = false)  : vx_Met l yL_setStatic w_z_L_setStatic ({ frames := 8, cells := 1, slots := 6, locals := 167 }) (va_Pc [.ref Ad0, .int Va0, .int Va1, .long Ja0, .ref Br0] (fun U => U.heap.size = sz ∧ Zz (va_A [(Ad0, .inr (14, Fs0)), (Ad1, .inr (13, Fs1))] sz) U ∧ Yy U ∧ Wd dC dI [] (fun _ => True) [(Ad0, .inr (14, Fs0)), (Ad1, .inr (13, Fs1))] U)) (va_Qi (fun (r : Int32) (u : Unit) => (Va0 < 0 ∧ r = 1) ∨ (¬ Va0 < 0 ∧ 0 ≤ Va0 ∧ r = 1)) (fun (u : Unit) t => Wd dC dI [] (va_A [(Ad0, .inr (14, Fs0)), (Ad1, .inr (13, Fs1))] sz) [] t) (va_A [(Ad0, .inr (14, Fs0)), (Ad1, .inr (13, Fs1))] sz)) (vx_X (fun _ : Unit => True) (fun E _ _ => False) (va_A [(Ad0, .inr (14, Fs0)), (Ad1, .inr (13, Fs1))] sz)) 1 6 (va_A [(Ad0, .inr (14, Fs0)), (Ad1, .inr (13, Fs1))] sz) := by
  refine vx_ofWH (cc := cL_setStatic) (maxL := 7) (ret := (some .int)) (by decide) rfl ?_
  intro p e s m args below meth c s₁ B hml hv
  obtain ⟨rfl, hsz, hZ, hY, hP, hK, hD0⟩ := hv
  have hx := B.exec
  have hb := B.bytes
  have hr := B.returns
  have hts := atoms_spec (ws := w_z_L_setStatic) B.pre
  have hown : s.vm.findClass RL = some m.cls := findClass_of_methodNamed B.named
  have hlocks := B.notSynchronized
  have htb := vx_table (x := yL_setStatic) B (hts (.codeWith yL_setStatic cL_setStatic 7 (some .int) [(0, 12, 15, 30), (0, 12, 19, 15)]) (by decide +kernel))
  subst hsz
  have hD := hD0.self (sz := s.heap.size)
  generalize hAe : va_A [(Ad0, .inr (14, Fs0)), (Ad1, .inr (13, Fs1))] s.heap.size = A at hD hZ ⊢
  have hA : ∀ q : Nat, s.heap.size ≤ q → A q := fun q h => by rw [← hAe]; exact Or.inr h
  have hS : va_S A s.heap s.heap [] := va_S.rf
  have hl := lv_entry ([.ref Ad0, .int Va0, .int Va1, .long Ja0, .ref Br0]) (n := 7) (Nat.le_of_ble_eq_true rfl)
  rw [lg_entry_eq]
  generalize (lg_sl ([.ref Ad0, .int Va0, .int Va1, .long Ja0, .ref Br0]) ++ List.replicate (7 - (lg_sl ([.ref Ad0, .int Va0, .int Va1, .long Ja0, .ref Br0])).length) Slot.unset).toArray = ls at hl ⊢
  have hl : lv_has ls 7 [(0, .ref Ad0), (1, .int Va0), (2, .int Va1), (3, .long Ja0), (5, .ref Br0)] := hl
  have o_Fs0 := ow_0 k_Fs0
  have o_Fs1 := ow_0 k_Fs1
  refine lv_aload hx hb dL_setStatic_0 (lv_at hl 4 rfl) ?_
  refine lv_iconst (v := 0) hx hb dL_setStatic_2 (by decide) ?_
  refine lv_aload_n hx hb dL_setStatic_3 rfl (lv_at hl 0 rfl) ?_
  refine lv_iload_n hx hb dL_setStatic_4 rfl (lv_at hl 1 rfl) ?_
  refine lv_iload_n hx hb dL_setStatic_5 rfl (lv_at hl 2 rfl) ?_
  refine lv_lload_n hx hb dL_setStatic_6 rfl (lv_at hl 3 rfl) ?_
  have hPc := hP.sub (ws' := [(Ad0, .inr (14, Fs0)), (Ad1, .inr (13, Fs1))]) [0, 1] rfl
  have hDc := hD.sub (ws' := [(Ad0, .inr (14, Fs0)), (Ad1, .inr (13, Fs1))]) [0, 1] (by decide) rfl
  have hKc := hK.sub (tys' := []) [] rfl
  have hFc := va_free (wc := [(Ad0, .inr (14, Fs0)), (Ad1, .inr (13, Fs1))]) hD hS hA [0, 1] rfl
  refine vx_calli (vx_runV (As := [.int Va0, .int Va1, .long Ja0]) (rest := [.int 0, .ref Br0]) ⟨hx, hb, hml, hown, hts⟩ (z_X11_setStatic l dC dI s.heap.size Ad0 Fs0 Ad1 Fs1 Va0 Va1 Ja0 (fh_sub o_Fs0.2 [0] rfl) (fh_sub o_Fs1.2 [0] rfl) hst ) (cwV 3 hts g_z_L_setStatic_z_X11_setStatic_36 rfl rfl rfl (by decide +kernel) ⟨Nat.le_of_ble_eq_true rfl, Nat.le_of_ble_eq_true rfl⟩) ⟨fun a U g mk q => by obtain ⟨q0, q1, qZ, qP, qK, qD⟩ := q; exact ⟨q0, q1, Zz_call qZ, qP, va_K.moved (u := U) (U := U.calling g mk a) (Vm.Alike.refl U.vm) qK, qD⟩, va_recv hK hP (ci := 14) (q0 := 0) rfl rfl, fun U hU hW => ⟨rfl, by rw [hU], Zz_go hZ hS hFc hU hW, by rw [hU]; exact hPc, va_K.moved hW.alike hKc, hDc.weaken (fun _ _ _ _ => trivial)⟩⟩ rfl rfl hl.1 rfl (lv_room (Nat.le_of_ble_eq_true rfl)) dL_setStatic_7 ⟨Nat.le_of_ble_eq_true rfl, Nat.le_of_ble_eq_true rfl⟩) hS (fun q _ h => hFc q h) hFc (fun q _ h => hFc q h) (fun E ce q9 u t H1 locs ht hvm hpx hBX hz1 hk1 hS hce hcv hcl => ?_) (fun r101 u t H1 locs ht hvm hw hB hz1 hk1 hS => ?_)
  · rcases hBX with ⟨rfl, c102⟩ | ⟨rfl, c103, c104⟩
    · skip
      obtain ⟨hP, hD⟩ := va_join (wr := []) (w1 := []) hP hD [0, 1] [] rfl rfl (by decide) (by decide) hk1 hFc P0 D0
      have hK := hK.sub (tys' := []) [] rfl
      generalize H1 = H at hP hS hce ⊢
      have hP : va_P (dC, dI) vwCl [] H := hP
      have hD : va_D A [] := hD
      refine vx_catch (own := RL) (name := "java/util/NoSuchElementException") (E := "java/util/NoSuchElementException") hown [] ⟨0, 12, 15, 30⟩ [⟨0, 12, 19, 15⟩] (htb.trans rfl) ((fun _ h => nomatch h)) (by decide) (by decide) (hts (.classLink RL 30 "java/util/NoSuchElementException") (by decide +kernel)) (va_Nw.use rfl (hZ.2.2.1 "java/util/NoSuchElementException" (by decide))) hce hcv hcl ?_
      refine W.eq (g2 := F0 m 15 ls [.ref q9]) rfl ?_
      refine W.widen (k := 1) (n := 6) (by omega) (by omega) ?_
      refine lv_astore (lv' := [(6, .ref q9), (0, .ref Ad0), (1, .int Va0), (2, .int Va1), (3, .long Ja0), (5, .ref Br0)]) hx hb dL_setStatic_15 hl (by decide) rfl (fun ls hl => ?_)
      refine lv_iconst (v := 1) hx hb dL_setStatic_17 (by decide) ?_
      have hP9 := hP.sub (ws' := []) [] rfl
      have hD9 := hD.sub (ws' := []) [] (by decide) rfl
      have hK9 := hK.sub (tys' := []) [] rfl
      refine vx_ret ?_
      refine W.widen (k := 1) (n := 6) (by decide) (by decide) ?_
      exact W.iret (v := 1) hx hb hr (fun t ht hW => ⟨⟨1, (), rfl, (Or.inl ⟨c102, rfl⟩), by rw [ht]; exact hP9, va_K.moved hW.alike hK9, hD9⟩, hS.F ht⟩) hS.2.2 dL_setStatic_18
    · skip
      obtain ⟨hP, hD⟩ := va_join (wr := []) (w1 := []) hP hD [0, 1] [] rfl rfl (by decide) (by decide) hk1 hFc P0 D0
      have hK := hK.sub (tys' := []) [] rfl
      generalize H1 = H at hP hS hce ⊢
      have hP : va_P (dC, dI) vwCl [] H := hP
      have hD : va_D A [] := hD
      refine vx_catch (own := RL) (name := "java/util/NoSuchElementException") (E := "java/util/NoSuchElementException") hown [] ⟨0, 12, 15, 30⟩ [⟨0, 12, 19, 15⟩] (htb.trans rfl) ((fun _ h => nomatch h)) (by decide) (by decide) (hts (.classLink RL 30 "java/util/NoSuchElementException") (by decide +kernel)) (va_Nw.use rfl (hZ.2.2.1 "java/util/NoSuchElementException" (by decide))) hce hcv hcl ?_
      refine W.eq (g2 := F0 m 15 ls [.ref q9]) rfl ?_
      refine W.widen (k := 1) (n := 6) (by omega) (by omega) ?_
      refine lv_astore (lv' := [(6, .ref q9), (0, .ref Ad0), (1, .int Va0), (2, .int Va1), (3, .long Ja0), (5, .ref Br0)]) hx hb dL_setStatic_15 hl (by decide) rfl (fun ls hl => ?_)
      refine lv_iconst (v := 1) hx hb dL_setStatic_17 (by decide) ?_
      have hP9 := hP.sub (ws' := []) [] rfl
      have hD9 := hD.sub (ws' := []) [] (by decide) rfl
      have hK9 := hK.sub (tys' := []) [] rfl
      refine vx_ret ?_
      refine W.widen (k := 1) (n := 6) (by decide) (by decide) ?_
      exact W.iret (v := 1) hx hb hr (fun t ht hW => ⟨⟨1, (), rfl, (Or.inr (⟨c103, c104, rfl⟩)), by rw [ht]; exact hP9, va_K.moved hW.alike hK9, hD9⟩, hS.F ht⟩) hS.2.2 dL_setStatic_18
  · exact hw.elim

def l_z_L_get : List Cond := [.methodLink RL 39 yX11_get, .instanceMethod yX11_get, .selects RX11 yX11_get yX11_get, .initialized RX11, .classLink RL 30 "java/util/NoSuchElementException", .code yX11_get cX11_get 3 (some .long), .fieldLink RX11 28 "HeapWorks" "heap" "LHeapWorks$Heap;", .methodLink RX11 237 yX2_hasSlot, .instanceMethod yX2_hasSlot, .selects RX2 yX2_hasSlot yX2_hasSlot, .initialized RX2, .classLink RX11 221 "java/util/NoSuchElementException", .initialized "java/util/NoSuchElementException", .code yX2_hasSlot cX2_hasSlot 3 (some .boolean), .methodLink RX2 55 yX2_isThere, .instanceMethod yX2_isThere, .selects RX2 yX2_isThere yX2_isThere, .code yX2_isThere cX2_isThere 2 (some .boolean), .fieldLink RX2 47 "HeapWorks$Heap" "made" "I"]
def w_z_L_get : List Cond := .codeWith yL_get cL_get 5 (some .int) [(0, 9, 12, 30)] :: (l_z_L_get ++ ((wsX110 ++ (((vx_at0 RX11 223 "java/util/NoSuchElementException" ["java/lang/RuntimeException", "java/lang/Exception"]).filter goodWord) ++ wsX20))))
theorem in_z_L_get_X11 : ∀ w ∈ wsX110, w ∈ w_z_L_get := fun w h => List.mem_cons_of_mem _ (List.mem_append_right _ (List.mem_append_left _ h))
theorem in_z_L_get_at0_X11_223 : ∀ w ∈ ((vx_at0 RX11 223 "java/util/NoSuchElementException" ["java/lang/RuntimeException", "java/lang/Exception"]).filter goodWord), w ∈ w_z_L_get := fun w h => List.mem_cons_of_mem _ (List.mem_append_right _ (List.mem_append_right _ (List.mem_append_left _ h)))
theorem in_z_L_get_X2 : ∀ w ∈ wsX20, w ∈ w_z_L_get := fun w h => List.mem_cons_of_mem _ (List.mem_append_right _ (List.mem_append_right _ (List.mem_append_right _ (h))))
theorem g_z_L_get_z_X11_get_39 : GoodIn w_z_L_get (wsV RL 39 RX11 yX11_get w_z_X11_get) := goodIn_app (goodIn_r (([.methodLink RL 39 yX11_get, .instanceMethod yX11_get, .selects RX11 yX11_get yX11_get, .initialized RX11] : List Cond)) [1, 2, 3, 4] rfl (by decide +kernel)) (goodIn_ca (goodIn_r (.code yX11_get cX11_get 3 (some .long) :: l_z_X11_get) [6, 7, 8, 9, 10, 11, 12, 13, 14, 15, 16, 17, 18, 19] rfl (by decide +kernel)) (goodIn_app (goodIn_in (in_z_L_get_X11) gd_X11) (goodIn_app (goodIn_in (in_z_L_get_at0_X11_223) gd_at0_X11_223) (goodIn_in (in_z_L_get_X2) gd_X2))))
set_option maxHeartbeats 4000000 in
set_option maxRecDepth 100000 in
theorem z_L_get (l : Launch) (dC : Nat → ClassId) (dI : Nat → Nat → Nat) (sz : Nat) (Ad0 : Nat) (Fs0 : List Value) (Ad1 : Nat) (Fs1 : List Value) (Va0 : Int32) (Va1 : Int32) (Br0 : Nat) (k_Fs0 : fh Fs0 18 [(2, .ref Ad1)]) (k_Fs1 : fh Fs1 14 [(1, .int 0)]) (hst : l.stackTraces = false)  : vx_Met l yL_get w_z_L_get ({ frames := 8, cells := 1, slots := 6, locals := 162 }) (va_Pc [.ref Ad0, .int Va0, .int Va1, .ref Br0] (fun U => U.heap.size = sz ∧ Zz (va_A [(Ad0, .inr (14, Fs0)), (Ad1, .inr (5, Fs1))] sz) U ∧ Yy U ∧ Wd dC dI [] (fun _ => True) [(Ad0, .inr (14, Fs0)), (Ad1, .inr (5, Fs1))] U)) (va_Qi (fun (r : Int32) (u : Unit) => (Va0 < 0 ∧ r = 1) ∨ (¬ Va0 < 0 ∧ 0 ≤ Va0 ∧ r = 1)) (fun (u : Unit) t => Wd dC dI [] (va_A [(Ad0, .inr (14, Fs0)), (Ad1, .inr (5, Fs1))] sz) [] t) (va_A [(Ad0, .inr (14, Fs0)), (Ad1, .inr (5, Fs1))] sz)) (vx_X (fun _ : Unit => True) (fun E _ _ => False) (va_A [(Ad0, .inr (14, Fs0)), (Ad1, .inr (5, Fs1))] sz)) 1 6 (va_A [(Ad0, .inr (14, Fs0)), (Ad1, .inr (5, Fs1))] sz) := by
  refine vx_ofWH (cc := cL_get) (maxL := 5) (ret := (some .int)) (by decide) rfl ?_
  intro p e s m args below meth c s₁ B hml hv
  obtain ⟨rfl, hsz, hZ, hY, hP, hK, hD0⟩ := hv
  have hx := B.exec
  have hb := B.bytes
  have hr := B.returns
  have hts := atoms_spec (ws := w_z_L_get) B.pre
  have hown : s.vm.findClass RL = some m.cls := findClass_of_methodNamed B.named
  have hlocks := B.notSynchronized
  have htb := vx_table (x := yL_get) B (hts (.codeWith yL_get cL_get 5 (some .int) [(0, 9, 12, 30)]) (by decide +kernel))
  subst hsz
  have hD := hD0.self (sz := s.heap.size)
  generalize hAe : va_A [(Ad0, .inr (14, Fs0)), (Ad1, .inr (5, Fs1))] s.heap.size = A at hD hZ ⊢
  have hA : ∀ q : Nat, s.heap.size ≤ q → A q := fun q h => by rw [← hAe]; exact Or.inr h
  have hS : va_S A s.heap s.heap [] := va_S.rf
  have hl := lv_entry ([.ref Ad0, .int Va0, .int Va1, .ref Br0]) (n := 5) (Nat.le_of_ble_eq_true rfl)
  rw [lg_entry_eq]
  generalize (lg_sl ([.ref Ad0, .int Va0, .int Va1, .ref Br0]) ++ List.replicate (5 - (lg_sl ([.ref Ad0, .int Va0, .int Va1, .ref Br0])).length) Slot.unset).toArray = ls at hl ⊢
  have hl : lv_has ls 5 [(0, .ref Ad0), (1, .int Va0), (2, .int Va1), (3, .ref Br0)] := hl
  have o_Fs0 := ow_0 k_Fs0
  have o_Fs1 := ow_0 k_Fs1
  refine lv_aload_n hx hb dL_get_0 rfl (lv_at hl 3 rfl) ?_
  refine lv_iconst (v := 0) hx hb dL_get_1 (by decide) ?_
  refine lv_aload_n hx hb dL_get_2 rfl (lv_at hl 0 rfl) ?_
  refine lv_iload_n hx hb dL_get_3 rfl (lv_at hl 1 rfl) ?_
  refine lv_iload_n hx hb dL_get_4 rfl (lv_at hl 2 rfl) ?_
  have hPc := hP.sub (ws' := [(Ad0, .inr (14, Fs0)), (Ad1, .inr (5, Fs1))]) [0, 1] rfl
  have hDc := hD.sub (ws' := [(Ad0, .inr (14, Fs0)), (Ad1, .inr (5, Fs1))]) [0, 1] (by decide) rfl
  have hKc := hK.sub (tys' := []) [] rfl
  have hFc := va_free (wc := [(Ad0, .inr (14, Fs0)), (Ad1, .inr (5, Fs1))]) hD hS hA [0, 1] rfl
  refine vx_calll (vx_runV (As := [.int Va0, .int Va1]) (rest := [.int 0, .ref Br0]) ⟨hx, hb, hml, hown, hts⟩ (z_X11_get l dC dI s.heap.size Ad0 Fs0 Ad1 Fs1 Va0 Va1 (fh_sub o_Fs0.2 [0] rfl) (fh_sub o_Fs1.2 [0] rfl) hst ) (cwV 2 hts g_z_L_get_z_X11_get_39 rfl rfl rfl (by decide +kernel) ⟨Nat.le_of_ble_eq_true rfl, Nat.le_of_ble_eq_true rfl⟩) ⟨fun a U g mk q => by obtain ⟨q0, q1, qZ, qP, qK, qD⟩ := q; exact ⟨q0, q1, Zz_call qZ, qP, va_K.moved (u := U) (U := U.calling g mk a) (Vm.Alike.refl U.vm) qK, qD⟩, va_recv hK hP (ci := 14) (q0 := 0) rfl rfl, fun U hU hW => ⟨rfl, by rw [hU], Zz_go hZ hS hFc hU hW, by rw [hU]; exact hPc, va_K.moved hW.alike hKc, hDc.weaken (fun _ _ _ _ => trivial)⟩⟩ rfl rfl hl.1 rfl (lv_room (Nat.le_of_ble_eq_true rfl)) dL_get_5 ⟨Nat.le_of_ble_eq_true rfl, Nat.le_of_ble_eq_true rfl⟩) hS (fun q _ h => hFc q h) hFc (fun q _ h => hFc q h) (fun E ce q9 u t H1 locs ht hvm hpx hBX hz1 hk1 hS hce hcv hcl => ?_) (fun r101 u t H1 locs ht hvm hw hB hz1 hk1 hS => ?_)
  · rcases hBX with ⟨rfl, c102⟩ | ⟨rfl, c103, c104⟩
    · skip
      obtain ⟨hP, hD⟩ := va_join (wr := []) (w1 := []) hP hD [0, 1] [] rfl rfl (by decide) (by decide) hk1 hFc P0 D0
      have hK := hK.sub (tys' := []) [] rfl
      generalize H1 = H at hP hS hce ⊢
      have hP : va_P (dC, dI) vwCl [] H := hP
      have hD : va_D A [] := hD
      refine vx_catch (own := RL) (name := "java/util/NoSuchElementException") (E := "java/util/NoSuchElementException") hown [] ⟨0, 9, 12, 30⟩ [] (htb.trans rfl) ((fun _ h => nomatch h)) (by decide) (by decide) (hts (.classLink RL 30 "java/util/NoSuchElementException") (by decide +kernel)) (va_Nw.use rfl (hZ.2.2.1 "java/util/NoSuchElementException" (by decide))) hce hcv hcl ?_
      refine W.eq (g2 := F0 m 12 ls [.ref q9]) rfl ?_
      refine W.widen (k := 1) (n := 6) (by omega) (by omega) ?_
      refine lv_astore (lv' := [(4, .ref q9), (0, .ref Ad0), (1, .int Va0), (2, .int Va1), (3, .ref Br0)]) hx hb dL_get_12 hl (by decide) rfl (fun ls hl => ?_)
      refine lv_iconst (v := 1) hx hb dL_get_14 (by decide) ?_
      have hP9 := hP.sub (ws' := []) [] rfl
      have hD9 := hD.sub (ws' := []) [] (by decide) rfl
      have hK9 := hK.sub (tys' := []) [] rfl
      refine vx_ret ?_
      refine W.widen (k := 1) (n := 6) (by decide) (by decide) ?_
      exact W.iret (v := 1) hx hb hr (fun t ht hW => ⟨⟨1, (), rfl, (Or.inl ⟨c102, rfl⟩), by rw [ht]; exact hP9, va_K.moved hW.alike hK9, hD9⟩, hS.F ht⟩) hS.2.2 dL_get_15
    · skip
      obtain ⟨hP, hD⟩ := va_join (wr := []) (w1 := []) hP hD [0, 1] [] rfl rfl (by decide) (by decide) hk1 hFc P0 D0
      have hK := hK.sub (tys' := []) [] rfl
      generalize H1 = H at hP hS hce ⊢
      have hP : va_P (dC, dI) vwCl [] H := hP
      have hD : va_D A [] := hD
      refine vx_catch (own := RL) (name := "java/util/NoSuchElementException") (E := "java/util/NoSuchElementException") hown [] ⟨0, 9, 12, 30⟩ [] (htb.trans rfl) ((fun _ h => nomatch h)) (by decide) (by decide) (hts (.classLink RL 30 "java/util/NoSuchElementException") (by decide +kernel)) (va_Nw.use rfl (hZ.2.2.1 "java/util/NoSuchElementException" (by decide))) hce hcv hcl ?_
      refine W.eq (g2 := F0 m 12 ls [.ref q9]) rfl ?_
      refine W.widen (k := 1) (n := 6) (by omega) (by omega) ?_
      refine lv_astore (lv' := [(4, .ref q9), (0, .ref Ad0), (1, .int Va0), (2, .int Va1), (3, .ref Br0)]) hx hb dL_get_12 hl (by decide) rfl (fun ls hl => ?_)
      refine lv_iconst (v := 1) hx hb dL_get_14 (by decide) ?_
      have hP9 := hP.sub (ws' := []) [] rfl
      have hD9 := hD.sub (ws' := []) [] (by decide) rfl
      have hK9 := hK.sub (tys' := []) [] rfl
      refine vx_ret ?_
      refine W.widen (k := 1) (n := 6) (by decide) (by decide) ?_
      exact W.iret (v := 1) hx hb hr (fun t ht hW => ⟨⟨1, (), rfl, (Or.inr (⟨c103, c104, rfl⟩)), by rw [ht]; exact hP9, va_K.moved hW.alike hK9, hD9⟩, hS.F ht⟩) hS.2.2 dL_get_15
  · exact hw.elim

def l_z_L_getStatic : List Cond := [.methodLink RL 43 yX11_getStatic, .instanceMethod yX11_getStatic, .selects RX11 yX11_getStatic yX11_getStatic, .initialized RX11, .classLink RL 30 "java/util/NoSuchElementException", .code yX11_getStatic cX11_getStatic 4 (some .long), .fieldLink RX11 19 "HeapWorks" "types" "LHeapWorks$Types;", .methodLink RX11 260 yX10_staticField, .instanceMethod yX10_staticField, .selects RX10 yX10_staticField yX10_staticField, .initialized RX10, .classLink RX11 221 "java/util/NoSuchElementException", .initialized "java/util/NoSuchElementException", .code yX10_staticField cX10_staticField 5 (some .int), .methodLink RX10 69 yX10_isClass, .instanceMethod yX10_isClass, .selects RX10 yX10_isClass yX10_isClass, .code yX10_isClass cX10_isClass 2 (some .boolean), .fieldLink RX10 65 "HeapWorks$Types" "count" "I"]
def w_z_L_getStatic : List Cond := .codeWith yL_getStatic cL_getStatic 5 (some .int) [(0, 9, 12, 30)] :: (l_z_L_getStatic ++ ((wsX110 ++ (((vx_at0 RX11 223 "java/util/NoSuchElementException" ["java/lang/RuntimeException", "java/lang/Exception"]).filter goodWord) ++ wsX100))))
theorem in_z_L_getStatic_X11 : ∀ w ∈ wsX110, w ∈ w_z_L_getStatic := fun w h => List.mem_cons_of_mem _ (List.mem_append_right _ (List.mem_append_left _ h))
theorem in_z_L_getStatic_at0_X11_223 : ∀ w ∈ ((vx_at0 RX11 223 "java/util/NoSuchElementException" ["java/lang/RuntimeException", "java/lang/Exception"]).filter goodWord), w ∈ w_z_L_getStatic := fun w h => List.mem_cons_of_mem _ (List.mem_append_right _ (List.mem_append_right _ (List.mem_append_left _ h)))
theorem in_z_L_getStatic_X10 : ∀ w ∈ wsX100, w ∈ w_z_L_getStatic := fun w h => List.mem_cons_of_mem _ (List.mem_append_right _ (List.mem_append_right _ (List.mem_append_right _ (h))))
theorem g_z_L_getStatic_z_X11_getStatic_43 : GoodIn w_z_L_getStatic (wsV RL 43 RX11 yX11_getStatic w_z_X11_getStatic) := goodIn_app (goodIn_r (([.methodLink RL 43 yX11_getStatic, .instanceMethod yX11_getStatic, .selects RX11 yX11_getStatic yX11_getStatic, .initialized RX11] : List Cond)) [1, 2, 3, 4] rfl (by decide +kernel)) (goodIn_ca (goodIn_r (.code yX11_getStatic cX11_getStatic 4 (some .long) :: l_z_X11_getStatic) [6, 7, 8, 9, 10, 11, 12, 13, 14, 15, 16, 17, 18, 19] rfl (by decide +kernel)) (goodIn_app (goodIn_in (in_z_L_getStatic_X11) gd_X11) (goodIn_app (goodIn_in (in_z_L_getStatic_at0_X11_223) gd_at0_X11_223) (goodIn_in (in_z_L_getStatic_X10) gd_X10))))
set_option maxHeartbeats 4000000 in
set_option maxRecDepth 100000 in
theorem z_L_getStatic (l : Launch) (dC : Nat → ClassId) (dI : Nat → Nat → Nat) (sz : Nat) (Ad0 : Nat) (Fs0 : List Value) (Ad1 : Nat) (Fs1 : List Value) (Va0 : Int32) (Va1 : Int32) (Br0 : Nat) (k_Fs0 : fh Fs0 18 [(1, .ref Ad1)]) (k_Fs1 : fh Fs1 18 [(0, .int 0)]) (hst : l.stackTraces = false)  : vx_Met l yL_getStatic w_z_L_getStatic ({ frames := 8, cells := 1, slots := 6, locals := 163 }) (va_Pc [.ref Ad0, .int Va0, .int Va1, .ref Br0] (fun U => U.heap.size = sz ∧ Zz (va_A [(Ad0, .inr (14, Fs0)), (Ad1, .inr (13, Fs1))] sz) U ∧ Yy U ∧ Wd dC dI [] (fun _ => True) [(Ad0, .inr (14, Fs0)), (Ad1, .inr (13, Fs1))] U)) (va_Qi (fun (r : Int32) (u : Unit) => (Va0 < 0 ∧ r = 1) ∨ (¬ Va0 < 0 ∧ 0 ≤ Va0 ∧ r = 1)) (fun (u : Unit) t => Wd dC dI [] (va_A [(Ad0, .inr (14, Fs0)), (Ad1, .inr (13, Fs1))] sz) [] t) (va_A [(Ad0, .inr (14, Fs0)), (Ad1, .inr (13, Fs1))] sz)) (vx_X (fun _ : Unit => True) (fun E _ _ => False) (va_A [(Ad0, .inr (14, Fs0)), (Ad1, .inr (13, Fs1))] sz)) 1 6 (va_A [(Ad0, .inr (14, Fs0)), (Ad1, .inr (13, Fs1))] sz) := by
  refine vx_ofWH (cc := cL_getStatic) (maxL := 5) (ret := (some .int)) (by decide) rfl ?_
  intro p e s m args below meth c s₁ B hml hv
  obtain ⟨rfl, hsz, hZ, hY, hP, hK, hD0⟩ := hv
  have hx := B.exec
  have hb := B.bytes
  have hr := B.returns
  have hts := atoms_spec (ws := w_z_L_getStatic) B.pre
  have hown : s.vm.findClass RL = some m.cls := findClass_of_methodNamed B.named
  have hlocks := B.notSynchronized
  have htb := vx_table (x := yL_getStatic) B (hts (.codeWith yL_getStatic cL_getStatic 5 (some .int) [(0, 9, 12, 30)]) (by decide +kernel))
  subst hsz
  have hD := hD0.self (sz := s.heap.size)
  generalize hAe : va_A [(Ad0, .inr (14, Fs0)), (Ad1, .inr (13, Fs1))] s.heap.size = A at hD hZ ⊢
  have hA : ∀ q : Nat, s.heap.size ≤ q → A q := fun q h => by rw [← hAe]; exact Or.inr h
  have hS : va_S A s.heap s.heap [] := va_S.rf
  have hl := lv_entry ([.ref Ad0, .int Va0, .int Va1, .ref Br0]) (n := 5) (Nat.le_of_ble_eq_true rfl)
  rw [lg_entry_eq]
  generalize (lg_sl ([.ref Ad0, .int Va0, .int Va1, .ref Br0]) ++ List.replicate (5 - (lg_sl ([.ref Ad0, .int Va0, .int Va1, .ref Br0])).length) Slot.unset).toArray = ls at hl ⊢
  have hl : lv_has ls 5 [(0, .ref Ad0), (1, .int Va0), (2, .int Va1), (3, .ref Br0)] := hl
  have o_Fs0 := ow_0 k_Fs0
  have o_Fs1 := ow_0 k_Fs1
  refine lv_aload_n hx hb dL_getStatic_0 rfl (lv_at hl 3 rfl) ?_
  refine lv_iconst (v := 0) hx hb dL_getStatic_1 (by decide) ?_
  refine lv_aload_n hx hb dL_getStatic_2 rfl (lv_at hl 0 rfl) ?_
  refine lv_iload_n hx hb dL_getStatic_3 rfl (lv_at hl 1 rfl) ?_
  refine lv_iload_n hx hb dL_getStatic_4 rfl (lv_at hl 2 rfl) ?_
  have hPc := hP.sub (ws' := [(Ad0, .inr (14, Fs0)), (Ad1, .inr (13, Fs1))]) [0, 1] rfl
  have hDc := hD.sub (ws' := [(Ad0, .inr (14, Fs0)), (Ad1, .inr (13, Fs1))]) [0, 1] (by decide) rfl
  have hKc := hK.sub (tys' := []) [] rfl
  have hFc := va_free (wc := [(Ad0, .inr (14, Fs0)), (Ad1, .inr (13, Fs1))]) hD hS hA [0, 1] rfl
  refine vx_calll (vx_runV (As := [.int Va0, .int Va1]) (rest := [.int 0, .ref Br0]) ⟨hx, hb, hml, hown, hts⟩ (z_X11_getStatic l dC dI s.heap.size Ad0 Fs0 Ad1 Fs1 Va0 Va1 (fh_sub o_Fs0.2 [0] rfl) (fh_sub o_Fs1.2 [0] rfl) hst ) (cwV 2 hts g_z_L_getStatic_z_X11_getStatic_43 rfl rfl rfl (by decide +kernel) ⟨Nat.le_of_ble_eq_true rfl, Nat.le_of_ble_eq_true rfl⟩) ⟨fun a U g mk q => by obtain ⟨q0, q1, qZ, qP, qK, qD⟩ := q; exact ⟨q0, q1, Zz_call qZ, qP, va_K.moved (u := U) (U := U.calling g mk a) (Vm.Alike.refl U.vm) qK, qD⟩, va_recv hK hP (ci := 14) (q0 := 0) rfl rfl, fun U hU hW => ⟨rfl, by rw [hU], Zz_go hZ hS hFc hU hW, by rw [hU]; exact hPc, va_K.moved hW.alike hKc, hDc.weaken (fun _ _ _ _ => trivial)⟩⟩ rfl rfl hl.1 rfl (lv_room (Nat.le_of_ble_eq_true rfl)) dL_getStatic_5 ⟨Nat.le_of_ble_eq_true rfl, Nat.le_of_ble_eq_true rfl⟩) hS (fun q _ h => hFc q h) hFc (fun q _ h => hFc q h) (fun E ce q9 u t H1 locs ht hvm hpx hBX hz1 hk1 hS hce hcv hcl => ?_) (fun r101 u t H1 locs ht hvm hw hB hz1 hk1 hS => ?_)
  · rcases hBX with ⟨rfl, c102⟩ | ⟨rfl, c103, c104⟩
    · skip
      obtain ⟨hP, hD⟩ := va_join (wr := []) (w1 := []) hP hD [0, 1] [] rfl rfl (by decide) (by decide) hk1 hFc P0 D0
      have hK := hK.sub (tys' := []) [] rfl
      generalize H1 = H at hP hS hce ⊢
      have hP : va_P (dC, dI) vwCl [] H := hP
      have hD : va_D A [] := hD
      refine vx_catch (own := RL) (name := "java/util/NoSuchElementException") (E := "java/util/NoSuchElementException") hown [] ⟨0, 9, 12, 30⟩ [] (htb.trans rfl) ((fun _ h => nomatch h)) (by decide) (by decide) (hts (.classLink RL 30 "java/util/NoSuchElementException") (by decide +kernel)) (va_Nw.use rfl (hZ.2.2.1 "java/util/NoSuchElementException" (by decide))) hce hcv hcl ?_
      refine W.eq (g2 := F0 m 12 ls [.ref q9]) rfl ?_
      refine W.widen (k := 1) (n := 6) (by omega) (by omega) ?_
      refine lv_astore (lv' := [(4, .ref q9), (0, .ref Ad0), (1, .int Va0), (2, .int Va1), (3, .ref Br0)]) hx hb dL_getStatic_12 hl (by decide) rfl (fun ls hl => ?_)
      refine lv_iconst (v := 1) hx hb dL_getStatic_14 (by decide) ?_
      have hP9 := hP.sub (ws' := []) [] rfl
      have hD9 := hD.sub (ws' := []) [] (by decide) rfl
      have hK9 := hK.sub (tys' := []) [] rfl
      refine vx_ret ?_
      refine W.widen (k := 1) (n := 6) (by decide) (by decide) ?_
      exact W.iret (v := 1) hx hb hr (fun t ht hW => ⟨⟨1, (), rfl, (Or.inl ⟨c102, rfl⟩), by rw [ht]; exact hP9, va_K.moved hW.alike hK9, hD9⟩, hS.F ht⟩) hS.2.2 dL_getStatic_15
    · skip
      obtain ⟨hP, hD⟩ := va_join (wr := []) (w1 := []) hP hD [0, 1] [] rfl rfl (by decide) (by decide) hk1 hFc P0 D0
      have hK := hK.sub (tys' := []) [] rfl
      generalize H1 = H at hP hS hce ⊢
      have hP : va_P (dC, dI) vwCl [] H := hP
      have hD : va_D A [] := hD
      refine vx_catch (own := RL) (name := "java/util/NoSuchElementException") (E := "java/util/NoSuchElementException") hown [] ⟨0, 9, 12, 30⟩ [] (htb.trans rfl) ((fun _ h => nomatch h)) (by decide) (by decide) (hts (.classLink RL 30 "java/util/NoSuchElementException") (by decide +kernel)) (va_Nw.use rfl (hZ.2.2.1 "java/util/NoSuchElementException" (by decide))) hce hcv hcl ?_
      refine W.eq (g2 := F0 m 12 ls [.ref q9]) rfl ?_
      refine W.widen (k := 1) (n := 6) (by omega) (by omega) ?_
      refine lv_astore (lv' := [(4, .ref q9), (0, .ref Ad0), (1, .int Va0), (2, .int Va1), (3, .ref Br0)]) hx hb dL_getStatic_12 hl (by decide) rfl (fun ls hl => ?_)
      refine lv_iconst (v := 1) hx hb dL_getStatic_14 (by decide) ?_
      have hP9 := hP.sub (ws' := []) [] rfl
      have hD9 := hD.sub (ws' := []) [] (by decide) rfl
      have hK9 := hK.sub (tys' := []) [] rfl
      refine vx_ret ?_
      refine W.widen (k := 1) (n := 6) (by decide) (by decide) ?_
      exact W.iret (v := 1) hx hb hr (fun t ht hW => ⟨⟨1, (), rfl, (Or.inr (⟨c103, c104, rfl⟩)), by rw [ht]; exact hP9, va_K.moved hW.alike hK9, hD9⟩, hS.F ht⟩) hS.2.2 dL_getStatic_15
  · exact hw.elim

def l_z_L_swap : List Cond := [.methodLink RL 46 yX11_swap, .instanceMethod yX11_swap, .selects RX11 yX11_swap yX11_swap, .initialized RX11, .classLink RL 30 "java/util/NoSuchElementException", .code yX11_swap cX11_swap 4 (some .int), .fieldLink RX11 28 "HeapWorks" "heap" "LHeapWorks$Heap;", .methodLink RX11 218 yX2_isThere, .instanceMethod yX2_isThere, .selects RX2 yX2_isThere yX2_isThere, .initialized RX2, .classLink RX11 221 "java/util/NoSuchElementException", .initialized "java/util/NoSuchElementException", .code yX2_isThere cX2_isThere 2 (some .boolean), .fieldLink RX2 47 "HeapWorks$Heap" "made" "I"]
def w_z_L_swap : List Cond := .codeWith yL_swap cL_swap 5 (some .int) [(0, 10, 13, 30), (0, 10, 17, 15)] :: (l_z_L_swap ++ ((wsX110 ++ (((vx_at0 RX11 223 "java/util/NoSuchElementException" ["java/lang/RuntimeException", "java/lang/Exception"]).filter goodWord) ++ wsX20))))
theorem in_z_L_swap_X11 : ∀ w ∈ wsX110, w ∈ w_z_L_swap := fun w h => List.mem_cons_of_mem _ (List.mem_append_right _ (List.mem_append_left _ h))
theorem in_z_L_swap_at0_X11_223 : ∀ w ∈ ((vx_at0 RX11 223 "java/util/NoSuchElementException" ["java/lang/RuntimeException", "java/lang/Exception"]).filter goodWord), w ∈ w_z_L_swap := fun w h => List.mem_cons_of_mem _ (List.mem_append_right _ (List.mem_append_right _ (List.mem_append_left _ h)))
theorem in_z_L_swap_X2 : ∀ w ∈ wsX20, w ∈ w_z_L_swap := fun w h => List.mem_cons_of_mem _ (List.mem_append_right _ (List.mem_append_right _ (List.mem_append_right _ (h))))
theorem g_z_L_swap_z_X11_swap_46 : GoodIn w_z_L_swap (wsV RL 46 RX11 yX11_swap w_z_X11_swap) := goodIn_app (goodIn_r (([.methodLink RL 46 yX11_swap, .instanceMethod yX11_swap, .selects RX11 yX11_swap yX11_swap, .initialized RX11] : List Cond)) [1, 2, 3, 4] rfl (by decide +kernel)) (goodIn_ca (goodIn_r (.code yX11_swap cX11_swap 4 (some .int) :: l_z_X11_swap) [6, 7, 8, 9, 10, 11, 12, 13, 14, 15] rfl (by decide +kernel)) (goodIn_app (goodIn_in (in_z_L_swap_X11) gd_X11) (goodIn_app (goodIn_in (in_z_L_swap_at0_X11_223) gd_at0_X11_223) (goodIn_in (in_z_L_swap_X2) gd_X2))))
set_option maxHeartbeats 4000000 in
set_option maxRecDepth 100000 in
theorem z_L_swap (l : Launch) (dC : Nat → ClassId) (dI : Nat → Nat → Nat) (sz : Nat) (Ad0 : Nat) (Fs0 : List Value) (Ad1 : Nat) (Fs1 : List Value) (Va0 : Int32) (Va1 : Int32) (Br0 : Nat) (k_Fs0 : fh Fs0 18 [(2, .ref Ad1)]) (k_Fs1 : fh Fs1 14 [(1, .int 0)]) (hst : l.stackTraces = false)  : vx_Met l yL_swap w_z_L_swap ({ frames := 8, cells := 1, slots := 6, locals := 163 }) (va_Pc [.ref Ad0, .int Va0, .int Va1, .ref Br0] (fun U => U.heap.size = sz ∧ Zz (va_A [(Ad0, .inr (14, Fs0)), (Ad1, .inr (5, Fs1))] sz) U ∧ Yy U ∧ Wd dC dI [] (fun _ => True) [(Ad0, .inr (14, Fs0)), (Ad1, .inr (5, Fs1))] U)) (va_Qi (fun (r : Int32) (u : Unit) => (Va0 < 0 ∧ r = 1) ∨ (¬ Va0 < 0 ∧ 0 ≤ Va0 ∧ r = 1)) (fun (u : Unit) t => Wd dC dI [] (va_A [(Ad0, .inr (14, Fs0)), (Ad1, .inr (5, Fs1))] sz) [] t) (va_A [(Ad0, .inr (14, Fs0)), (Ad1, .inr (5, Fs1))] sz)) (vx_X (fun _ : Unit => True) (fun E _ _ => False) (va_A [(Ad0, .inr (14, Fs0)), (Ad1, .inr (5, Fs1))] sz)) 1 6 (va_A [(Ad0, .inr (14, Fs0)), (Ad1, .inr (5, Fs1))] sz) := by
  refine vx_ofWH (cc := cL_swap) (maxL := 5) (ret := (some .int)) (by decide) rfl ?_
  intro p e s m args below meth c s₁ B hml hv
  obtain ⟨rfl, hsz, hZ, hY, hP, hK, hD0⟩ := hv
  have hx := B.exec
  have hb := B.bytes
  have hr := B.returns
  have hts := atoms_spec (ws := w_z_L_swap) B.pre
  have hown : s.vm.findClass RL = some m.cls := findClass_of_methodNamed B.named
  have hlocks := B.notSynchronized
  have htb := vx_table (x := yL_swap) B (hts (.codeWith yL_swap cL_swap 5 (some .int) [(0, 10, 13, 30), (0, 10, 17, 15)]) (by decide +kernel))
  subst hsz
  have hD := hD0.self (sz := s.heap.size)
  generalize hAe : va_A [(Ad0, .inr (14, Fs0)), (Ad1, .inr (5, Fs1))] s.heap.size = A at hD hZ ⊢
  have hA : ∀ q : Nat, s.heap.size ≤ q → A q := fun q h => by rw [← hAe]; exact Or.inr h
  have hS : va_S A s.heap s.heap [] := va_S.rf
  have hl := lv_entry ([.ref Ad0, .int Va0, .int Va1, .ref Br0]) (n := 5) (Nat.le_of_ble_eq_true rfl)
  rw [lg_entry_eq]
  generalize (lg_sl ([.ref Ad0, .int Va0, .int Va1, .ref Br0]) ++ List.replicate (5 - (lg_sl ([.ref Ad0, .int Va0, .int Va1, .ref Br0])).length) Slot.unset).toArray = ls at hl ⊢
  have hl : lv_has ls 5 [(0, .ref Ad0), (1, .int Va0), (2, .int Va1), (3, .ref Br0)] := hl
  have o_Fs0 := ow_0 k_Fs0
  have o_Fs1 := ow_0 k_Fs1
  refine lv_aload_n hx hb dL_swap_0 rfl (lv_at hl 3 rfl) ?_
  refine lv_iconst (v := 0) hx hb dL_swap_1 (by decide) ?_
  refine lv_aload_n hx hb dL_swap_2 rfl (lv_at hl 0 rfl) ?_
  refine lv_iload_n hx hb dL_swap_3 rfl (lv_at hl 1 rfl) ?_
  refine lv_iload_n hx hb dL_swap_4 rfl (lv_at hl 2 rfl) ?_
  have hPc := hP.sub (ws' := [(Ad0, .inr (14, Fs0)), (Ad1, .inr (5, Fs1))]) [0, 1] rfl
  have hDc := hD.sub (ws' := [(Ad0, .inr (14, Fs0)), (Ad1, .inr (5, Fs1))]) [0, 1] (by decide) rfl
  have hKc := hK.sub (tys' := []) [] rfl
  have hFc := va_free (wc := [(Ad0, .inr (14, Fs0)), (Ad1, .inr (5, Fs1))]) hD hS hA [0, 1] rfl
  refine vx_calli (vx_runV (As := [.int Va0, .int Va1]) (rest := [.int 0, .ref Br0]) ⟨hx, hb, hml, hown, hts⟩ (z_X11_swap l dC dI s.heap.size Ad0 Fs0 Ad1 Fs1 Va0 Va1 (fh_sub o_Fs0.2 [0] rfl) (fh_sub o_Fs1.2 [0] rfl) hst ) (cwV 2 hts g_z_L_swap_z_X11_swap_46 rfl rfl rfl (by decide +kernel) ⟨Nat.le_of_ble_eq_true rfl, Nat.le_of_ble_eq_true rfl⟩) ⟨fun a U g mk q => by obtain ⟨q0, q1, qZ, qP, qK, qD⟩ := q; exact ⟨q0, q1, Zz_call qZ, qP, va_K.moved (u := U) (U := U.calling g mk a) (Vm.Alike.refl U.vm) qK, qD⟩, va_recv hK hP (ci := 14) (q0 := 0) rfl rfl, fun U hU hW => ⟨rfl, by rw [hU], Zz_go hZ hS hFc hU hW, by rw [hU]; exact hPc, va_K.moved hW.alike hKc, hDc.weaken (fun _ _ _ _ => trivial)⟩⟩ rfl rfl hl.1 rfl (lv_room (Nat.le_of_ble_eq_true rfl)) dL_swap_5 ⟨Nat.le_of_ble_eq_true rfl, Nat.le_of_ble_eq_true rfl⟩) hS (fun q _ h => hFc q h) hFc (fun q _ h => hFc q h) (fun E ce q9 u t H1 locs ht hvm hpx hBX hz1 hk1 hS hce hcv hcl => ?_) (fun r101 u t H1 locs ht hvm hw hB hz1 hk1 hS => ?_)
  · rcases hBX with ⟨rfl, c102⟩ | ⟨rfl, c103, c104⟩
    · skip
      obtain ⟨hP, hD⟩ := va_join (wr := []) (w1 := []) hP hD [0, 1] [] rfl rfl (by decide) (by decide) hk1 hFc P0 D0
      have hK := hK.sub (tys' := []) [] rfl
      generalize H1 = H at hP hS hce ⊢
      have hP : va_P (dC, dI) vwCl [] H := hP
      have hD : va_D A [] := hD
      refine vx_catch (own := RL) (name := "java/util/NoSuchElementException") (E := "java/util/NoSuchElementException") hown [] ⟨0, 10, 13, 30⟩ [⟨0, 10, 17, 15⟩] (htb.trans rfl) ((fun _ h => nomatch h)) (by decide) (by decide) (hts (.classLink RL 30 "java/util/NoSuchElementException") (by decide +kernel)) (va_Nw.use rfl (hZ.2.2.1 "java/util/NoSuchElementException" (by decide))) hce hcv hcl ?_
      refine W.eq (g2 := F0 m 13 ls [.ref q9]) rfl ?_
      refine W.widen (k := 1) (n := 6) (by omega) (by omega) ?_
      refine lv_astore (lv' := [(4, .ref q9), (0, .ref Ad0), (1, .int Va0), (2, .int Va1), (3, .ref Br0)]) hx hb dL_swap_13 hl (by decide) rfl (fun ls hl => ?_)
      refine lv_iconst (v := 1) hx hb dL_swap_15 (by decide) ?_
      have hP9 := hP.sub (ws' := []) [] rfl
      have hD9 := hD.sub (ws' := []) [] (by decide) rfl
      have hK9 := hK.sub (tys' := []) [] rfl
      refine vx_ret ?_
      refine W.widen (k := 1) (n := 6) (by decide) (by decide) ?_
      exact W.iret (v := 1) hx hb hr (fun t ht hW => ⟨⟨1, (), rfl, (Or.inl ⟨c102, rfl⟩), by rw [ht]; exact hP9, va_K.moved hW.alike hK9, hD9⟩, hS.F ht⟩) hS.2.2 dL_swap_16
    · skip
      obtain ⟨hP, hD⟩ := va_join (wr := []) (w1 := []) hP hD [0, 1] [] rfl rfl (by decide) (by decide) hk1 hFc P0 D0
      have hK := hK.sub (tys' := []) [] rfl
      generalize H1 = H at hP hS hce ⊢
      have hP : va_P (dC, dI) vwCl [] H := hP
      have hD : va_D A [] := hD
      refine vx_catch (own := RL) (name := "java/util/NoSuchElementException") (E := "java/util/NoSuchElementException") hown [] ⟨0, 10, 13, 30⟩ [⟨0, 10, 17, 15⟩] (htb.trans rfl) ((fun _ h => nomatch h)) (by decide) (by decide) (hts (.classLink RL 30 "java/util/NoSuchElementException") (by decide +kernel)) (va_Nw.use rfl (hZ.2.2.1 "java/util/NoSuchElementException" (by decide))) hce hcv hcl ?_
      refine W.eq (g2 := F0 m 13 ls [.ref q9]) rfl ?_
      refine W.widen (k := 1) (n := 6) (by omega) (by omega) ?_
      refine lv_astore (lv' := [(4, .ref q9), (0, .ref Ad0), (1, .int Va0), (2, .int Va1), (3, .ref Br0)]) hx hb dL_swap_13 hl (by decide) rfl (fun ls hl => ?_)
      refine lv_iconst (v := 1) hx hb dL_swap_15 (by decide) ?_
      have hP9 := hP.sub (ws' := []) [] rfl
      have hD9 := hD.sub (ws' := []) [] (by decide) rfl
      have hK9 := hK.sub (tys' := []) [] rfl
      refine vx_ret ?_
      refine W.widen (k := 1) (n := 6) (by decide) (by decide) ?_
      exact W.iret (v := 1) hx hb hr (fun t ht hW => ⟨⟨1, (), rfl, (Or.inr (⟨c103, c104, rfl⟩)), by rw [ht]; exact hP9, va_K.moved hW.alike hK9, hD9⟩, hS.F ht⟩) hS.2.2 dL_swap_16
  · exact hw.elim

def l_z_L_copy : List Cond := [.methodLink RL 49 yX11_copy, .instanceMethod yX11_copy, .selects RX11 yX11_copy yX11_copy, .initialized RX11, .classLink RL 30 "java/util/NoSuchElementException", .code yX11_copy cX11_copy 4 (some .int), .fieldLink RX11 28 "HeapWorks" "heap" "LHeapWorks$Heap;", .methodLink RX11 218 yX2_isThere, .instanceMethod yX2_isThere, .selects RX2 yX2_isThere yX2_isThere, .initialized RX2, .classLink RX11 221 "java/util/NoSuchElementException", .initialized "java/util/NoSuchElementException", .code yX2_isThere cX2_isThere 2 (some .boolean), .fieldLink RX2 47 "HeapWorks$Heap" "made" "I"]
def w_z_L_copy : List Cond := .codeWith yL_copy cL_copy 5 (some .int) [(0, 10, 13, 30), (0, 10, 17, 15), (0, 10, 21, 17)] :: (l_z_L_copy ++ ((wsX110 ++ (((vx_at0 RX11 223 "java/util/NoSuchElementException" ["java/lang/RuntimeException", "java/lang/Exception"]).filter goodWord) ++ wsX20))))
theorem in_z_L_copy_X11 : ∀ w ∈ wsX110, w ∈ w_z_L_copy := fun w h => List.mem_cons_of_mem _ (List.mem_append_right _ (List.mem_append_left _ h))
theorem in_z_L_copy_at0_X11_223 : ∀ w ∈ ((vx_at0 RX11 223 "java/util/NoSuchElementException" ["java/lang/RuntimeException", "java/lang/Exception"]).filter goodWord), w ∈ w_z_L_copy := fun w h => List.mem_cons_of_mem _ (List.mem_append_right _ (List.mem_append_right _ (List.mem_append_left _ h)))
theorem in_z_L_copy_X2 : ∀ w ∈ wsX20, w ∈ w_z_L_copy := fun w h => List.mem_cons_of_mem _ (List.mem_append_right _ (List.mem_append_right _ (List.mem_append_right _ (h))))
theorem g_z_L_copy_z_X11_copy_49 : GoodIn w_z_L_copy (wsV RL 49 RX11 yX11_copy w_z_X11_copy) := goodIn_app (goodIn_r (([.methodLink RL 49 yX11_copy, .instanceMethod yX11_copy, .selects RX11 yX11_copy yX11_copy, .initialized RX11] : List Cond)) [1, 2, 3, 4] rfl (by decide +kernel)) (goodIn_ca (goodIn_r (.code yX11_copy cX11_copy 4 (some .int) :: l_z_X11_copy) [6, 7, 8, 9, 10, 11, 12, 13, 14, 15] rfl (by decide +kernel)) (goodIn_app (goodIn_in (in_z_L_copy_X11) gd_X11) (goodIn_app (goodIn_in (in_z_L_copy_at0_X11_223) gd_at0_X11_223) (goodIn_in (in_z_L_copy_X2) gd_X2))))
set_option maxHeartbeats 4000000 in
set_option maxRecDepth 100000 in
theorem z_L_copy (l : Launch) (dC : Nat → ClassId) (dI : Nat → Nat → Nat) (sz : Nat) (Ad0 : Nat) (Fs0 : List Value) (Ad1 : Nat) (Fs1 : List Value) (Va0 : Int32) (Va1 : Int32) (Br0 : Nat) (k_Fs0 : fh Fs0 18 [(2, .ref Ad1)]) (k_Fs1 : fh Fs1 14 [(1, .int 0)]) (hst : l.stackTraces = false)  : vx_Met l yL_copy w_z_L_copy ({ frames := 8, cells := 1, slots := 6, locals := 163 }) (va_Pc [.ref Ad0, .int Va0, .int Va1, .ref Br0] (fun U => U.heap.size = sz ∧ Zz (va_A [(Ad0, .inr (14, Fs0)), (Ad1, .inr (5, Fs1))] sz) U ∧ Yy U ∧ Wd dC dI [] (fun _ => True) [(Ad0, .inr (14, Fs0)), (Ad1, .inr (5, Fs1))] U)) (va_Qi (fun (r : Int32) (u : Unit) => (Va0 < 0 ∧ r = 1) ∨ (¬ Va0 < 0 ∧ 0 ≤ Va0 ∧ r = 1)) (fun (u : Unit) t => Wd dC dI [] (va_A [(Ad0, .inr (14, Fs0)), (Ad1, .inr (5, Fs1))] sz) [] t) (va_A [(Ad0, .inr (14, Fs0)), (Ad1, .inr (5, Fs1))] sz)) (vx_X (fun _ : Unit => True) (fun E _ _ => False) (va_A [(Ad0, .inr (14, Fs0)), (Ad1, .inr (5, Fs1))] sz)) 1 6 (va_A [(Ad0, .inr (14, Fs0)), (Ad1, .inr (5, Fs1))] sz) := by
  refine vx_ofWH (cc := cL_copy) (maxL := 5) (ret := (some .int)) (by decide) rfl ?_
  intro p e s m args below meth c s₁ B hml hv
  obtain ⟨rfl, hsz, hZ, hY, hP, hK, hD0⟩ := hv
  have hx := B.exec
  have hb := B.bytes
  have hr := B.returns
  have hts := atoms_spec (ws := w_z_L_copy) B.pre
  have hown : s.vm.findClass RL = some m.cls := findClass_of_methodNamed B.named
  have hlocks := B.notSynchronized
  have htb := vx_table (x := yL_copy) B (hts (.codeWith yL_copy cL_copy 5 (some .int) [(0, 10, 13, 30), (0, 10, 17, 15), (0, 10, 21, 17)]) (by decide +kernel))
  subst hsz
  have hD := hD0.self (sz := s.heap.size)
  generalize hAe : va_A [(Ad0, .inr (14, Fs0)), (Ad1, .inr (5, Fs1))] s.heap.size = A at hD hZ ⊢
  have hA : ∀ q : Nat, s.heap.size ≤ q → A q := fun q h => by rw [← hAe]; exact Or.inr h
  have hS : va_S A s.heap s.heap [] := va_S.rf
  have hl := lv_entry ([.ref Ad0, .int Va0, .int Va1, .ref Br0]) (n := 5) (Nat.le_of_ble_eq_true rfl)
  rw [lg_entry_eq]
  generalize (lg_sl ([.ref Ad0, .int Va0, .int Va1, .ref Br0]) ++ List.replicate (5 - (lg_sl ([.ref Ad0, .int Va0, .int Va1, .ref Br0])).length) Slot.unset).toArray = ls at hl ⊢
  have hl : lv_has ls 5 [(0, .ref Ad0), (1, .int Va0), (2, .int Va1), (3, .ref Br0)] := hl
  have o_Fs0 := ow_0 k_Fs0
  have o_Fs1 := ow_0 k_Fs1
  refine lv_aload_n hx hb dL_copy_0 rfl (lv_at hl 3 rfl) ?_
  refine lv_iconst (v := 0) hx hb dL_copy_1 (by decide) ?_
  refine lv_aload_n hx hb dL_copy_2 rfl (lv_at hl 0 rfl) ?_
  refine lv_iload_n hx hb dL_copy_3 rfl (lv_at hl 1 rfl) ?_
  refine lv_iload_n hx hb dL_copy_4 rfl (lv_at hl 2 rfl) ?_
  have hPc := hP.sub (ws' := [(Ad0, .inr (14, Fs0)), (Ad1, .inr (5, Fs1))]) [0, 1] rfl
  have hDc := hD.sub (ws' := [(Ad0, .inr (14, Fs0)), (Ad1, .inr (5, Fs1))]) [0, 1] (by decide) rfl
  have hKc := hK.sub (tys' := []) [] rfl
  have hFc := va_free (wc := [(Ad0, .inr (14, Fs0)), (Ad1, .inr (5, Fs1))]) hD hS hA [0, 1] rfl
  refine vx_calli (vx_runV (As := [.int Va0, .int Va1]) (rest := [.int 0, .ref Br0]) ⟨hx, hb, hml, hown, hts⟩ (z_X11_copy l dC dI s.heap.size Ad0 Fs0 Ad1 Fs1 Va0 Va1 (fh_sub o_Fs0.2 [0] rfl) (fh_sub o_Fs1.2 [0] rfl) hst ) (cwV 2 hts g_z_L_copy_z_X11_copy_49 rfl rfl rfl (by decide +kernel) ⟨Nat.le_of_ble_eq_true rfl, Nat.le_of_ble_eq_true rfl⟩) ⟨fun a U g mk q => by obtain ⟨q0, q1, qZ, qP, qK, qD⟩ := q; exact ⟨q0, q1, Zz_call qZ, qP, va_K.moved (u := U) (U := U.calling g mk a) (Vm.Alike.refl U.vm) qK, qD⟩, va_recv hK hP (ci := 14) (q0 := 0) rfl rfl, fun U hU hW => ⟨rfl, by rw [hU], Zz_go hZ hS hFc hU hW, by rw [hU]; exact hPc, va_K.moved hW.alike hKc, hDc.weaken (fun _ _ _ _ => trivial)⟩⟩ rfl rfl hl.1 rfl (lv_room (Nat.le_of_ble_eq_true rfl)) dL_copy_5 ⟨Nat.le_of_ble_eq_true rfl, Nat.le_of_ble_eq_true rfl⟩) hS (fun q _ h => hFc q h) hFc (fun q _ h => hFc q h) (fun E ce q9 u t H1 locs ht hvm hpx hBX hz1 hk1 hS hce hcv hcl => ?_) (fun r101 u t H1 locs ht hvm hw hB hz1 hk1 hS => ?_)
  · rcases hBX with ⟨rfl, c102⟩ | ⟨rfl, c103, c104⟩
    · skip
      obtain ⟨hP, hD⟩ := va_join (wr := []) (w1 := []) hP hD [0, 1] [] rfl rfl (by decide) (by decide) hk1 hFc P0 D0
      have hK := hK.sub (tys' := []) [] rfl
      generalize H1 = H at hP hS hce ⊢
      have hP : va_P (dC, dI) vwCl [] H := hP
      have hD : va_D A [] := hD
      refine vx_catch (own := RL) (name := "java/util/NoSuchElementException") (E := "java/util/NoSuchElementException") hown [] ⟨0, 10, 13, 30⟩ [⟨0, 10, 17, 15⟩, ⟨0, 10, 21, 17⟩] (htb.trans rfl) ((fun _ h => nomatch h)) (by decide) (by decide) (hts (.classLink RL 30 "java/util/NoSuchElementException") (by decide +kernel)) (va_Nw.use rfl (hZ.2.2.1 "java/util/NoSuchElementException" (by decide))) hce hcv hcl ?_
      refine W.eq (g2 := F0 m 13 ls [.ref q9]) rfl ?_
      refine W.widen (k := 1) (n := 6) (by omega) (by omega) ?_
      refine lv_astore (lv' := [(4, .ref q9), (0, .ref Ad0), (1, .int Va0), (2, .int Va1), (3, .ref Br0)]) hx hb dL_copy_13 hl (by decide) rfl (fun ls hl => ?_)
      refine lv_iconst (v := 1) hx hb dL_copy_15 (by decide) ?_
      have hP9 := hP.sub (ws' := []) [] rfl
      have hD9 := hD.sub (ws' := []) [] (by decide) rfl
      have hK9 := hK.sub (tys' := []) [] rfl
      refine vx_ret ?_
      refine W.widen (k := 1) (n := 6) (by decide) (by decide) ?_
      exact W.iret (v := 1) hx hb hr (fun t ht hW => ⟨⟨1, (), rfl, (Or.inl ⟨c102, rfl⟩), by rw [ht]; exact hP9, va_K.moved hW.alike hK9, hD9⟩, hS.F ht⟩) hS.2.2 dL_copy_16
    · skip
      obtain ⟨hP, hD⟩ := va_join (wr := []) (w1 := []) hP hD [0, 1] [] rfl rfl (by decide) (by decide) hk1 hFc P0 D0
      have hK := hK.sub (tys' := []) [] rfl
      generalize H1 = H at hP hS hce ⊢
      have hP : va_P (dC, dI) vwCl [] H := hP
      have hD : va_D A [] := hD
      refine vx_catch (own := RL) (name := "java/util/NoSuchElementException") (E := "java/util/NoSuchElementException") hown [] ⟨0, 10, 13, 30⟩ [⟨0, 10, 17, 15⟩, ⟨0, 10, 21, 17⟩] (htb.trans rfl) ((fun _ h => nomatch h)) (by decide) (by decide) (hts (.classLink RL 30 "java/util/NoSuchElementException") (by decide +kernel)) (va_Nw.use rfl (hZ.2.2.1 "java/util/NoSuchElementException" (by decide))) hce hcv hcl ?_
      refine W.eq (g2 := F0 m 13 ls [.ref q9]) rfl ?_
      refine W.widen (k := 1) (n := 6) (by omega) (by omega) ?_
      refine lv_astore (lv' := [(4, .ref q9), (0, .ref Ad0), (1, .int Va0), (2, .int Va1), (3, .ref Br0)]) hx hb dL_copy_13 hl (by decide) rfl (fun ls hl => ?_)
      refine lv_iconst (v := 1) hx hb dL_copy_15 (by decide) ?_
      have hP9 := hP.sub (ws' := []) [] rfl
      have hD9 := hD.sub (ws' := []) [] (by decide) rfl
      have hK9 := hK.sub (tys' := []) [] rfl
      refine vx_ret ?_
      refine W.widen (k := 1) (n := 6) (by decide) (by decide) ?_
      exact W.iret (v := 1) hx hb hr (fun t ht hW => ⟨⟨1, (), rfl, (Or.inr (⟨c103, c104, rfl⟩)), by rw [ht]; exact hP9, va_K.moved hW.alike hK9, hD9⟩, hS.F ht⟩) hS.2.2 dL_copy_16
  · exact hw.elim

def l_z_L_watch : List Cond := [.methodLink RL 52 yX11_watch, .instanceMethod yX11_watch, .selects RX11 yX11_watch yX11_watch, .initialized RX11, .classLink RL 30 "java/util/NoSuchElementException", .code yX11_watch cX11_watch 4 (some .int), .fieldLink RX11 19 "HeapWorks" "types" "LHeapWorks$Types;", .methodLink RX11 188 yX10_hasField_, .instanceMethod yX10_hasField_, .selects RX10 yX10_hasField_ yX10_hasField_, .initialized RX10, .classLink RX11 221 "java/util/NoSuchElementException", .initialized "java/util/NoSuchElementException", .code yX10_hasField_ cX10_hasField_ 3 (some .boolean), .methodLink RX10 69 yX10_isClass, .instanceMethod yX10_isClass, .selects RX10 yX10_isClass yX10_isClass, .code yX10_isClass cX10_isClass 2 (some .boolean), .fieldLink RX10 65 "HeapWorks$Types" "count" "I"]
def w_z_L_watch : List Cond := .codeWith yL_watch cL_watch 6 (some .int) [(0, 12, 15, 30), (0, 12, 19, 15), (0, 12, 23, 17)] :: (l_z_L_watch ++ ((wsX110 ++ (((vx_at0 RX11 223 "java/util/NoSuchElementException" ["java/lang/RuntimeException", "java/lang/Exception"]).filter goodWord) ++ wsX100))))
theorem in_z_L_watch_X11 : ∀ w ∈ wsX110, w ∈ w_z_L_watch := fun w h => List.mem_cons_of_mem _ (List.mem_append_right _ (List.mem_append_left _ h))
theorem in_z_L_watch_at0_X11_223 : ∀ w ∈ ((vx_at0 RX11 223 "java/util/NoSuchElementException" ["java/lang/RuntimeException", "java/lang/Exception"]).filter goodWord), w ∈ w_z_L_watch := fun w h => List.mem_cons_of_mem _ (List.mem_append_right _ (List.mem_append_right _ (List.mem_append_left _ h)))
theorem in_z_L_watch_X10 : ∀ w ∈ wsX100, w ∈ w_z_L_watch := fun w h => List.mem_cons_of_mem _ (List.mem_append_right _ (List.mem_append_right _ (List.mem_append_right _ (h))))
theorem g_z_L_watch_z_X11_watch_52 : GoodIn w_z_L_watch (wsV RL 52 RX11 yX11_watch w_z_X11_watch) := goodIn_app (goodIn_r (([.methodLink RL 52 yX11_watch, .instanceMethod yX11_watch, .selects RX11 yX11_watch yX11_watch, .initialized RX11] : List Cond)) [1, 2, 3, 4] rfl (by decide +kernel)) (goodIn_ca (goodIn_r (.code yX11_watch cX11_watch 4 (some .int) :: l_z_X11_watch) [6, 7, 8, 9, 10, 11, 12, 13, 14, 15, 16, 17, 18, 19] rfl (by decide +kernel)) (goodIn_app (goodIn_in (in_z_L_watch_X11) gd_X11) (goodIn_app (goodIn_in (in_z_L_watch_at0_X11_223) gd_at0_X11_223) (goodIn_in (in_z_L_watch_X10) gd_X10))))
set_option maxHeartbeats 4000000 in
set_option maxRecDepth 100000 in
theorem z_L_watch (l : Launch) (dC : Nat → ClassId) (dI : Nat → Nat → Nat) (sz : Nat) (Ad0 : Nat) (Fs0 : List Value) (Ad1 : Nat) (Fs1 : List Value) (Va0 : Int32) (Va1 : Int32) (Va2 : Int32) (Br0 : Nat) (k_Fs0 : fh Fs0 18 [(1, .ref Ad1)]) (k_Fs1 : fh Fs1 18 [(0, .int 0)]) (hst : l.stackTraces = false)  : vx_Met l yL_watch w_z_L_watch ({ frames := 8, cells := 1, slots := 6, locals := 163 }) (va_Pc [.ref Ad0, .int Va0, .int Va1, .int Va2, .ref Br0] (fun U => U.heap.size = sz ∧ Zz (va_A [(Ad0, .inr (14, Fs0)), (Ad1, .inr (13, Fs1))] sz) U ∧ Yy U ∧ Wd dC dI [] (fun _ => True) [(Ad0, .inr (14, Fs0)), (Ad1, .inr (13, Fs1))] U)) (va_Qi (fun (r : Int32) (u : Unit) => (Va0 < 0 ∧ r = 1) ∨ (¬ Va0 < 0 ∧ 0 ≤ Va0 ∧ r = 1)) (fun (u : Unit) t => Wd dC dI [] (va_A [(Ad0, .inr (14, Fs0)), (Ad1, .inr (13, Fs1))] sz) [] t) (va_A [(Ad0, .inr (14, Fs0)), (Ad1, .inr (13, Fs1))] sz)) (vx_X (fun _ : Unit => True) (fun E _ _ => False) (va_A [(Ad0, .inr (14, Fs0)), (Ad1, .inr (13, Fs1))] sz)) 1 6 (va_A [(Ad0, .inr (14, Fs0)), (Ad1, .inr (13, Fs1))] sz) := by
  refine vx_ofWH (cc := cL_watch) (maxL := 6) (ret := (some .int)) (by decide) rfl ?_
  intro p e s m args below meth c s₁ B hml hv
  obtain ⟨rfl, hsz, hZ, hY, hP, hK, hD0⟩ := hv
  have hx := B.exec
  have hb := B.bytes
  have hr := B.returns
  have hts := atoms_spec (ws := w_z_L_watch) B.pre
  have hown : s.vm.findClass RL = some m.cls := findClass_of_methodNamed B.named
  have hlocks := B.notSynchronized
  have htb := vx_table (x := yL_watch) B (hts (.codeWith yL_watch cL_watch 6 (some .int) [(0, 12, 15, 30), (0, 12, 19, 15), (0, 12, 23, 17)]) (by decide +kernel))
  subst hsz
  have hD := hD0.self (sz := s.heap.size)
  generalize hAe : va_A [(Ad0, .inr (14, Fs0)), (Ad1, .inr (13, Fs1))] s.heap.size = A at hD hZ ⊢
  have hA : ∀ q : Nat, s.heap.size ≤ q → A q := fun q h => by rw [← hAe]; exact Or.inr h
  have hS : va_S A s.heap s.heap [] := va_S.rf
  have hl := lv_entry ([.ref Ad0, .int Va0, .int Va1, .int Va2, .ref Br0]) (n := 6) (Nat.le_of_ble_eq_true rfl)
  rw [lg_entry_eq]
  generalize (lg_sl ([.ref Ad0, .int Va0, .int Va1, .int Va2, .ref Br0]) ++ List.replicate (6 - (lg_sl ([.ref Ad0, .int Va0, .int Va1, .int Va2, .ref Br0])).length) Slot.unset).toArray = ls at hl ⊢
  have hl : lv_has ls 6 [(0, .ref Ad0), (1, .int Va0), (2, .int Va1), (3, .int Va2), (4, .ref Br0)] := hl
  have o_Fs0 := ow_0 k_Fs0
  have o_Fs1 := ow_0 k_Fs1
  refine lv_aload hx hb dL_watch_0 (lv_at hl 4 rfl) ?_
  refine lv_iconst (v := 0) hx hb dL_watch_2 (by decide) ?_
  refine lv_aload_n hx hb dL_watch_3 rfl (lv_at hl 0 rfl) ?_
  refine lv_iload_n hx hb dL_watch_4 rfl (lv_at hl 1 rfl) ?_
  refine lv_iload_n hx hb dL_watch_5 rfl (lv_at hl 2 rfl) ?_
  refine lv_iload_n hx hb dL_watch_6 rfl (lv_at hl 3 rfl) ?_
  have hPc := hP.sub (ws' := [(Ad0, .inr (14, Fs0)), (Ad1, .inr (13, Fs1))]) [0, 1] rfl
  have hDc := hD.sub (ws' := [(Ad0, .inr (14, Fs0)), (Ad1, .inr (13, Fs1))]) [0, 1] (by decide) rfl
  have hKc := hK.sub (tys' := []) [] rfl
  have hFc := va_free (wc := [(Ad0, .inr (14, Fs0)), (Ad1, .inr (13, Fs1))]) hD hS hA [0, 1] rfl
  refine vx_calli (vx_runV (As := [.int Va0, .int Va1, .int Va2]) (rest := [.int 0, .ref Br0]) ⟨hx, hb, hml, hown, hts⟩ (z_X11_watch l dC dI s.heap.size Ad0 Fs0 Ad1 Fs1 Va0 Va1 Va2 (fh_sub o_Fs0.2 [0] rfl) (fh_sub o_Fs1.2 [0] rfl) hst ) (cwV 3 hts g_z_L_watch_z_X11_watch_52 rfl rfl rfl (by decide +kernel) ⟨Nat.le_of_ble_eq_true rfl, Nat.le_of_ble_eq_true rfl⟩) ⟨fun a U g mk q => by obtain ⟨q0, q1, qZ, qP, qK, qD⟩ := q; exact ⟨q0, q1, Zz_call qZ, qP, va_K.moved (u := U) (U := U.calling g mk a) (Vm.Alike.refl U.vm) qK, qD⟩, va_recv hK hP (ci := 14) (q0 := 0) rfl rfl, fun U hU hW => ⟨rfl, by rw [hU], Zz_go hZ hS hFc hU hW, by rw [hU]; exact hPc, va_K.moved hW.alike hKc, hDc.weaken (fun _ _ _ _ => trivial)⟩⟩ rfl rfl hl.1 rfl (lv_room (Nat.le_of_ble_eq_true rfl)) dL_watch_7 ⟨Nat.le_of_ble_eq_true rfl, Nat.le_of_ble_eq_true rfl⟩) hS (fun q _ h => hFc q h) hFc (fun q _ h => hFc q h) (fun E ce q9 u t H1 locs ht hvm hpx hBX hz1 hk1 hS hce hcv hcl => ?_) (fun r101 u t H1 locs ht hvm hw hB hz1 hk1 hS => ?_)
  · rcases hBX with ⟨rfl, c102⟩ | ⟨rfl, c103, c104⟩
    · skip
      obtain ⟨hP, hD⟩ := va_join (wr := []) (w1 := []) hP hD [0, 1] [] rfl rfl (by decide) (by decide) hk1 hFc P0 D0
      have hK := hK.sub (tys' := []) [] rfl
      generalize H1 = H at hP hS hce ⊢
      have hP : va_P (dC, dI) vwCl [] H := hP
      have hD : va_D A [] := hD
      refine vx_catch (own := RL) (name := "java/util/NoSuchElementException") (E := "java/util/NoSuchElementException") hown [] ⟨0, 12, 15, 30⟩ [⟨0, 12, 19, 15⟩, ⟨0, 12, 23, 17⟩] (htb.trans rfl) ((fun _ h => nomatch h)) (by decide) (by decide) (hts (.classLink RL 30 "java/util/NoSuchElementException") (by decide +kernel)) (va_Nw.use rfl (hZ.2.2.1 "java/util/NoSuchElementException" (by decide))) hce hcv hcl ?_
      refine W.eq (g2 := F0 m 15 ls [.ref q9]) rfl ?_
      refine W.widen (k := 1) (n := 6) (by omega) (by omega) ?_
      refine lv_astore (lv' := [(5, .ref q9), (0, .ref Ad0), (1, .int Va0), (2, .int Va1), (3, .int Va2), (4, .ref Br0)]) hx hb dL_watch_15 hl (by decide) rfl (fun ls hl => ?_)
      refine lv_iconst (v := 1) hx hb dL_watch_17 (by decide) ?_
      have hP9 := hP.sub (ws' := []) [] rfl
      have hD9 := hD.sub (ws' := []) [] (by decide) rfl
      have hK9 := hK.sub (tys' := []) [] rfl
      refine vx_ret ?_
      refine W.widen (k := 1) (n := 6) (by decide) (by decide) ?_
      exact W.iret (v := 1) hx hb hr (fun t ht hW => ⟨⟨1, (), rfl, (Or.inl ⟨c102, rfl⟩), by rw [ht]; exact hP9, va_K.moved hW.alike hK9, hD9⟩, hS.F ht⟩) hS.2.2 dL_watch_18
    · skip
      obtain ⟨hP, hD⟩ := va_join (wr := []) (w1 := []) hP hD [0, 1] [] rfl rfl (by decide) (by decide) hk1 hFc P0 D0
      have hK := hK.sub (tys' := []) [] rfl
      generalize H1 = H at hP hS hce ⊢
      have hP : va_P (dC, dI) vwCl [] H := hP
      have hD : va_D A [] := hD
      refine vx_catch (own := RL) (name := "java/util/NoSuchElementException") (E := "java/util/NoSuchElementException") hown [] ⟨0, 12, 15, 30⟩ [⟨0, 12, 19, 15⟩, ⟨0, 12, 23, 17⟩] (htb.trans rfl) ((fun _ h => nomatch h)) (by decide) (by decide) (hts (.classLink RL 30 "java/util/NoSuchElementException") (by decide +kernel)) (va_Nw.use rfl (hZ.2.2.1 "java/util/NoSuchElementException" (by decide))) hce hcv hcl ?_
      refine W.eq (g2 := F0 m 15 ls [.ref q9]) rfl ?_
      refine W.widen (k := 1) (n := 6) (by omega) (by omega) ?_
      refine lv_astore (lv' := [(5, .ref q9), (0, .ref Ad0), (1, .int Va0), (2, .int Va1), (3, .int Va2), (4, .ref Br0)]) hx hb dL_watch_15 hl (by decide) rfl (fun ls hl => ?_)
      refine lv_iconst (v := 1) hx hb dL_watch_17 (by decide) ?_
      have hP9 := hP.sub (ws' := []) [] rfl
      have hD9 := hD.sub (ws' := []) [] (by decide) rfl
      have hK9 := hK.sub (tys' := []) [] rfl
      refine vx_ret ?_
      refine W.widen (k := 1) (n := 6) (by decide) (by decide) ?_
      exact W.iret (v := 1) hx hb hr (fun t ht hW => ⟨⟨1, (), rfl, (Or.inr (⟨c103, c104, rfl⟩)), by rw [ht]; exact hP9, va_K.moved hW.alike hK9, hD9⟩, hS.F ht⟩) hS.2.2 dL_watch_18
  · exact hw.elim

def l_z_L_row : List Cond := [.methodLink RL 56 yX11_row, .instanceMethod yX11_row, .selects RX11 yX11_row yX11_row, .initialized RX11, .classLink RL 30 "java/util/NoSuchElementException", .code yX11_row cX11_row 4 (some .long), .classLink RX11 221 "java/util/NoSuchElementException", .initialized "java/util/NoSuchElementException", .methodLink RX11 319 yX11_rows, .instanceMethod yX11_rows, .selects RX11 yX11_rows yX11_rows, .code yX11_rows cX11_rows 2 (some .int), .fieldLink RX11 35 "HeapWorks" "journal" "LHeapWorks$Journal;", .fieldLink RX11 309 "HeapWorks$Journal" "watches" "I"]
def w_z_L_row : List Cond := .codeWith yL_row cL_row 6 (some .int) [(0, 11, 14, 30)] :: (l_z_L_row ++ ((((vx_at0 RX11 223 "java/util/NoSuchElementException" ["java/lang/RuntimeException", "java/lang/Exception"]).filter goodWord) ++ (wsX110 ++ wsX30))))
theorem in_z_L_row_at0_X11_223 : ∀ w ∈ ((vx_at0 RX11 223 "java/util/NoSuchElementException" ["java/lang/RuntimeException", "java/lang/Exception"]).filter goodWord), w ∈ w_z_L_row := fun w h => List.mem_cons_of_mem _ (List.mem_append_right _ (List.mem_append_left _ h))
theorem in_z_L_row_X11 : ∀ w ∈ wsX110, w ∈ w_z_L_row := fun w h => List.mem_cons_of_mem _ (List.mem_append_right _ (List.mem_append_right _ (List.mem_append_left _ h)))
theorem in_z_L_row_X3 : ∀ w ∈ wsX30, w ∈ w_z_L_row := fun w h => List.mem_cons_of_mem _ (List.mem_append_right _ (List.mem_append_right _ (List.mem_append_right _ (h))))
theorem g_z_L_row_z_X11_row_56 : GoodIn w_z_L_row (wsV RL 56 RX11 yX11_row w_z_X11_row) := goodIn_app (goodIn_r (([.methodLink RL 56 yX11_row, .instanceMethod yX11_row, .selects RX11 yX11_row yX11_row, .initialized RX11] : List Cond)) [1, 2, 3, 4] rfl (by decide +kernel)) (goodIn_ca (goodIn_r (.code yX11_row cX11_row 4 (some .long) :: l_z_X11_row) [6, 7, 8, 9, 10, 11, 4, 12, 13, 14] rfl (by decide +kernel)) (goodIn_app (goodIn_in (in_z_L_row_at0_X11_223) gd_at0_X11_223) (goodIn_app (goodIn_in (in_z_L_row_X11) gd_X11) (goodIn_in (in_z_L_row_X3) gd_X3))))
set_option maxHeartbeats 4000000 in
set_option maxRecDepth 100000 in
theorem z_L_row (l : Launch) (dC : Nat → ClassId) (dI : Nat → Nat → Nat) (sz : Nat) (Ad0 : Nat) (Fs0 : List Value) (Ad1 : Nat) (Fs1 : List Value) (Va0 : Int32) (Va1 : Int32) (Va2 : Int32) (Br0 : Nat) (k_Fs0 : fh Fs0 18 [(3, .ref Ad1)]) (k_Fs1 : fh Fs1 13 [(7, .int 0)]) (hst : l.stackTraces = false)  : vx_Met l yL_row w_z_L_row ({ frames := 8, cells := 1, slots := 6, locals := 163 }) (va_Pc [.ref Ad0, .int Va0, .int Va1, .int Va2, .ref Br0] (fun U => U.heap.size = sz ∧ Zz (va_A [(Ad0, .inr (14, Fs0)), (Ad1, .inr (6, Fs1))] sz) U ∧ Yy U ∧ Wd dC dI [] (fun _ => True) [(Ad0, .inr (14, Fs0)), (Ad1, .inr (6, Fs1))] U)) (va_Qi (fun (r : Int32) (u : Unit) => (Va1 < 0 ∧ r = 1) ∨ (¬ Va1 < 0 ∧ Va0 < 0 ∧ (-1) ≤ Va1 ∧ r = 1) ∨ (¬ Va1 < 0 ∧ ¬ Va0 < 0 ∧ 0 ≤ Va0 ∧ (-1) ≤ Va1 ∧ r = 1)) (fun (u : Unit) t => Wd dC dI [] (va_A [(Ad0, .inr (14, Fs0)), (Ad1, .inr (6, Fs1))] sz) [] t) (va_A [(Ad0, .inr (14, Fs0)), (Ad1, .inr (6, Fs1))] sz)) (vx_X (fun _ : Unit => True) (fun E _ _ => False) (va_A [(Ad0, .inr (14, Fs0)), (Ad1, .inr (6, Fs1))] sz)) 1 6 (va_A [(Ad0, .inr (14, Fs0)), (Ad1, .inr (6, Fs1))] sz) := by
  refine vx_ofWH (cc := cL_row) (maxL := 6) (ret := (some .int)) (by decide) rfl ?_
  intro p e s m args below meth c s₁ B hml hv
  obtain ⟨rfl, hsz, hZ, hY, hP, hK, hD0⟩ := hv
  have hx := B.exec
  have hb := B.bytes
  have hr := B.returns
  have hts := atoms_spec (ws := w_z_L_row) B.pre
  have hown : s.vm.findClass RL = some m.cls := findClass_of_methodNamed B.named
  have hlocks := B.notSynchronized
  have htb := vx_table (x := yL_row) B (hts (.codeWith yL_row cL_row 6 (some .int) [(0, 11, 14, 30)]) (by decide +kernel))
  subst hsz
  have hD := hD0.self (sz := s.heap.size)
  generalize hAe : va_A [(Ad0, .inr (14, Fs0)), (Ad1, .inr (6, Fs1))] s.heap.size = A at hD hZ ⊢
  have hA : ∀ q : Nat, s.heap.size ≤ q → A q := fun q h => by rw [← hAe]; exact Or.inr h
  have hS : va_S A s.heap s.heap [] := va_S.rf
  have hl := lv_entry ([.ref Ad0, .int Va0, .int Va1, .int Va2, .ref Br0]) (n := 6) (Nat.le_of_ble_eq_true rfl)
  rw [lg_entry_eq]
  generalize (lg_sl ([.ref Ad0, .int Va0, .int Va1, .int Va2, .ref Br0]) ++ List.replicate (6 - (lg_sl ([.ref Ad0, .int Va0, .int Va1, .int Va2, .ref Br0])).length) Slot.unset).toArray = ls at hl ⊢
  have hl : lv_has ls 6 [(0, .ref Ad0), (1, .int Va0), (2, .int Va1), (3, .int Va2), (4, .ref Br0)] := hl
  have o_Fs0 := ow_0 k_Fs0
  have o_Fs1 := ow_0 k_Fs1
  refine lv_aload hx hb dL_row_0 (lv_at hl 4 rfl) ?_
  refine lv_iconst (v := 0) hx hb dL_row_2 (by decide) ?_
  refine lv_aload_n hx hb dL_row_3 rfl (lv_at hl 0 rfl) ?_
  refine lv_iload_n hx hb dL_row_4 rfl (lv_at hl 1 rfl) ?_
  refine lv_iload_n hx hb dL_row_5 rfl (lv_at hl 2 rfl) ?_
  refine lv_iload_n hx hb dL_row_6 rfl (lv_at hl 3 rfl) ?_
  have hPc := hP.sub (ws' := [(Ad0, .inr (14, Fs0)), (Ad1, .inr (6, Fs1))]) [0, 1] rfl
  have hDc := hD.sub (ws' := [(Ad0, .inr (14, Fs0)), (Ad1, .inr (6, Fs1))]) [0, 1] (by decide) rfl
  have hKc := hK.sub (tys' := []) [] rfl
  have hFc := va_free (wc := [(Ad0, .inr (14, Fs0)), (Ad1, .inr (6, Fs1))]) hD hS hA [0, 1] rfl
  refine vx_calll (vx_runV (As := [.int Va0, .int Va1, .int Va2]) (rest := [.int 0, .ref Br0]) ⟨hx, hb, hml, hown, hts⟩ (z_X11_row l dC dI s.heap.size Ad0 Fs0 Ad1 Fs1 Va0 Va1 Va2 (fh_sub o_Fs0.2 [0] rfl) (fh_sub o_Fs1.2 [0] rfl) hst ) (cwV 3 hts g_z_L_row_z_X11_row_56 rfl rfl rfl (by decide +kernel) ⟨Nat.le_of_ble_eq_true rfl, Nat.le_of_ble_eq_true rfl⟩) ⟨fun a U g mk q => by obtain ⟨q0, q1, qZ, qP, qK, qD⟩ := q; exact ⟨q0, q1, Zz_call qZ, qP, va_K.moved (u := U) (U := U.calling g mk a) (Vm.Alike.refl U.vm) qK, qD⟩, va_recv hK hP (ci := 14) (q0 := 0) rfl rfl, fun U hU hW => ⟨rfl, by rw [hU], Zz_go hZ hS hFc hU hW, by rw [hU]; exact hPc, va_K.moved hW.alike hKc, hDc.weaken (fun _ _ _ _ => trivial)⟩⟩ rfl rfl hl.1 rfl (lv_room (Nat.le_of_ble_eq_true rfl)) dL_row_7 ⟨Nat.le_of_ble_eq_true rfl, Nat.le_of_ble_eq_true rfl⟩) hS (fun q _ h => hFc q h) hFc (fun q _ h => hFc q h) (fun E ce q9 u t H1 locs ht hvm hpx hBX hz1 hk1 hS hce hcv hcl => ?_) (fun r101 u t H1 locs ht hvm hw hB hz1 hk1 hS => ?_)
  · rcases hBX with ⟨rfl, c102⟩ | ⟨rfl, c103, c104, c105⟩ | ⟨rfl, c106, c107, c108, c109⟩
    · skip
      obtain ⟨hP, hD⟩ := va_join (wr := []) (w1 := []) hP hD [0, 1] [] rfl rfl (by decide) (by decide) hk1 hFc P0 D0
      have hK := hK.sub (tys' := []) [] rfl
      generalize H1 = H at hP hS hce ⊢
      have hP : va_P (dC, dI) vwCl [] H := hP
      have hD : va_D A [] := hD
      refine vx_catch (own := RL) (name := "java/util/NoSuchElementException") (E := "java/util/NoSuchElementException") hown [] ⟨0, 11, 14, 30⟩ [] (htb.trans rfl) ((fun _ h => nomatch h)) (by decide) (by decide) (hts (.classLink RL 30 "java/util/NoSuchElementException") (by decide +kernel)) (va_Nw.use rfl (hZ.2.2.1 "java/util/NoSuchElementException" (by decide))) hce hcv hcl ?_
      refine W.eq (g2 := F0 m 14 ls [.ref q9]) rfl ?_
      refine W.widen (k := 1) (n := 6) (by omega) (by omega) ?_
      refine lv_astore (lv' := [(5, .ref q9), (0, .ref Ad0), (1, .int Va0), (2, .int Va1), (3, .int Va2), (4, .ref Br0)]) hx hb dL_row_14 hl (by decide) rfl (fun ls hl => ?_)
      refine lv_iconst (v := 1) hx hb dL_row_16 (by decide) ?_
      have hP9 := hP.sub (ws' := []) [] rfl
      have hD9 := hD.sub (ws' := []) [] (by decide) rfl
      have hK9 := hK.sub (tys' := []) [] rfl
      refine vx_ret ?_
      refine W.widen (k := 1) (n := 6) (by decide) (by decide) ?_
      exact W.iret (v := 1) hx hb hr (fun t ht hW => ⟨⟨1, (), rfl, (Or.inl ⟨c102, rfl⟩), by rw [ht]; exact hP9, va_K.moved hW.alike hK9, hD9⟩, hS.F ht⟩) hS.2.2 dL_row_17
    · skip
      obtain ⟨hP, hD⟩ := va_join (wr := []) (w1 := []) hP hD [0, 1] [] rfl rfl (by decide) (by decide) hk1 hFc P0 D0
      have hK := hK.sub (tys' := []) [] rfl
      generalize H1 = H at hP hS hce ⊢
      have hP : va_P (dC, dI) vwCl [] H := hP
      have hD : va_D A [] := hD
      refine vx_catch (own := RL) (name := "java/util/NoSuchElementException") (E := "java/util/NoSuchElementException") hown [] ⟨0, 11, 14, 30⟩ [] (htb.trans rfl) ((fun _ h => nomatch h)) (by decide) (by decide) (hts (.classLink RL 30 "java/util/NoSuchElementException") (by decide +kernel)) (va_Nw.use rfl (hZ.2.2.1 "java/util/NoSuchElementException" (by decide))) hce hcv hcl ?_
      refine W.eq (g2 := F0 m 14 ls [.ref q9]) rfl ?_
      refine W.widen (k := 1) (n := 6) (by omega) (by omega) ?_
      refine lv_astore (lv' := [(5, .ref q9), (0, .ref Ad0), (1, .int Va0), (2, .int Va1), (3, .int Va2), (4, .ref Br0)]) hx hb dL_row_14 hl (by decide) rfl (fun ls hl => ?_)
      refine lv_iconst (v := 1) hx hb dL_row_16 (by decide) ?_
      have hP9 := hP.sub (ws' := []) [] rfl
      have hD9 := hD.sub (ws' := []) [] (by decide) rfl
      have hK9 := hK.sub (tys' := []) [] rfl
      refine vx_ret ?_
      refine W.widen (k := 1) (n := 6) (by decide) (by decide) ?_
      exact W.iret (v := 1) hx hb hr (fun t ht hW => ⟨⟨1, (), rfl, (Or.inr (Or.inl ⟨c103, c104, c105, rfl⟩)), by rw [ht]; exact hP9, va_K.moved hW.alike hK9, hD9⟩, hS.F ht⟩) hS.2.2 dL_row_17
    · skip
      obtain ⟨hP, hD⟩ := va_join (wr := []) (w1 := []) hP hD [0, 1] [] rfl rfl (by decide) (by decide) hk1 hFc P0 D0
      have hK := hK.sub (tys' := []) [] rfl
      generalize H1 = H at hP hS hce ⊢
      have hP : va_P (dC, dI) vwCl [] H := hP
      have hD : va_D A [] := hD
      refine vx_catch (own := RL) (name := "java/util/NoSuchElementException") (E := "java/util/NoSuchElementException") hown [] ⟨0, 11, 14, 30⟩ [] (htb.trans rfl) ((fun _ h => nomatch h)) (by decide) (by decide) (hts (.classLink RL 30 "java/util/NoSuchElementException") (by decide +kernel)) (va_Nw.use rfl (hZ.2.2.1 "java/util/NoSuchElementException" (by decide))) hce hcv hcl ?_
      refine W.eq (g2 := F0 m 14 ls [.ref q9]) rfl ?_
      refine W.widen (k := 1) (n := 6) (by omega) (by omega) ?_
      refine lv_astore (lv' := [(5, .ref q9), (0, .ref Ad0), (1, .int Va0), (2, .int Va1), (3, .int Va2), (4, .ref Br0)]) hx hb dL_row_14 hl (by decide) rfl (fun ls hl => ?_)
      refine lv_iconst (v := 1) hx hb dL_row_16 (by decide) ?_
      have hP9 := hP.sub (ws' := []) [] rfl
      have hD9 := hD.sub (ws' := []) [] (by decide) rfl
      have hK9 := hK.sub (tys' := []) [] rfl
      refine vx_ret ?_
      refine W.widen (k := 1) (n := 6) (by decide) (by decide) ?_
      exact W.iret (v := 1) hx hb hr (fun t ht hW => ⟨⟨1, (), rfl, (Or.inr (Or.inr (⟨c106, c107, c108, c109, rfl⟩))), by rw [ht]; exact hP9, va_K.moved hW.alike hK9, hD9⟩, hS.F ht⟩) hS.2.2 dL_row_17
  · exact hw.elim

def l_z_L_promise : List Cond := [.methodLink RL 60 yX11_promise, .instanceMethod yX11_promise, .selects RX11 yX11_promise yX11_promise, .initialized RX11, .classLink RL 17 "java/lang/IllegalStateException", .classLink RL 15 "java/lang/IllegalArgumentException", .code yX11_promise cX11_promise 3 (some .int), .fieldLink RX11 326 "HeapWorks" "promiseCount" "I", .fieldLink RX11 66 "HeapWorks" "promised" "[LHeapWorks$Program;", .methodLink RX11 329 yX6_readPromise, .instanceMethod yX6_readPromise, .selects RX6 yX6_readPromise yX6_readPromise, .initialized RX6, .fieldLink RX11 333 "HeapWorks$Program" "fault" "I", .fieldLink RX11 336 "HeapWorks$Program" "place" "I", .methodLink RX11 339 yX11_tellFault, .instanceMethod yX11_tellFault, .selects RX11 yX11_tellFault yX11_tellFault, .classLink RX11 127 "java/lang/IllegalArgumentException", .initialized "java/lang/IllegalArgumentException", .code yX6_readPromise cX6_readPromise 1 (some .boolean), .methodLink RX6 38 yX6_start, .instanceMethod yX6_start, .selects RX6 yX6_start yX6_start, .methodLink RX6 41 yX6_readE, .instanceMethod yX6_readE, .selects RX6 yX6_readE yX6_readE, .code yX6_start cX6_start 1 none, .fieldLink RX6 72 "HeapWorks$Program" "steps" "I", .fieldLink RX6 75 "HeapWorks$Program" "fault" "I", .fieldLink RX6 78 "HeapWorks$Program" "place" "I", .fieldLink RX6 81 "HeapWorks$Program" "usesHolders" "Z", .fieldLink RX6 84 "HeapWorks$Program" "usesKept" "Z", .fieldLink RX6 87 "HeapWorks$Program" "nodes" "I", .fieldLink RX6 90 "HeapWorks$Program" "nest" "I", .fieldLink RX6 93 "HeapWorks$Program" "folds" "I", .fieldLink RX6 62 "HeapWorks$Program" "itKnown" "Z", .fieldLink RX6 96 "HeapWorks$Program" "scopes" "I", .fieldLink RX6 99 "HeapWorks$Program" "waits" "I", .fieldLink RX6 9 "HeapWorks$Program" "tape" "LHeapWorks$Tape;", .methodLink RX6 102 yX9_startWords, .instanceMethod yX9_startWords, .selects RX9 yX9_startWords yX9_startWords, .initialized RX9, .code yX9_startWords cX9_startWords 2 none, .fieldLink RX9 69 "HeapWorks$Tape" "at" "I", .methodLink RX9 72 yX9_scanWord, .instanceMethod yX9_scanWord, .selects RX9 yX9_scanWord yX9_scanWord, .fieldLink RX9 18 "HeapWorks$Tape" "words" "[I", .fieldLink RX9 75 "HeapWorks$Tape" "word" "I", .fieldLink RX9 21 "HeapWorks$Tape" "places" "[I", .fieldLink RX9 78 "HeapWorks$Tape" "place" "I", .fieldLink RX9 24 "HeapWorks$Tape" "codes" "[J", .fieldLink RX9 81 "HeapWorks$Tape" "code" "J", .fieldLink RX9 85 "HeapWorks$Tape" "next" "I", .methodLink RX9 88 yX9_nextWord, .instanceMethod yX9_nextWord, .selects RX9 yX9_nextWord yX9_nextWord, .code yX9_scanWord cX9_scanWord 1 none, .fieldLink RX9 49 "HeapWorks$Tape" "size" "I", .code yX9_nextWord cX9_nextWord 1 none, .code yX6_readE cX6_readE 3 (some .boolean), .methodLink RX6 128 yX6_readAnds, .instanceMethod yX6_readAnds, .selects RX6 yX6_readAnds yX6_readAnds, .code yX6_readAnds cX6_readAnds 3 (some .boolean), .methodLink RX6 131 yX6_readNots, .instanceMethod yX6_readNots, .selects RX6 yX6_readNots yX6_readNots, .code yX6_readNots cX6_readNots 3 (some .boolean), .fieldLink RX6 45 "HeapWorks$Tape" "word" "I", .methodLink RX6 134 yX6_readComparison, .instanceMethod yX6_readComparison, .selects RX6 yX6_readComparison yX6_readComparison, .code yX6_readComparison cX6_readComparison 2 (some .boolean), .methodLink RX6 137 yX6_readSums, .instanceMethod yX6_readSums, .selects RX6 yX6_readSums yX6_readSums, .code yX6_readSums cX6_readSums 3 (some .boolean), .methodLink RX6 144 yX6_readProducts, .instanceMethod yX6_readProducts, .selects RX6 yX6_readProducts yX6_readProducts, .code yX6_readProducts cX6_readProducts 3 (some .boolean), .methodLink RX6 147 yX6_readSigned, .instanceMethod yX6_readSigned, .selects RX6 yX6_readSigned yX6_readSigned, .code yX6_readSigned cX6_readSigned 3 (some .boolean), .methodLink RX6 125 yX6_readP, .instanceMethod yX6_readP, .selects RX6 yX6_readP yX6_readP, .code yX6_readP cX6_readP 3 (some .boolean), .methodLink RX6 150 yX6_readAtom, .instanceMethod yX6_readAtom, .selects RX6 yX6_readAtom yX6_readAtom, .code yX6_readAtom cX6_readAtom 1 (some .boolean), .methodLink RX6 51 yX6_refuse, .instanceMethod yX6_refuse, .selects RX6 yX6_refuse yX6_refuse, .code yX6_refuse cX6_refuse 1 (some .boolean), .methodLink RX6 112 yX6_fail, .instanceMethod yX6_fail, .selects RX6 yX6_fail yX6_fail, .code yX6_fail cX6_fail 2 (some .boolean), .fieldLink RX6 111 "HeapWorks$Tape" "place" "I", .code yX11_tellFault cX11_tellFault 3 none, .fieldLink RX11 469 "HeapWorks" "faultCode" "I", .fieldLink RX11 98 "HeapWorks" "faultPlace" "I"]
def w_z_L_promise : List Cond := .codeWith yL_promise cL_promise 3 (some .int) [(0, 8, 11, 17), (0, 8, 14, 15)] :: (l_z_L_promise ++ ((wsX110 ++ (wsX60 ++ (((vx_at0 RX11 129 "java/lang/IllegalArgumentException" ["java/lang/RuntimeException", "java/lang/Exception"]).filter goodWord) ++ wsX90)))))
theorem in_z_L_promise_X11 : ∀ w ∈ wsX110, w ∈ w_z_L_promise := fun w h => List.mem_cons_of_mem _ (List.mem_append_right _ (List.mem_append_left _ h))
theorem in_z_L_promise_X6 : ∀ w ∈ wsX60, w ∈ w_z_L_promise := fun w h => List.mem_cons_of_mem _ (List.mem_append_right _ (List.mem_append_right _ (List.mem_append_left _ h)))
theorem in_z_L_promise_at0_X11_129 : ∀ w ∈ ((vx_at0 RX11 129 "java/lang/IllegalArgumentException" ["java/lang/RuntimeException", "java/lang/Exception"]).filter goodWord), w ∈ w_z_L_promise := fun w h => List.mem_cons_of_mem _ (List.mem_append_right _ (List.mem_append_right _ (List.mem_append_right _ (List.mem_append_left _ h))))
theorem in_z_L_promise_X9 : ∀ w ∈ wsX90, w ∈ w_z_L_promise := fun w h => List.mem_cons_of_mem _ (List.mem_append_right _ (List.mem_append_right _ (List.mem_append_right _ (List.mem_append_right _ (h)))))
theorem g_z_L_promise_z_X11_promise_60 : GoodIn w_z_L_promise (wsV RL 60 RX11 yX11_promise w_z_X11_promise) := goodIn_app (goodIn_r (([.methodLink RL 60 yX11_promise, .instanceMethod yX11_promise, .selects RX11 yX11_promise yX11_promise, .initialized RX11] : List Cond)) [1, 2, 3, 4] rfl (by decide +kernel)) (goodIn_ca (goodIn_r (.code yX11_promise cX11_promise 3 (some .int) :: l_z_X11_promise) [7, 8, 9, 10, 11, 12, 13, 14, 15, 16, 17, 18, 4, 19, 20, 21, 22, 23, 24, 25, 26, 27, 28, 29, 30, 31, 32, 33, 34, 35, 36, 37, 38, 39, 40, 41, 42, 43, 44, 45, 46, 47, 48, 49, 50, 51, 52, 53, 54, 55, 56, 57, 58, 59, 60, 61, 62, 63, 64, 65, 66, 67, 68, 69, 70, 71, 72, 73, 74, 75, 76, 77, 78, 79, 80, 81, 82, 83, 84, 85, 86, 87, 88, 89, 90, 91, 92, 93, 94, 95, 96, 97, 98, 99, 100, 101, 102, 103, 104, 105, 106, 107, 108] rfl (by decide +kernel)) (goodIn_app (goodIn_in (in_z_L_promise_X11) gd_X11) (goodIn_app (goodIn_in (in_z_L_promise_X6) gd_X6) (goodIn_app (goodIn_in (in_z_L_promise_at0_X11_129) gd_at0_X11_129) (goodIn_in (in_z_L_promise_X9) gd_X9)))))
set_option maxHeartbeats 4000000 in
set_option maxRecDepth 100000 in
theorem z_L_promise (l : Launch) (dC : Nat → ClassId) (dI : Nat → Nat → Nat) (sz : Nat) (Ad0 : Nat) (Fs0 : List Value) (Ad1 : Nat) (Fs1 : List Value) (Ad2 : Nat) (Fa0 : Nat → Int32) (Ka0 : ClassId) (Ad3 : Nat) (Fa1 : Nat → Int32) (Ka1 : ClassId) (Ad4 : Nat) (Fa2 : Nat → Int64) (Ka2 : ClassId) (Ad5 : Nat) (Fa3 : Nat → Option Nat) (Ka3 : ClassId) (Ad6 : Nat) (Fs2 : List Value) (Br0 : Nat) (k_Fs0 : fh Fs0 18 [(8, .ref Ad5), (10, .int 0)]) (k_Fs1 : fh Fs1 12 [(1, .int 0), (5, .ref Ad2), (6, .ref Ad3), (7, .ref Ad4)]) (k_Fs2 : fh Fs2 19 [(0, .ref Ad1)]) (hst : l.stackTraces = false) (hg0 : Fa3 (0 : Int32).toNatClampNeg = some Ad6) : vx_Met l yL_promise w_z_L_promise ({ frames := 13, cells := 1, slots := 6, locals := 278 }) (va_Pc [.ref Ad0, .ref Br0] (fun U => U.heap.size = sz ∧ Zz (va_A [(Ad0, .inr (14, Fs0)), (Ad1, .inr (12, Fs1)), (Ad2, .inl (Ka0, 4001, .inl Fa0)), (Ad3, .inl (Ka1, 4001, .inl Fa1)), (Ad4, .inl (Ka2, 4001, .inr (.inl Fa2))), (Ad5, .inl (Ka3, 3, .inr (.inr (.inr (.inr Fa3))))), (Ad6, .inr (9, Fs2))] sz) U ∧ Yy U ∧ Wd dC dI [(Ka0, .int), (Ka1, .int), (Ka2, .long), (Ka3, .object "HeapWorks$Program")] (fun _ => True) [(Ad0, .inr (14, Fs0)), (Ad1, .inr (12, Fs1)), (Ad2, .inl (Ka0, 4001, .inl Fa0)), (Ad3, .inl (Ka1, 4001, .inl Fa1)), (Ad4, .inl (Ka2, 4001, .inr (.inl Fa2))), (Ad5, .inl (Ka3, 3, .inr (.inr (.inr (.inr Fa3))))), (Ad6, .inr (9, Fs2))] U)) (va_Qi (fun (r : Int32) (u : Unit) => r = 2) (fun (u : Unit) t => Wd dC dI [] (va_A [(Ad0, .inr (14, Fs0)), (Ad1, .inr (12, Fs1)), (Ad2, .inl (Ka0, 4001, .inl Fa0)), (Ad3, .inl (Ka1, 4001, .inl Fa1)), (Ad4, .inl (Ka2, 4001, .inr (.inl Fa2))), (Ad5, .inl (Ka3, 3, .inr (.inr (.inr (.inr Fa3))))), (Ad6, .inr (9, Fs2))] sz) [] t) (va_A [(Ad0, .inr (14, Fs0)), (Ad1, .inr (12, Fs1)), (Ad2, .inl (Ka0, 4001, .inl Fa0)), (Ad3, .inl (Ka1, 4001, .inl Fa1)), (Ad4, .inl (Ka2, 4001, .inr (.inl Fa2))), (Ad5, .inl (Ka3, 3, .inr (.inr (.inr (.inr Fa3))))), (Ad6, .inr (9, Fs2))] sz)) (vx_X (fun _ : Unit => True) (fun E _ _ => False) (va_A [(Ad0, .inr (14, Fs0)), (Ad1, .inr (12, Fs1)), (Ad2, .inl (Ka0, 4001, .inl Fa0)), (Ad3, .inl (Ka1, 4001, .inl Fa1)), (Ad4, .inl (Ka2, 4001, .inr (.inl Fa2))), (Ad5, .inl (Ka3, 3, .inr (.inr (.inr (.inr Fa3))))), (Ad6, .inr (9, Fs2))] sz)) 1 6 (va_A [(Ad0, .inr (14, Fs0)), (Ad1, .inr (12, Fs1)), (Ad2, .inl (Ka0, 4001, .inl Fa0)), (Ad3, .inl (Ka1, 4001, .inl Fa1)), (Ad4, .inl (Ka2, 4001, .inr (.inl Fa2))), (Ad5, .inl (Ka3, 3, .inr (.inr (.inr (.inr Fa3))))), (Ad6, .inr (9, Fs2))] sz) := by
  refine vx_ofWH (cc := cL_promise) (maxL := 3) (ret := (some .int)) (by decide) rfl ?_
  intro p e s m args below meth c s₁ B hml hv
  obtain ⟨rfl, hsz, hZ, hY, hP, hK, hD0⟩ := hv
  have hx := B.exec
  have hb := B.bytes
  have hr := B.returns
  have hts := atoms_spec (ws := w_z_L_promise) B.pre
  have hown : s.vm.findClass RL = some m.cls := findClass_of_methodNamed B.named
  have hlocks := B.notSynchronized
  have htb := vx_table (x := yL_promise) B (hts (.codeWith yL_promise cL_promise 3 (some .int) [(0, 8, 11, 17), (0, 8, 14, 15)]) (by decide +kernel))
  subst hsz
  have hD := hD0.self (sz := s.heap.size)
  generalize hAe : va_A [(Ad0, .inr (14, Fs0)), (Ad1, .inr (12, Fs1)), (Ad2, .inl (Ka0, 4001, .inl Fa0)), (Ad3, .inl (Ka1, 4001, .inl Fa1)), (Ad4, .inl (Ka2, 4001, .inr (.inl Fa2))), (Ad5, .inl (Ka3, 3, .inr (.inr (.inr (.inr Fa3))))), (Ad6, .inr (9, Fs2))] s.heap.size = A at hD hZ ⊢
  have hA : ∀ q : Nat, s.heap.size ≤ q → A q := fun q h => by rw [← hAe]; exact Or.inr h
  have hS : va_S A s.heap s.heap [] := va_S.rf
  have hl := lv_entry ([.ref Ad0, .ref Br0]) (n := 3) (Nat.le_of_ble_eq_true rfl)
  rw [lg_entry_eq]
  generalize (lg_sl ([.ref Ad0, .ref Br0]) ++ List.replicate (3 - (lg_sl ([.ref Ad0, .ref Br0])).length) Slot.unset).toArray = ls at hl ⊢
  have hl : lv_has ls 3 [(0, .ref Ad0), (1, .ref Br0)] := hl
  have o_Fs0 := ow_0 k_Fs0
  have o_Fs1 := ow_0 k_Fs1
  have o_Fs2 := ow_0 k_Fs2
  refine lv_aload_n hx hb dL_promise_0 rfl (lv_at hl 1 rfl) ?_
  refine lv_iconst (v := 0) hx hb dL_promise_1 (by decide) ?_
  refine lv_aload_n hx hb dL_promise_2 rfl (lv_at hl 0 rfl) ?_
  have hPc := hP.sub (ws' := [(Ad0, .inr (14, Fs0)), (Ad1, .inr (12, Fs1)), (Ad2, .inl (Ka0, 4001, .inl Fa0)), (Ad3, .inl (Ka1, 4001, .inl Fa1)), (Ad4, .inl (Ka2, 4001, .inr (.inl Fa2))), (Ad5, .inl (Ka3, 3, .inr (.inr (.inr (.inr Fa3))))), (Ad6, .inr (9, Fs2))]) [0, 1, 2, 3, 4, 5, 6] rfl
  have hDc := hD.sub (ws' := [(Ad0, .inr (14, Fs0)), (Ad1, .inr (12, Fs1)), (Ad2, .inl (Ka0, 4001, .inl Fa0)), (Ad3, .inl (Ka1, 4001, .inl Fa1)), (Ad4, .inl (Ka2, 4001, .inr (.inl Fa2))), (Ad5, .inl (Ka3, 3, .inr (.inr (.inr (.inr Fa3))))), (Ad6, .inr (9, Fs2))]) [0, 1, 2, 3, 4, 5, 6] (by decide) rfl
  have hKc := hK.sub (tys' := [(Ka0, .int), (Ka1, .int), (Ka2, .long), (Ka3, .object "HeapWorks$Program")]) [0, 1, 2, 3] rfl
  have hFc := va_free (wc := [(Ad0, .inr (14, Fs0)), (Ad1, .inr (12, Fs1)), (Ad2, .inl (Ka0, 4001, .inl Fa0)), (Ad3, .inl (Ka1, 4001, .inl Fa1)), (Ad4, .inl (Ka2, 4001, .inr (.inl Fa2))), (Ad5, .inl (Ka3, 3, .inr (.inr (.inr (.inr Fa3))))), (Ad6, .inr (9, Fs2))]) hD hS hA [0, 1, 2, 3, 4, 5, 6] rfl
  refine vx_calli (vx_runV (As := []) (rest := [.int 0, .ref Br0]) ⟨hx, hb, hml, hown, hts⟩ (z_X11_promise l dC dI s.heap.size Ad0 Fs0 Ad1 Fs1 Ad2 Fa0 Ka0 Ad3 Fa1 Ka1 Ad4 Fa2 Ka2 Ad5 Fa3 Ka3 Ad6 Fs2 (fh_sub o_Fs0.2 [0, 1] rfl) (fh_sub o_Fs1.2 [0, 1, 2, 3] rfl) (fh_sub o_Fs2.2 [0] rfl) hst hg0) (cwV 0 hts g_z_L_promise_z_X11_promise_60 rfl rfl rfl (by decide +kernel) ⟨Nat.le_of_ble_eq_true rfl, Nat.le_of_ble_eq_true rfl⟩) ⟨fun a U g mk q => by obtain ⟨q0, q1, qZ, qP, qK, qD⟩ := q; exact ⟨q0, q1, Zz_call qZ, qP, va_K.moved (u := U) (U := U.calling g mk a) (Vm.Alike.refl U.vm) qK, qD⟩, va_recv hK hP (ci := 14) (q0 := 0) rfl rfl, fun U hU hW => ⟨rfl, by rw [hU], Zz_go hZ hS hFc hU hW, by rw [hU]; exact hPc, va_K.moved hW.alike hKc, hDc.weaken (fun _ _ _ _ => trivial)⟩⟩ rfl rfl hl.1 rfl (lv_room (Nat.le_of_ble_eq_true rfl)) dL_promise_3 ⟨Nat.le_of_ble_eq_true rfl, Nat.le_of_ble_eq_true rfl⟩) hS (fun q _ h => hFc q h) hFc (fun q _ h => hFc q h) (fun E ce q9 u t H1 locs ht hvm hpx hBX hz1 hk1 hS hce hcv hcl => ?_) (fun r101 u t H1 locs ht hvm hw hB hz1 hk1 hS => ?_)
  · rcases hBX with rfl
    obtain ⟨hP, hD⟩ := va_join (wr := []) (w1 := []) hP hD [0, 1, 2, 3, 4, 5, 6] [] rfl rfl (by decide) (by decide) hk1 hFc P0 D0
    have hK := hK.sub (tys' := []) [] rfl
    generalize H1 = H at hP hS hce ⊢
    have hP : va_P (dC, dI) vwCl [] H := hP
    have hD : va_D A [] := hD
    refine vx_catch (own := RL) (name := "java/lang/IllegalArgumentException") (E := "java/lang/IllegalArgumentException") hown [⟨0, 8, 11, 17⟩] ⟨0, 8, 14, 15⟩ [] (htb.trans rfl) (List.forall_mem_cons.mpr ⟨Or.inr ⟨by decide, "java/lang/IllegalStateException", (hts (.classLink RL 17 "java/lang/IllegalStateException") (by decide +kernel)), hY "java/lang/IllegalArgumentException" (by decide) "java/lang/IllegalStateException" (by decide) (by decide)⟩, (fun _ h => nomatch h)⟩) (by decide) (by decide) (hts (.classLink RL 15 "java/lang/IllegalArgumentException") (by decide +kernel)) (va_Nw.use rfl (hZ.2.2.1 "java/lang/IllegalArgumentException" (by decide))) hce hcv hcl ?_
    refine W.eq (g2 := F0 m 14 ls [.ref q9]) rfl ?_
    refine W.widen (k := 1) (n := 6) (by omega) (by omega) ?_
    refine lv_astore_n (lv' := [(2, .ref q9), (0, .ref Ad0), (1, .ref Br0)]) hx hb dL_promise_14 rfl hl (by decide) rfl (fun ls hl => ?_)
    refine lv_iconst (v := 2) hx hb dL_promise_15 (by decide) ?_
    have hP9 := hP.sub (ws' := []) [] rfl
    have hD9 := hD.sub (ws' := []) [] (by decide) rfl
    have hK9 := hK.sub (tys' := []) [] rfl
    refine vx_ret ?_
    refine W.widen (k := 1) (n := 6) (by decide) (by decide) ?_
    exact W.iret (v := 2) hx hb hr (fun t ht hW => ⟨⟨2, (), rfl, rfl, by rw [ht]; exact hP9, va_K.moved hW.alike hK9, hD9⟩, hS.F ht⟩) hS.2.2 dL_promise_16
  · exact hw.elim

def l_z_L_broken : List Cond := [.methodLink RL 64 yX11_broken, .instanceMethod yX11_broken, .selects RX11 yX11_broken yX11_broken, .initialized RX11, .classLink RL 30 "java/util/NoSuchElementException", .code yX11_broken cX11_broken 2 (some .int), .classLink RX11 221 "java/util/NoSuchElementException", .initialized "java/util/NoSuchElementException", .fieldLink RX11 326 "HeapWorks" "promiseCount" "I"]
def w_z_L_broken : List Cond := .codeWith yL_broken cL_broken 4 (some .int) [(0, 9, 12, 30)] :: (l_z_L_broken ++ ((((vx_at0 RX11 223 "java/util/NoSuchElementException" ["java/lang/RuntimeException", "java/lang/Exception"]).filter goodWord) ++ wsX110)))
theorem in_z_L_broken_at0_X11_223 : ∀ w ∈ ((vx_at0 RX11 223 "java/util/NoSuchElementException" ["java/lang/RuntimeException", "java/lang/Exception"]).filter goodWord), w ∈ w_z_L_broken := fun w h => List.mem_cons_of_mem _ (List.mem_append_right _ (List.mem_append_left _ h))
theorem in_z_L_broken_X11 : ∀ w ∈ wsX110, w ∈ w_z_L_broken := fun w h => List.mem_cons_of_mem _ (List.mem_append_right _ (List.mem_append_right _ (h)))
theorem g_z_L_broken_z_X11_broken_64 : GoodIn w_z_L_broken (wsV RL 64 RX11 yX11_broken w_z_X11_broken) := goodIn_app (goodIn_r (([.methodLink RL 64 yX11_broken, .instanceMethod yX11_broken, .selects RX11 yX11_broken yX11_broken, .initialized RX11] : List Cond)) [1, 2, 3, 4] rfl (by decide +kernel)) (goodIn_ca (goodIn_r (.code yX11_broken cX11_broken 2 (some .int) :: l_z_X11_broken) [6, 7, 8, 9] rfl (by decide +kernel)) (goodIn_app (goodIn_in (in_z_L_broken_at0_X11_223) gd_at0_X11_223) (goodIn_in (in_z_L_broken_X11) gd_X11)))
set_option maxHeartbeats 4000000 in
set_option maxRecDepth 100000 in
theorem z_L_broken (l : Launch) (dC : Nat → ClassId) (dI : Nat → Nat → Nat) (sz : Nat) (Ad0 : Nat) (Fs0 : List Value) (Va0 : Int32) (Br0 : Nat) (k_Fs0 : fh Fs0 18 [(10, .int 0)]) (hst : l.stackTraces = false)  : vx_Met l yL_broken w_z_L_broken ({ frames := 8, cells := 1, slots := 6, locals := 161 }) (va_Pc [.ref Ad0, .int Va0, .ref Br0] (fun U => U.heap.size = sz ∧ Zz (va_A [(Ad0, .inr (14, Fs0))] sz) U ∧ Yy U ∧ Wd dC dI [] (fun _ => True) [(Ad0, .inr (14, Fs0))] U)) (va_Qi (fun (r : Int32) (u : Unit) => (Va0 < 0 ∧ r = 1) ∨ (¬ Va0 < 0 ∧ ¬ Va0 < 0 ∧ r = 1)) (fun (u : Unit) t => Wd dC dI [] (va_A [(Ad0, .inr (14, Fs0))] sz) [] t) (va_A [(Ad0, .inr (14, Fs0))] sz)) (vx_X (fun _ : Unit => True) (fun E _ _ => False) (va_A [(Ad0, .inr (14, Fs0))] sz)) 1 6 (va_A [(Ad0, .inr (14, Fs0))] sz) := by
  refine vx_ofWH (cc := cL_broken) (maxL := 4) (ret := (some .int)) (by decide) rfl ?_
  intro p e s m args below meth c s₁ B hml hv
  obtain ⟨rfl, hsz, hZ, hY, hP, hK, hD0⟩ := hv
  have hx := B.exec
  have hb := B.bytes
  have hr := B.returns
  have hts := atoms_spec (ws := w_z_L_broken) B.pre
  have hown : s.vm.findClass RL = some m.cls := findClass_of_methodNamed B.named
  have hlocks := B.notSynchronized
  have htb := vx_table (x := yL_broken) B (hts (.codeWith yL_broken cL_broken 4 (some .int) [(0, 9, 12, 30)]) (by decide +kernel))
  subst hsz
  have hD := hD0.self (sz := s.heap.size)
  generalize hAe : va_A [(Ad0, .inr (14, Fs0))] s.heap.size = A at hD hZ ⊢
  have hA : ∀ q : Nat, s.heap.size ≤ q → A q := fun q h => by rw [← hAe]; exact Or.inr h
  have hS : va_S A s.heap s.heap [] := va_S.rf
  have hl := lv_entry ([.ref Ad0, .int Va0, .ref Br0]) (n := 4) (Nat.le_of_ble_eq_true rfl)
  rw [lg_entry_eq]
  generalize (lg_sl ([.ref Ad0, .int Va0, .ref Br0]) ++ List.replicate (4 - (lg_sl ([.ref Ad0, .int Va0, .ref Br0])).length) Slot.unset).toArray = ls at hl ⊢
  have hl : lv_has ls 4 [(0, .ref Ad0), (1, .int Va0), (2, .ref Br0)] := hl
  have o_Fs0 := ow_0 k_Fs0
  refine lv_aload_n hx hb dL_broken_0 rfl (lv_at hl 2 rfl) ?_
  refine lv_iconst (v := 0) hx hb dL_broken_1 (by decide) ?_
  refine lv_aload_n hx hb dL_broken_2 rfl (lv_at hl 0 rfl) ?_
  refine lv_iload_n hx hb dL_broken_3 rfl (lv_at hl 1 rfl) ?_
  have hPc := hP.sub (ws' := [(Ad0, .inr (14, Fs0))]) [0] rfl
  have hDc := hD.sub (ws' := [(Ad0, .inr (14, Fs0))]) [0] (by decide) rfl
  have hKc := hK.sub (tys' := []) [] rfl
  have hFc := va_free (wc := [(Ad0, .inr (14, Fs0))]) hD hS hA [0] rfl
  refine vx_calli (vx_runV (As := [.int Va0]) (rest := [.int 0, .ref Br0]) ⟨hx, hb, hml, hown, hts⟩ (z_X11_broken l dC dI s.heap.size Ad0 Fs0 Va0 (fh_sub o_Fs0.2 [0] rfl) hst ) (cwV 1 hts g_z_L_broken_z_X11_broken_64 rfl rfl rfl (by decide +kernel) ⟨Nat.le_of_ble_eq_true rfl, Nat.le_of_ble_eq_true rfl⟩) ⟨fun a U g mk q => by obtain ⟨q0, q1, qZ, qP, qK, qD⟩ := q; exact ⟨q0, q1, Zz_call qZ, qP, va_K.moved (u := U) (U := U.calling g mk a) (Vm.Alike.refl U.vm) qK, qD⟩, va_recv hK hP (ci := 14) (q0 := 0) rfl rfl, fun U hU hW => ⟨rfl, by rw [hU], Zz_go hZ hS hFc hU hW, by rw [hU]; exact hPc, va_K.moved hW.alike hKc, hDc.weaken (fun _ _ _ _ => trivial)⟩⟩ rfl rfl hl.1 rfl (lv_room (Nat.le_of_ble_eq_true rfl)) dL_broken_4 ⟨Nat.le_of_ble_eq_true rfl, Nat.le_of_ble_eq_true rfl⟩) hS (fun q _ h => hFc q h) hFc (fun q _ h => hFc q h) (fun E ce q9 u t H1 locs ht hvm hpx hBX hz1 hk1 hS hce hcv hcl => ?_) (fun r101 u t H1 locs ht hvm hw hB hz1 hk1 hS => ?_)
  · rcases hBX with ⟨rfl, c102⟩ | ⟨rfl, c103, c104⟩
    · skip
      obtain ⟨hP, hD⟩ := va_join (wr := []) (w1 := []) hP hD [0] [] rfl rfl (by decide) (by decide) hk1 hFc P0 D0
      have hK := hK.sub (tys' := []) [] rfl
      generalize H1 = H at hP hS hce ⊢
      have hP : va_P (dC, dI) vwCl [] H := hP
      have hD : va_D A [] := hD
      refine vx_catch (own := RL) (name := "java/util/NoSuchElementException") (E := "java/util/NoSuchElementException") hown [] ⟨0, 9, 12, 30⟩ [] (htb.trans rfl) ((fun _ h => nomatch h)) (by decide) (by decide) (hts (.classLink RL 30 "java/util/NoSuchElementException") (by decide +kernel)) (va_Nw.use rfl (hZ.2.2.1 "java/util/NoSuchElementException" (by decide))) hce hcv hcl ?_
      refine W.eq (g2 := F0 m 12 ls [.ref q9]) rfl ?_
      refine W.widen (k := 1) (n := 6) (by omega) (by omega) ?_
      refine lv_astore_n (lv' := [(3, .ref q9), (0, .ref Ad0), (1, .int Va0), (2, .ref Br0)]) hx hb dL_broken_12 rfl hl (by decide) rfl (fun ls hl => ?_)
      refine lv_iconst (v := 1) hx hb dL_broken_13 (by decide) ?_
      have hP9 := hP.sub (ws' := []) [] rfl
      have hD9 := hD.sub (ws' := []) [] (by decide) rfl
      have hK9 := hK.sub (tys' := []) [] rfl
      refine vx_ret ?_
      refine W.widen (k := 1) (n := 6) (by decide) (by decide) ?_
      exact W.iret (v := 1) hx hb hr (fun t ht hW => ⟨⟨1, (), rfl, (Or.inl ⟨c102, rfl⟩), by rw [ht]; exact hP9, va_K.moved hW.alike hK9, hD9⟩, hS.F ht⟩) hS.2.2 dL_broken_14
    · skip
      obtain ⟨hP, hD⟩ := va_join (wr := []) (w1 := []) hP hD [0] [] rfl rfl (by decide) (by decide) hk1 hFc P0 D0
      have hK := hK.sub (tys' := []) [] rfl
      generalize H1 = H at hP hS hce ⊢
      have hP : va_P (dC, dI) vwCl [] H := hP
      have hD : va_D A [] := hD
      refine vx_catch (own := RL) (name := "java/util/NoSuchElementException") (E := "java/util/NoSuchElementException") hown [] ⟨0, 9, 12, 30⟩ [] (htb.trans rfl) ((fun _ h => nomatch h)) (by decide) (by decide) (hts (.classLink RL 30 "java/util/NoSuchElementException") (by decide +kernel)) (va_Nw.use rfl (hZ.2.2.1 "java/util/NoSuchElementException" (by decide))) hce hcv hcl ?_
      refine W.eq (g2 := F0 m 12 ls [.ref q9]) rfl ?_
      refine W.widen (k := 1) (n := 6) (by omega) (by omega) ?_
      refine lv_astore_n (lv' := [(3, .ref q9), (0, .ref Ad0), (1, .int Va0), (2, .ref Br0)]) hx hb dL_broken_12 rfl hl (by decide) rfl (fun ls hl => ?_)
      refine lv_iconst (v := 1) hx hb dL_broken_13 (by decide) ?_
      have hP9 := hP.sub (ws' := []) [] rfl
      have hD9 := hD.sub (ws' := []) [] (by decide) rfl
      have hK9 := hK.sub (tys' := []) [] rfl
      refine vx_ret ?_
      refine W.widen (k := 1) (n := 6) (by decide) (by decide) ?_
      exact W.iret (v := 1) hx hb hr (fun t ht hW => ⟨⟨1, (), rfl, (Or.inr (⟨c103, c104, rfl⟩)), by rw [ht]; exact hP9, va_K.moved hW.alike hK9, hD9⟩, hS.F ht⟩) hS.2.2 dL_broken_14
  · exact hw.elim

