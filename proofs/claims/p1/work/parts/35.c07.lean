def l_z_X5_listMissing_1 : List Cond := [.fieldLink RX5 82 "HeapWorks$Picture" "things" "I"]
def w_z_X5_listMissing_1 : List Cond := .code yX5_listMissing cX5_listMissing 5 (some .int) :: (l_z_X5_listMissing_1 ++ (wsX50))
theorem in_z_X5_listMissing_1_X5 : ∀ w ∈ wsX50, w ∈ w_z_X5_listMissing_1 := fun w h => List.mem_cons_of_mem _ (List.mem_append_right _ (h))
set_option maxHeartbeats 4000000 in
set_option maxRecDepth 100000 in
theorem z_X5_listMissing_1 (l : Launch) (dC : Nat → ClassId) (dI : Nat → Nat → Nat) (sz : Nat) (Ad0 : Nat) (Fs0 : List Value) (Br0 : Nat) (k_Fs0 : fh Fs0 21 [(0, .int 0)])  : Met l yX5_listMissing w_z_X5_listMissing_1 ({ frames := 0, cells := 0, slots := 0, locals := 0 }) (va_Pc [.ref Ad0, .ref Ad0, .ref Br0] (fun U => U.heap.size = sz ∧ Wd dC dI [] (fun _ => True) [(Ad0, .inr (8, Fs0))] U)) (va_Qi (fun (r : Int32) (u : Unit) => r = 0) (fun (u : Unit) t => Wd dC dI [] (va_A [(Ad0, .inr (8, Fs0))] sz) [(Ad0, .inr (8, Fs0))] t) (va_A [(Ad0, .inr (8, Fs0))] sz))  0 0 (va_A [(Ad0, .inr (8, Fs0))] sz) := by
  refine Met.ofW (cc := cX5_listMissing) (maxL := 5) (ret := (some .int)) (by decide) rfl ?_
  intro p e s m args below meth c s₁ B hml hv
  obtain ⟨rfl, hsz, hP, hK, hD0⟩ := hv
  have hx := B.exec
  have hb := B.bytes
  have hr := B.returns
  have hts := atoms_spec (ws := w_z_X5_listMissing_1) B.pre
  have hown : s.vm.findClass RX5 = some m.cls := findClass_of_methodNamed B.named
  have hlocks := B.notSynchronized
  subst hsz
  have hD := hD0.self (sz := s.heap.size)
  generalize hAe : va_A [(Ad0, .inr (8, Fs0))] s.heap.size = A at hD ⊢
  have hA : ∀ q : Nat, s.heap.size ≤ q → A q := fun q h => by rw [← hAe]; exact Or.inr h
  have hS : va_S A s.heap s.heap [] := va_S.rf
  have hl := lv_entry ([.ref Ad0, .ref Ad0, .ref Br0]) (n := 5) (Nat.le_of_ble_eq_true rfl)
  rw [lg_entry_eq]
  generalize (lg_sl ([.ref Ad0, .ref Ad0, .ref Br0]) ++ List.replicate (5 - (lg_sl ([.ref Ad0, .ref Ad0, .ref Br0])).length) Slot.unset).toArray = ls at hl ⊢
  have hl : lv_has ls 5 [(0, .ref Ad0), (1, .ref Ad0), (2, .ref Br0)] := hl
  have o_Fs0 := ow_0 k_Fs0
  refine lv_iconst (v := 0) hx hb dX5_listMissing_0 (by decide) ?_
  refine lv_istore_n (lv' := [(3, .int 0), (0, .ref Ad0), (1, .ref Ad0), (2, .ref Br0)]) hx hb dX5_listMissing_1 rfl hl (by decide) rfl (fun ls hl => ?_)
  refine lv_iconst (v := 0) hx hb dX5_listMissing_2 (by decide) ?_
  refine lv_istore (lv' := [(4, .int 0), (3, .int 0), (0, .ref Ad0), (1, .ref Ad0), (2, .ref Br0)]) hx hb dX5_listMissing_3 hl (by decide) rfl (fun ls hl => ?_)
  refine lv_iload hx hb dX5_listMissing_5 (lv_at hl 0 rfl) ?_
  refine lv_aload_n hx hb dX5_listMissing_7 rfl (lv_at hl 2 rfl) ?_
  refine va_get (D := (dC, dI)) (ci := 8) (v := .int 0) (C := RX5) (T := TX5) (N := 21) hx hb hts (in_z_X5_listMissing_1_X5) hown hK hP 0 rfl rfl 0 (by decide) (hts (.fieldLink RX5 82 "HeapWorks$Picture" "things" "I") (by decide +kernel)) (fun _ h9 => h9) (ow_at o_Fs0 0 rfl) dX5_listMissing_8 ?_
  refine lv_icmp_ge (tgt := 44) hx hb dX5_listMissing_11 (by decide) (fun c101 => ?_) (fun c101 => absurd c101 (by decide))
  refine lv_iload_n hx hb dX5_listMissing_44 rfl (lv_at hl 1 rfl) ?_
  have hP9 := hP.sub (ws' := [(Ad0, .inr (8, Fs0))]) [0] rfl
  have hD9 := hD.sub (ws' := [(Ad0, .inr (8, Fs0))]) [0] (by decide) rfl
  have hK9 := hK.sub (tys' := []) [] rfl
  exact W.iret (v := 0) hx hb hr (fun t ht hW => ⟨⟨0, (), rfl, rfl, by rw [ht]; exact hP9, va_K.moved hW.alike hK9, hD9⟩, hS.F ht⟩) hS.2.2 dX5_listMissing_45

def l_z_X11_growth_1 : List Cond := [.methodLink RX11 353 yX11_needPicture, .static yX11_needPicture, .initialized RX11, .classLink RX11 120 "java/lang/IndexOutOfBoundsException", .initialized "java/lang/IndexOutOfBoundsException", .fieldLink RX11 41 "HeapWorks" "pictures" "[LHeapWorks$Picture;", .fieldLink RX11 95 "HeapWorks" "grownThings" "[I", .methodLink RX11 457 yX5_listChanged, .instanceMethod yX5_listChanged, .selects RX5 yX5_listChanged yX5_listChanged, .initialized RX5, .fieldLink RX11 454 "HeapWorks" "grownCount" "I", .methodLink RX11 450 yX5_listMissing, .instanceMethod yX5_listMissing, .selects RX5 yX5_listMissing yX5_listMissing, .code yX11_needPicture cX11_needPicture 1 none, .methodLink RX11 411 yX11_isPicture, .static yX11_isPicture, .code yX11_isPicture cX11_isPicture 1 (some .boolean), .code yX5_listChanged cX5_listChanged 6 (some .int), .fieldLink RX5 82 "HeapWorks$Picture" "things" "I", .code yX5_listMissing cX5_listMissing 5 (some .int)]
def w_z_X11_growth_1 : List Cond := .code yX11_growth cX11_growth 4 (some .int) :: (l_z_X11_growth_1 ++ ((((vx_at0 RX11 122 "java/lang/IndexOutOfBoundsException" ["java/lang/RuntimeException", "java/lang/Exception"]).filter goodWord) ++ (wsX110 ++ wsX50))))
theorem in_z_X11_growth_1_at0_X11_122 : ∀ w ∈ ((vx_at0 RX11 122 "java/lang/IndexOutOfBoundsException" ["java/lang/RuntimeException", "java/lang/Exception"]).filter goodWord), w ∈ w_z_X11_growth_1 := fun w h => List.mem_cons_of_mem _ (List.mem_append_right _ (List.mem_append_left _ h))
theorem in_z_X11_growth_1_X11 : ∀ w ∈ wsX110, w ∈ w_z_X11_growth_1 := fun w h => List.mem_cons_of_mem _ (List.mem_append_right _ (List.mem_append_right _ (List.mem_append_left _ h)))
theorem in_z_X11_growth_1_X5 : ∀ w ∈ wsX50, w ∈ w_z_X11_growth_1 := fun w h => List.mem_cons_of_mem _ (List.mem_append_right _ (List.mem_append_right _ (List.mem_append_right _ (h))))
theorem g_z_X11_growth_1_z_X11_needPicture_353 : GoodIn w_z_X11_growth_1 (wsS RX11 353 yX11_needPicture w_z_X11_needPicture) := goodIn_app (goodIn_r (([.methodLink RX11 353 yX11_needPicture, .static yX11_needPicture, .initialized RX11] : List Cond)) [1, 2, 3] rfl (by decide +kernel)) (goodIn_ca (goodIn_r (.code yX11_needPicture cX11_needPicture 1 none :: l_z_X11_needPicture) [16, 17, 18, 3, 4, 5, 19] rfl (by decide +kernel)) (goodIn_in (in_z_X11_growth_1_at0_X11_122) gd_at0_X11_122))
theorem g_z_X11_growth_1_z_X5_listChanged_1_457 : GoodIn w_z_X11_growth_1 (wsV RX11 457 RX5 yX5_listChanged w_z_X5_listChanged_1) := goodIn_app (goodIn_r (([.methodLink RX11 457 yX5_listChanged, .instanceMethod yX5_listChanged, .selects RX5 yX5_listChanged yX5_listChanged, .initialized RX5] : List Cond)) [8, 9, 10, 11] rfl (by decide +kernel)) (goodIn_ca (goodIn_r (.code yX5_listChanged cX5_listChanged 6 (some .int) :: l_z_X5_listChanged_1) [20, 21] rfl (by decide +kernel)) (goodIn_in (in_z_X11_growth_1_X5) gd_X5))
theorem g_z_X11_growth_1_z_X5_listMissing_1_450 : GoodIn w_z_X11_growth_1 (wsV RX11 450 RX5 yX5_listMissing w_z_X5_listMissing_1) := goodIn_app (goodIn_r (([.methodLink RX11 450 yX5_listMissing, .instanceMethod yX5_listMissing, .selects RX5 yX5_listMissing yX5_listMissing, .initialized RX5] : List Cond)) [13, 14, 15, 11] rfl (by decide +kernel)) (goodIn_ca (goodIn_r (.code yX5_listMissing cX5_listMissing 5 (some .int) :: l_z_X5_listMissing_1) [22, 21] rfl (by decide +kernel)) (goodIn_in (in_z_X11_growth_1_X5) gd_X5))
set_option maxHeartbeats 4000000 in
set_option maxRecDepth 100000 in
theorem z_X11_growth_1 (l : Launch) (dC : Nat → ClassId) (dI : Nat → Nat → Nat) (sz : Nat) (Ad0 : Nat) (Fs0 : List Value) (Ad1 : Nat) (Fa0 : Nat → Option Nat) (Ka0 : ClassId) (Ad2 : Nat) (Fs1 : List Value) (Va0 : Int32) (Va1 : Int32) (Va2 : Int32) (Br0 : Nat) (k_Fs0 : fh Fs0 18 [(4, .ref Ad1), (15, .int 0), (14, .ref Br0)]) (k_Fs1 : fh Fs1 21 [(0, .int 0)]) (hst : l.stackTraces = false) (hg0 : Fa0 Va1.toNatClampNeg = some Ad2) (hg1 : Fa0 Va0.toNatClampNeg = some Ad2) : vx_Met l yX11_growth w_z_X11_growth_1 ({ frames := 8, cells := 3, slots := 18, locals := 160 }) (va_Pc [.ref Ad0, .int Va0, .int Va1, .int Va2] (fun U => U.heap.size = sz ∧ Zz (va_A [(Ad0, .inr (14, Fs0)), (Ad1, .inl (Ka0, 4, .inr (.inr (.inr (.inr Fa0))))), (Ad2, .inr (8, Fs1))] sz) U ∧ Wd dC dI [(Ka0, .object "HeapWorks$Picture")] (fun _ => True) [(Ad0, .inr (14, Fs0)), (Ad1, .inl (Ka0, 4, .inr (.inr (.inr (.inr Fa0))))), (Ad2, .inr (8, Fs1))] U)) (va_Qi (fun (r : Int32) (u : List Value) => (¬ Va0 < 0 ∧ ¬ 4 ≤ Va0 ∧ ¬ Va1 < 0 ∧ ¬ 4 ≤ Va1 ∧ ¬ Va2 < 0 ∧ Va2 ≤ 2 ∧ ¬ Va2 = 0 ∧ ¬ Va2 = 1 ∧ r = 0 ∧ ow Fs0 (u) 18 [15] [(15, .int 0), (4, .ref Ad1), (14, .ref Br0)]) ∨ (¬ Va0 < 0 ∧ ¬ 4 ≤ Va0 ∧ ¬ Va1 < 0 ∧ ¬ 4 ≤ Va1 ∧ ¬ Va2 < 0 ∧ Va2 ≤ 2 ∧ ¬ Va2 = 0 ∧ Va2 = 1 ∧ r = 0 ∧ ow Fs0 (u) 18 [15] [(15, .int 0), (4, .ref Ad1), (14, .ref Br0)]) ∨ (¬ Va0 < 0 ∧ ¬ 4 ≤ Va0 ∧ ¬ Va1 < 0 ∧ ¬ 4 ≤ Va1 ∧ ¬ Va2 < 0 ∧ Va2 ≤ 2 ∧ Va2 = 0 ∧ r = 0 ∧ ow Fs0 (u) 18 [15] [(15, .int 0), (4, .ref Ad1), (14, .ref Br0)])) (fun (u : List Value) t => Wd dC dI [(Ka0, .object "HeapWorks$Picture")] (va_A [(Ad0, .inr (14, Fs0)), (Ad1, .inl (Ka0, 4, .inr (.inr (.inr (.inr Fa0))))), (Ad2, .inr (8, Fs1))] sz) [(Ad0, .inr (14, (u))), (Ad1, .inl (Ka0, 4, .inr (.inr (.inr (.inr Fa0))))), (Ad2, .inr (8, Fs1))] t) (va_A [(Ad0, .inr (14, Fs0)), (Ad1, .inl (Ka0, 4, .inr (.inr (.inr (.inr Fa0))))), (Ad2, .inr (8, Fs1))] sz)) (vx_X (fun _ : Unit => True) (fun E _ _ => (E = "java/lang/IndexOutOfBoundsException" ∧ Va0 < 0) ∨ (E = "java/lang/IndexOutOfBoundsException" ∧ ¬ Va0 < 0 ∧ 4 ≤ Va0) ∨ (E = "java/lang/IndexOutOfBoundsException" ∧ ¬ Va0 < 0 ∧ ¬ 4 ≤ Va0 ∧ Va1 < 0) ∨ (E = "java/lang/IndexOutOfBoundsException" ∧ ¬ Va0 < 0 ∧ ¬ 4 ≤ Va0 ∧ ¬ Va1 < 0 ∧ 4 ≤ Va1) ∨ (E = "java/lang/IndexOutOfBoundsException" ∧ ¬ Va0 < 0 ∧ ¬ 4 ≤ Va0 ∧ ¬ Va1 < 0 ∧ ¬ 4 ≤ Va1 ∧ Va2 < 0) ∨ (E = "java/lang/IndexOutOfBoundsException" ∧ ¬ Va0 < 0 ∧ ¬ 4 ≤ Va0 ∧ ¬ Va1 < 0 ∧ ¬ 4 ≤ Va1 ∧ ¬ Va2 < 0 ∧ ¬ Va2 ≤ 2)) (va_A [(Ad0, .inr (14, Fs0)), (Ad1, .inl (Ka0, 4, .inr (.inr (.inr (.inr Fa0))))), (Ad2, .inr (8, Fs1))] sz)) 3 18 (va_A [(Ad0, .inr (14, Fs0)), (Ad1, .inl (Ka0, 4, .inr (.inr (.inr (.inr Fa0))))), (Ad2, .inr (8, Fs1))] sz) := by
  refine vx_ofW (cc := cX11_growth) (maxL := 4) (ret := (some .int)) (by decide) rfl ?_
  intro p e s m args below meth c s₁ B hml htab hv
  obtain ⟨rfl, hsz, hZ, hP, hK, hD0⟩ := hv
  have hx := B.exec
  have hb := B.bytes
  have hr := B.returns
  have hts := atoms_spec (ws := w_z_X11_growth_1) B.pre
  have hown : s.vm.findClass RX11 = some m.cls := findClass_of_methodNamed B.named
  have hlocks := B.notSynchronized
  subst hsz
  have hD := hD0.self (sz := s.heap.size)
  generalize hAe : va_A [(Ad0, .inr (14, Fs0)), (Ad1, .inl (Ka0, 4, .inr (.inr (.inr (.inr Fa0))))), (Ad2, .inr (8, Fs1))] s.heap.size = A at hD hZ ⊢
  have hA : ∀ q : Nat, s.heap.size ≤ q → A q := fun q h => by rw [← hAe]; exact Or.inr h
  have hS : va_S A s.heap s.heap [] := va_S.rf
  have hl := lv_entry ([.ref Ad0, .int Va0, .int Va1, .int Va2]) (n := 4) (Nat.le_of_ble_eq_true rfl)
  rw [lg_entry_eq]
  generalize (lg_sl ([.ref Ad0, .int Va0, .int Va1, .int Va2]) ++ List.replicate (4 - (lg_sl ([.ref Ad0, .int Va0, .int Va1, .int Va2])).length) Slot.unset).toArray = ls at hl ⊢
  have hl : lv_has ls 4 [(0, .ref Ad0), (1, .int Va0), (2, .int Va1), (3, .int Va2)] := hl
  have o_Fs0 := ow_0 k_Fs0
  have o_Fs1 := ow_0 k_Fs1
  refine lv_iload_n hx hb dX11_growth_0 rfl (lv_at hl 1 rfl) ?_
  have hPc := hP.sub (ws' := []) [] rfl
  have hDc := hD.sub (ws' := []) [] (by decide) rfl
  have hKc := hK.sub (tys' := []) [] rfl
  have hFc := va_free (wc := []) hD hS hA [] rfl
  refine vx_callv (vx_runS (As := [.int Va0]) (rest := []) ⟨hx, hb, hml, hown, hts⟩ (z_X11_needPicture l dC dI s.heap.size Va0  hst ) (cwS 1 hts g_z_X11_growth_1_z_X11_needPicture_353 rfl rfl rfl (by decide +kernel) ⟨Nat.le_of_ble_eq_true rfl, Nat.le_of_ble_eq_true rfl⟩) ⟨fun a U g mk q => by obtain ⟨q0, q1, qZ, qP, qK, qD⟩ := q; exact ⟨q0, q1, Zz_call qZ, qP, va_K.moved (u := U) (U := U.calling g mk a) (Vm.Alike.refl U.vm) qK, qD⟩, fun U hU hW => ⟨rfl, by rw [hU], Zz_go hZ hS hFc hU hW, by rw [hU]; exact hPc, va_K.moved hW.alike hKc, hDc.weaken (fun _ _ _ _ => trivial)⟩⟩ rfl rfl hl.1 rfl (lv_room (Nat.le_of_ble_eq_true rfl)) dX11_growth_1 ⟨Nat.le_of_ble_eq_true rfl, Nat.le_of_ble_eq_true rfl⟩) hS (fun q _ h => hFc q h) hFc (fun q _ h => hFc q h) (fun E ce q9 u t H1 locs ht hvm hpx hBX hz1 hk1 hS hce hcv hcl => ?_) (fun u t H1 locs ht hvm hw hB hz1 hk1 hS => ?_)
  · rcases hBX with ⟨rfl, c101⟩ | ⟨rfl, c102, c103⟩
    · exact vx_out (fun x h => (htab x h).elim) hlocks hce hcv hcl (fun t9 ht9 _ => ⟨(), trivial, (Or.inl ⟨rfl, c101⟩), hS.F ht9⟩) hS.2.2 (by decide) (by decide)
    · exact vx_out (fun x h => (htab x h).elim) hlocks hce hcv hcl (fun t9 ht9 _ => ⟨(), trivial, (Or.inr (Or.inl ⟨rfl, c102, c103⟩)), hS.F ht9⟩) hS.2.2 (by decide) (by decide)
  · skip
    obtain ⟨hP1, hK1, hD1⟩ := hB
    rw [ht] at hP1
    try dsimp only at hw
    obtain ⟨hP, hD⟩ := va_join (wr := [(Ad0, .inr (14, Fs0)), (Ad1, .inl (Ka0, 4, .inr (.inr (.inr (.inr Fa0))))), (Ad2, .inr (8, Fs1))]) (w1 := []) hP hD [] [0, 1, 2] rfl rfl (by decide) (by decide) hk1 hFc hP1 hD1
    have hK := hK.sub (tys' := [(Ka0, .object "HeapWorks$Picture")]) [0] rfl
    generalize H1 = H at hP hS ⊢
    refine W.widen (k := 1) (n := 6) (by omega) (by omega) ?_
    have hP : va_P (dC, dI) vwCl [(Ad0, .inr (14, Fs0)), (Ad1, .inl (Ka0, 4, .inr (.inr (.inr (.inr Fa0))))), (Ad2, .inr (8, Fs1))] H := hP
    have hD : va_D A [(Ad0, .inr (14, Fs0)), (Ad1, .inl (Ka0, 4, .inr (.inr (.inr (.inr Fa0))))), (Ad2, .inr (8, Fs1))] := hD
    obtain ⟨c104, c105⟩ := hw
    refine lv_iload_n hx hb dX11_growth_4 rfl (lv_at hl 2 rfl) ?_
    have hPc := hP.sub (ws' := []) [] rfl
    have hDc := hD.sub (ws' := []) [] (by decide) rfl
    have hKc := hK.sub (tys' := []) [] rfl
    have hFc := va_free (wc := []) hD hS hA [] rfl
    refine vx_callv (vx_runS (As := [.int Va1]) (rest := []) ⟨hx, hb, hml, hown, hts⟩ (z_X11_needPicture l dC dI H.size Va1  hst ) (cwS 1 hts g_z_X11_growth_1_z_X11_needPicture_353 rfl rfl rfl (by decide +kernel) ⟨Nat.le_of_ble_eq_true rfl, Nat.le_of_ble_eq_true rfl⟩) ⟨fun a U g mk q => by obtain ⟨q0, q1, qZ, qP, qK, qD⟩ := q; exact ⟨q0, q1, Zz_call qZ, qP, va_K.moved (u := U) (U := U.calling g mk a) (Vm.Alike.refl U.vm) qK, qD⟩, fun U hU hW => ⟨rfl, by rw [hU], Zz_go hZ hS hFc hU hW, by rw [hU]; exact hPc, va_K.moved hW.alike hKc, hDc.weaken (fun _ _ _ _ => trivial)⟩⟩ rfl rfl hl.1 rfl (lv_room (Nat.le_of_ble_eq_true rfl)) dX11_growth_5 ⟨Nat.le_of_ble_eq_true rfl, Nat.le_of_ble_eq_true rfl⟩) hS (fun q _ h => hFc q h) hFc (fun q _ h => hFc q h) (fun E ce q9 u t H1 locs ht hvm hpx hBX hz1 hk1 hS hce hcv hcl => ?_) (fun u t H1 locs ht hvm hw hB hz1 hk1 hS => ?_)
    · rcases hBX with ⟨rfl, c106⟩ | ⟨rfl, c107, c108⟩
      · exact vx_out (fun x h => (htab x h).elim) hlocks hce hcv hcl (fun t9 ht9 _ => ⟨(), trivial, (Or.inr (Or.inr (Or.inl ⟨rfl, c104, c105, c106⟩))), hS.F ht9⟩) hS.2.2 (by decide) (by decide)
      · exact vx_out (fun x h => (htab x h).elim) hlocks hce hcv hcl (fun t9 ht9 _ => ⟨(), trivial, (Or.inr (Or.inr (Or.inr (Or.inl ⟨rfl, c104, c105, c107, c108⟩)))), hS.F ht9⟩) hS.2.2 (by decide) (by decide)
    · skip
      obtain ⟨hP1, hK1, hD1⟩ := hB
      rw [ht] at hP1
      try dsimp only at hw
      obtain ⟨hP, hD⟩ := va_join (wr := [(Ad0, .inr (14, Fs0)), (Ad1, .inl (Ka0, 4, .inr (.inr (.inr (.inr Fa0))))), (Ad2, .inr (8, Fs1))]) (w1 := []) hP hD [] [0, 1, 2] rfl rfl (by decide) (by decide) hk1 hFc hP1 hD1
      have hK := hK.sub (tys' := [(Ka0, .object "HeapWorks$Picture")]) [0] rfl
      generalize H1 = H at hP hS ⊢
      refine W.widen (k := 2) (n := 12) (by omega) (by omega) ?_
      have hP : va_P (dC, dI) vwCl [(Ad0, .inr (14, Fs0)), (Ad1, .inl (Ka0, 4, .inr (.inr (.inr (.inr Fa0))))), (Ad2, .inr (8, Fs1))] H := hP
      have hD : va_D A [(Ad0, .inr (14, Fs0)), (Ad1, .inl (Ka0, 4, .inr (.inr (.inr (.inr Fa0))))), (Ad2, .inr (8, Fs1))] := hD
      obtain ⟨c109, c110⟩ := hw
      refine lv_iload_n hx hb dX11_growth_8 rfl (lv_at hl 3 rfl) ?_
      refine lv_if_lt (tgt := 17) hx hb dX11_growth_9 (by decide) (fun c111 => ?_) (fun c111 => ?_)
      · skip
        exact vx_throw0 (names := ["java/lang/RuntimeException", "java/lang/Exception"]) hx hb hst hown (by decide +kernel) (by decide +kernel) (hts (.classLink RX11 120 "java/lang/IndexOutOfBoundsException") (by decide +kernel)) (hts (.initialized "java/lang/IndexOutOfBoundsException") (by decide +kernel)) (vx_hat (B := xB "java/lang/IndexOutOfBoundsException") (fun w h => hts w ((in_z_X11_growth_1_at0_X11_122) w h)) (by decide +kernel) (Zz_xB hZ (by decide))) (by decide +kernel) hZ.1 hZ.2.1 hS (hl.1.trans hml.symm) dX11_growth_17 dX11_growth_20 dX11_growth_21 dX11_growth_24 (fun x h => (htab x h).elim) (by decide) (Nat.le_of_ble_eq_true rfl) (Nat.le_of_ble_eq_true rfl) (Nat.le_of_ble_eq_true rfl) hlocks (fun t _ h1 h2 => ⟨(), trivial, (Or.inr (Or.inr (Or.inr (Or.inr (Or.inl ⟨rfl, c104, c105, c109, c110, c111⟩))))), xx_F hS h1 h2⟩) hS.2.2 (by decide) (by decide)
      · skip
        refine lv_iload_n hx hb dX11_growth_12 rfl (lv_at hl 3 rfl) ?_
        refine lv_iconst (v := 2) hx hb dX11_growth_13 (by decide) ?_
        refine lv_icmp_le (tgt := 25) hx hb dX11_growth_14 (by decide) (fun c112 => ?_) (fun c112 => ?_)
        · skip
          refine lv_iload_n hx hb dX11_growth_25 rfl (lv_at hl 3 rfl) ?_
          refine lv_if_ne (tgt := 55) hx hb dX11_growth_26 (by decide) (fun c113 => ?_) (fun c113 => ?_)
          · skip
            refine lv_iload_n hx hb dX11_growth_55 rfl (lv_at hl 3 rfl) ?_
            refine lv_iconst (v := 1) hx hb dX11_growth_56 (by decide) ?_
            refine lv_icmp_ne (tgt := 86) hx hb dX11_growth_57 (by decide) (fun c114 => ?_) (fun c114 => ?_)
            · skip
              refine lv_aload_n hx hb dX11_growth_86 rfl (lv_at hl 0 rfl) ?_
              refine lv_aload_n hx hb dX11_growth_87 rfl (lv_at hl 0 rfl) ?_
              refine va_get (D := (dC, dI)) (ci := 14) (v := .ref Ad1) (C := RX11) (T := TX11) (N := 18) hx hb hts (in_z_X11_growth_1_X11) hown hK hP 0 rfl rfl 4 (by decide) (hts (.fieldLink RX11 41 "HeapWorks" "pictures" "[LHeapWorks$Picture;") (by decide +kernel)) (fun _ h9 => h9) (ow_at o_Fs0 0 rfl) dX11_growth_88 ?_
              refine lv_iload_n hx hb dX11_growth_91 rfl (lv_at hl 2 rfl) ?_
              refine va_aldq hx hb hK hP 1 0 rfl rfl (by rw [vp_in_iff]; (try simp only [i_lt, i_le, i_eq, kc_0, kc_4] at c109 c110); omega) dX11_growth_92 ?_
              refine W.eq (g2 := F0 m 93 ls (.ref Ad2 :: [.ref Ad0])) (by rw [hg0]; rfl) ?_
              refine lv_aload_n hx hb dX11_growth_93 rfl (lv_at hl 0 rfl) ?_
              refine va_get (D := (dC, dI)) (ci := 14) (v := .ref Ad1) (C := RX11) (T := TX11) (N := 18) hx hb hts (in_z_X11_growth_1_X11) hown hK hP 0 rfl rfl 4 (by decide) (hts (.fieldLink RX11 41 "HeapWorks" "pictures" "[LHeapWorks$Picture;") (by decide +kernel)) (fun _ h9 => h9) (ow_at o_Fs0 0 rfl) dX11_growth_94 ?_
              refine lv_iload_n hx hb dX11_growth_97 rfl (lv_at hl 1 rfl) ?_
              refine va_aldq hx hb hK hP 1 0 rfl rfl (by rw [vp_in_iff]; (try simp only [i_lt, i_le, i_eq, kc_0, kc_4] at c104 c105); omega) dX11_growth_98 ?_
              refine W.eq (g2 := F0 m 99 ls (.ref Ad2 :: [.ref Ad2, .ref Ad0])) (by rw [hg1]; rfl) ?_
              refine lv_aload_n hx hb dX11_growth_99 rfl (lv_at hl 0 rfl) ?_
              refine va_get (D := (dC, dI)) (ci := 14) (v := .ref Br0) (C := RX11) (T := TX11) (N := 18) hx hb hts (in_z_X11_growth_1_X11) hown hK hP 0 rfl rfl 14 (by decide) (hts (.fieldLink RX11 95 "HeapWorks" "grownThings" "[I") (by decide +kernel)) (fun _ h9 => h9) (ow_at o_Fs0 2 rfl) dX11_growth_100 ?_
              have hPc := hP.sub (ws' := [(Ad2, .inr (8, Fs1))]) [2] rfl
              have hDc := hD.sub (ws' := [(Ad2, .inr (8, Fs1))]) [2] (by decide) rfl
              have hKc := hK.sub (tys' := []) [] rfl
              have hFc := va_free (wc := [(Ad2, .inr (8, Fs1))]) hD hS hA [2] rfl
              refine va_calli (va_runV (As := [.ref Ad2, .ref Br0]) (rest := [.ref Ad0]) ⟨hx, hb, hml, hown, hts⟩ (z_X5_listChanged_1 l dC dI H.size Ad2 Fs1 Br0 (fh_sub o_Fs1.2 [0] rfl) ) (cwV 2 hts g_z_X11_growth_1_z_X5_listChanged_1_457 rfl rfl rfl (by decide +kernel) ⟨Nat.le_of_ble_eq_true rfl, Nat.le_of_ble_eq_true rfl⟩) ⟨fun a U g mk q => by obtain ⟨q0, q1, qP, qK, qD⟩ := q; exact ⟨q0, q1, qP, va_K.moved (u := U) (U := U.calling g mk a) (Vm.Alike.refl U.vm) qK, qD⟩, va_recv hK hP (ci := 8) (q0 := 2) rfl rfl, fun U hU hW => ⟨rfl, by rw [hU], by rw [hU]; exact hPc, va_K.moved hW.alike hKc, hDc.weaken (fun _ _ _ _ => trivial)⟩⟩ rfl rfl hl.1 rfl (lv_room (Nat.le_of_ble_eq_true rfl)) dX11_growth_103 ⟨Nat.le_of_ble_eq_true rfl, Nat.le_of_ble_eq_true rfl⟩) hS (fun q _ h => hFc q h) hFc (fun r115 u t H1 locs ht hvm hw hB hz1 hk1 hS => ?_)
              obtain ⟨hP1, hK1, hD1⟩ := hB
              rw [ht] at hP1
              try dsimp only at hw
              obtain ⟨hP, hD⟩ := va_join (wr := [(Ad0, .inr (14, Fs0)), (Ad1, .inl (Ka0, 4, .inr (.inr (.inr (.inr Fa0)))))]) (w1 := [(Ad2, .inr (8, Fs1))]) hP hD [2] [0, 1] rfl rfl (by decide) (by decide) hk1 hFc hP1 hD1
              have hK := hK.sub (tys' := [(Ka0, .object "HeapWorks$Picture")]) [0] rfl
              generalize H1 = H at hP hS ⊢
              have hP : va_P (dC, dI) vwCl [(Ad0, .inr (14, Fs0)), (Ad1, .inl (Ka0, 4, .inr (.inr (.inr (.inr Fa0))))), (Ad2, .inr (8, Fs1))] H := hP
              have hD : va_D A [(Ad0, .inr (14, Fs0)), (Ad1, .inl (Ka0, 4, .inr (.inr (.inr (.inr Fa0))))), (Ad2, .inr (8, Fs1))] := hD
              have er116 := hw
              subst er116
              refine va_put (D := (dC, dI)) (ci := 14) (v := .int 0) (ty := .int) (C := RX11) (T := TX11) (N := 18) hx hb hts (in_z_X11_growth_1_X11) tyX11 tyX11_ok nmX11 hown hK hP hD hS 0 rfl rfl 15 (by decide) (hts (.fieldLink RX11 454 "HeapWorks" "grownCount" "I") (by decide +kernel)) (fun _ h9 => h9) rfl (by decide +kernel) rfl rfl (by rw [o_Fs0.2.1]; decide) dX11_growth_106 (fun H locs hP hD hS => ?_)
              have hP : va_P (dC, dI) vwCl [(Ad0, .inr (14, (Fs0.set 15 (.int 0)))), (Ad1, .inl (Ka0, 4, .inr (.inr (.inr (.inr Fa0))))), (Ad2, .inr (8, Fs1))] H := hP
              have hD : va_D A [(Ad0, .inr (14, (Fs0.set 15 (.int 0)))), (Ad1, .inl (Ka0, 4, .inr (.inr (.inr (.inr Fa0))))), (Ad2, .inr (8, Fs1))] := hD
              have o_s117 := ow_set o_Fs0 15 (.int 0) (by decide) (l' := [(15, .int 0), (4, .ref Ad1), (14, .ref Br0)]) (w' := [15]) rfl rfl
              generalize (Fs0.set 15 (.int 0)) = s117 at hP hD o_s117
              refine lv_aload_n hx hb dX11_growth_109 rfl (lv_at hl 0 rfl) ?_
              refine va_get (D := (dC, dI)) (ci := 14) (v := .int 0) (C := RX11) (T := TX11) (N := 18) hx hb hts (in_z_X11_growth_1_X11) hown hK hP 0 rfl rfl 15 (by decide) (hts (.fieldLink RX11 454 "HeapWorks" "grownCount" "I") (by decide +kernel)) (fun _ h9 => h9) (ow_at o_s117 0 rfl) dX11_growth_110 ?_
              have hP9 := hP.sub (ws' := [(Ad0, .inr (14, s117)), (Ad1, .inl (Ka0, 4, .inr (.inr (.inr (.inr Fa0))))), (Ad2, .inr (8, Fs1))]) [0, 1, 2] rfl
              have hD9 := hD.sub (ws' := [(Ad0, .inr (14, s117)), (Ad1, .inl (Ka0, 4, .inr (.inr (.inr (.inr Fa0))))), (Ad2, .inr (8, Fs1))]) [0, 1, 2] (by decide) rfl
              have hK9 := hK.sub (tys' := [(Ka0, .object "HeapWorks$Picture")]) [0] rfl
              refine vx_ret ?_
              refine W.widen (k := 3) (n := 18) (by decide) (by decide) ?_
              exact W.iret (v := 0) hx hb hr (fun t ht hW => ⟨⟨0, s117, rfl, (Or.inl ⟨c104, c105, c109, c110, c111, c112, c113, c114, rfl, o_s117⟩), by rw [ht]; exact hP9, va_K.moved hW.alike hK9, hD9⟩, hS.F ht⟩) hS.2.2 dX11_growth_113
            · skip
              refine lv_aload_n hx hb dX11_growth_60 rfl (lv_at hl 0 rfl) ?_
              refine lv_aload_n hx hb dX11_growth_61 rfl (lv_at hl 0 rfl) ?_
              refine va_get (D := (dC, dI)) (ci := 14) (v := .ref Ad1) (C := RX11) (T := TX11) (N := 18) hx hb hts (in_z_X11_growth_1_X11) hown hK hP 0 rfl rfl 4 (by decide) (hts (.fieldLink RX11 41 "HeapWorks" "pictures" "[LHeapWorks$Picture;") (by decide +kernel)) (fun _ h9 => h9) (ow_at o_Fs0 0 rfl) dX11_growth_62 ?_
              refine lv_iload_n hx hb dX11_growth_65 rfl (lv_at hl 1 rfl) ?_
              refine va_aldq hx hb hK hP 1 0 rfl rfl (by rw [vp_in_iff]; (try simp only [i_lt, i_le, i_eq, kc_0, kc_4] at c104 c105); omega) dX11_growth_66 ?_
              refine W.eq (g2 := F0 m 67 ls (.ref Ad2 :: [.ref Ad0])) (by rw [hg1]; rfl) ?_
              refine lv_aload_n hx hb dX11_growth_67 rfl (lv_at hl 0 rfl) ?_
              refine va_get (D := (dC, dI)) (ci := 14) (v := .ref Ad1) (C := RX11) (T := TX11) (N := 18) hx hb hts (in_z_X11_growth_1_X11) hown hK hP 0 rfl rfl 4 (by decide) (hts (.fieldLink RX11 41 "HeapWorks" "pictures" "[LHeapWorks$Picture;") (by decide +kernel)) (fun _ h9 => h9) (ow_at o_Fs0 0 rfl) dX11_growth_68 ?_
              refine lv_iload_n hx hb dX11_growth_71 rfl (lv_at hl 2 rfl) ?_
              refine va_aldq hx hb hK hP 1 0 rfl rfl (by rw [vp_in_iff]; (try simp only [i_lt, i_le, i_eq, kc_0, kc_4] at c109 c110); omega) dX11_growth_72 ?_
              refine W.eq (g2 := F0 m 73 ls (.ref Ad2 :: [.ref Ad2, .ref Ad0])) (by rw [hg0]; rfl) ?_
              refine lv_aload_n hx hb dX11_growth_73 rfl (lv_at hl 0 rfl) ?_
              refine va_get (D := (dC, dI)) (ci := 14) (v := .ref Br0) (C := RX11) (T := TX11) (N := 18) hx hb hts (in_z_X11_growth_1_X11) hown hK hP 0 rfl rfl 14 (by decide) (hts (.fieldLink RX11 95 "HeapWorks" "grownThings" "[I") (by decide +kernel)) (fun _ h9 => h9) (ow_at o_Fs0 2 rfl) dX11_growth_74 ?_
              have hPc := hP.sub (ws' := [(Ad2, .inr (8, Fs1))]) [2] rfl
              have hDc := hD.sub (ws' := [(Ad2, .inr (8, Fs1))]) [2] (by decide) rfl
              have hKc := hK.sub (tys' := []) [] rfl
              have hFc := va_free (wc := [(Ad2, .inr (8, Fs1))]) hD hS hA [2] rfl
              refine va_calli (va_runV (As := [.ref Ad2, .ref Br0]) (rest := [.ref Ad0]) ⟨hx, hb, hml, hown, hts⟩ (z_X5_listMissing_1 l dC dI H.size Ad2 Fs1 Br0 (fh_sub o_Fs1.2 [0] rfl) ) (cwV 2 hts g_z_X11_growth_1_z_X5_listMissing_1_450 rfl rfl rfl (by decide +kernel) ⟨Nat.le_of_ble_eq_true rfl, Nat.le_of_ble_eq_true rfl⟩) ⟨fun a U g mk q => by obtain ⟨q0, q1, qP, qK, qD⟩ := q; exact ⟨q0, q1, qP, va_K.moved (u := U) (U := U.calling g mk a) (Vm.Alike.refl U.vm) qK, qD⟩, va_recv hK hP (ci := 8) (q0 := 2) rfl rfl, fun U hU hW => ⟨rfl, by rw [hU], by rw [hU]; exact hPc, va_K.moved hW.alike hKc, hDc.weaken (fun _ _ _ _ => trivial)⟩⟩ rfl rfl hl.1 rfl (lv_room (Nat.le_of_ble_eq_true rfl)) dX11_growth_77 ⟨Nat.le_of_ble_eq_true rfl, Nat.le_of_ble_eq_true rfl⟩) hS (fun q _ h => hFc q h) hFc (fun r118 u t H1 locs ht hvm hw hB hz1 hk1 hS => ?_)
              obtain ⟨hP1, hK1, hD1⟩ := hB
              rw [ht] at hP1
              try dsimp only at hw
              obtain ⟨hP, hD⟩ := va_join (wr := [(Ad0, .inr (14, Fs0)), (Ad1, .inl (Ka0, 4, .inr (.inr (.inr (.inr Fa0)))))]) (w1 := [(Ad2, .inr (8, Fs1))]) hP hD [2] [0, 1] rfl rfl (by decide) (by decide) hk1 hFc hP1 hD1
              have hK := hK.sub (tys' := [(Ka0, .object "HeapWorks$Picture")]) [0] rfl
              generalize H1 = H at hP hS ⊢
              have hP : va_P (dC, dI) vwCl [(Ad0, .inr (14, Fs0)), (Ad1, .inl (Ka0, 4, .inr (.inr (.inr (.inr Fa0))))), (Ad2, .inr (8, Fs1))] H := hP
              have hD : va_D A [(Ad0, .inr (14, Fs0)), (Ad1, .inl (Ka0, 4, .inr (.inr (.inr (.inr Fa0))))), (Ad2, .inr (8, Fs1))] := hD
              have er119 := hw
              subst er119
              refine va_put (D := (dC, dI)) (ci := 14) (v := .int 0) (ty := .int) (C := RX11) (T := TX11) (N := 18) hx hb hts (in_z_X11_growth_1_X11) tyX11 tyX11_ok nmX11 hown hK hP hD hS 0 rfl rfl 15 (by decide) (hts (.fieldLink RX11 454 "HeapWorks" "grownCount" "I") (by decide +kernel)) (fun _ h9 => h9) rfl (by decide +kernel) rfl rfl (by rw [o_Fs0.2.1]; decide) dX11_growth_80 (fun H locs hP hD hS => ?_)
              have hP : va_P (dC, dI) vwCl [(Ad0, .inr (14, (Fs0.set 15 (.int 0)))), (Ad1, .inl (Ka0, 4, .inr (.inr (.inr (.inr Fa0))))), (Ad2, .inr (8, Fs1))] H := hP
              have hD : va_D A [(Ad0, .inr (14, (Fs0.set 15 (.int 0)))), (Ad1, .inl (Ka0, 4, .inr (.inr (.inr (.inr Fa0))))), (Ad2, .inr (8, Fs1))] := hD
              have o_s120 := ow_set o_Fs0 15 (.int 0) (by decide) (l' := [(15, .int 0), (4, .ref Ad1), (14, .ref Br0)]) (w' := [15]) rfl rfl
              generalize (Fs0.set 15 (.int 0)) = s120 at hP hD o_s120
              refine lv_goto (tgt := 109) hx hb dX11_growth_83 (by decide) ?_
              refine lv_aload_n hx hb dX11_growth_109 rfl (lv_at hl 0 rfl) ?_
              refine va_get (D := (dC, dI)) (ci := 14) (v := .int 0) (C := RX11) (T := TX11) (N := 18) hx hb hts (in_z_X11_growth_1_X11) hown hK hP 0 rfl rfl 15 (by decide) (hts (.fieldLink RX11 454 "HeapWorks" "grownCount" "I") (by decide +kernel)) (fun _ h9 => h9) (ow_at o_s120 0 rfl) dX11_growth_110 ?_
              have hP9 := hP.sub (ws' := [(Ad0, .inr (14, s120)), (Ad1, .inl (Ka0, 4, .inr (.inr (.inr (.inr Fa0))))), (Ad2, .inr (8, Fs1))]) [0, 1, 2] rfl
              have hD9 := hD.sub (ws' := [(Ad0, .inr (14, s120)), (Ad1, .inl (Ka0, 4, .inr (.inr (.inr (.inr Fa0))))), (Ad2, .inr (8, Fs1))]) [0, 1, 2] (by decide) rfl
              have hK9 := hK.sub (tys' := [(Ka0, .object "HeapWorks$Picture")]) [0] rfl
              refine vx_ret ?_
              refine W.widen (k := 3) (n := 18) (by decide) (by decide) ?_
              exact W.iret (v := 0) hx hb hr (fun t ht hW => ⟨⟨0, s120, rfl, (Or.inr (Or.inl ⟨c104, c105, c109, c110, c111, c112, c113, c114, rfl, o_s120⟩)), by rw [ht]; exact hP9, va_K.moved hW.alike hK9, hD9⟩, hS.F ht⟩) hS.2.2 dX11_growth_113
          · skip
            refine lv_aload_n hx hb dX11_growth_29 rfl (lv_at hl 0 rfl) ?_
            refine lv_aload_n hx hb dX11_growth_30 rfl (lv_at hl 0 rfl) ?_
            refine va_get (D := (dC, dI)) (ci := 14) (v := .ref Ad1) (C := RX11) (T := TX11) (N := 18) hx hb hts (in_z_X11_growth_1_X11) hown hK hP 0 rfl rfl 4 (by decide) (hts (.fieldLink RX11 41 "HeapWorks" "pictures" "[LHeapWorks$Picture;") (by decide +kernel)) (fun _ h9 => h9) (ow_at o_Fs0 0 rfl) dX11_growth_31 ?_
            refine lv_iload_n hx hb dX11_growth_34 rfl (lv_at hl 2 rfl) ?_
            refine va_aldq hx hb hK hP 1 0 rfl rfl (by rw [vp_in_iff]; (try simp only [i_lt, i_le, i_eq, kc_0, kc_4] at c109 c110); omega) dX11_growth_35 ?_
            refine W.eq (g2 := F0 m 36 ls (.ref Ad2 :: [.ref Ad0])) (by rw [hg0]; rfl) ?_
            refine lv_aload_n hx hb dX11_growth_36 rfl (lv_at hl 0 rfl) ?_
            refine va_get (D := (dC, dI)) (ci := 14) (v := .ref Ad1) (C := RX11) (T := TX11) (N := 18) hx hb hts (in_z_X11_growth_1_X11) hown hK hP 0 rfl rfl 4 (by decide) (hts (.fieldLink RX11 41 "HeapWorks" "pictures" "[LHeapWorks$Picture;") (by decide +kernel)) (fun _ h9 => h9) (ow_at o_Fs0 0 rfl) dX11_growth_37 ?_
            refine lv_iload_n hx hb dX11_growth_40 rfl (lv_at hl 1 rfl) ?_
            refine va_aldq hx hb hK hP 1 0 rfl rfl (by rw [vp_in_iff]; (try simp only [i_lt, i_le, i_eq, kc_0, kc_4] at c104 c105); omega) dX11_growth_41 ?_
            refine W.eq (g2 := F0 m 42 ls (.ref Ad2 :: [.ref Ad2, .ref Ad0])) (by rw [hg1]; rfl) ?_
            refine lv_aload_n hx hb dX11_growth_42 rfl (lv_at hl 0 rfl) ?_
            refine va_get (D := (dC, dI)) (ci := 14) (v := .ref Br0) (C := RX11) (T := TX11) (N := 18) hx hb hts (in_z_X11_growth_1_X11) hown hK hP 0 rfl rfl 14 (by decide) (hts (.fieldLink RX11 95 "HeapWorks" "grownThings" "[I") (by decide +kernel)) (fun _ h9 => h9) (ow_at o_Fs0 2 rfl) dX11_growth_43 ?_
            have hPc := hP.sub (ws' := [(Ad2, .inr (8, Fs1))]) [2] rfl
            have hDc := hD.sub (ws' := [(Ad2, .inr (8, Fs1))]) [2] (by decide) rfl
            have hKc := hK.sub (tys' := []) [] rfl
            have hFc := va_free (wc := [(Ad2, .inr (8, Fs1))]) hD hS hA [2] rfl
            refine va_calli (va_runV (As := [.ref Ad2, .ref Br0]) (rest := [.ref Ad0]) ⟨hx, hb, hml, hown, hts⟩ (z_X5_listMissing_1 l dC dI H.size Ad2 Fs1 Br0 (fh_sub o_Fs1.2 [0] rfl) ) (cwV 2 hts g_z_X11_growth_1_z_X5_listMissing_1_450 rfl rfl rfl (by decide +kernel) ⟨Nat.le_of_ble_eq_true rfl, Nat.le_of_ble_eq_true rfl⟩) ⟨fun a U g mk q => by obtain ⟨q0, q1, qP, qK, qD⟩ := q; exact ⟨q0, q1, qP, va_K.moved (u := U) (U := U.calling g mk a) (Vm.Alike.refl U.vm) qK, qD⟩, va_recv hK hP (ci := 8) (q0 := 2) rfl rfl, fun U hU hW => ⟨rfl, by rw [hU], by rw [hU]; exact hPc, va_K.moved hW.alike hKc, hDc.weaken (fun _ _ _ _ => trivial)⟩⟩ rfl rfl hl.1 rfl (lv_room (Nat.le_of_ble_eq_true rfl)) dX11_growth_46 ⟨Nat.le_of_ble_eq_true rfl, Nat.le_of_ble_eq_true rfl⟩) hS (fun q _ h => hFc q h) hFc (fun r121 u t H1 locs ht hvm hw hB hz1 hk1 hS => ?_)
            obtain ⟨hP1, hK1, hD1⟩ := hB
            rw [ht] at hP1
            try dsimp only at hw
            obtain ⟨hP, hD⟩ := va_join (wr := [(Ad0, .inr (14, Fs0)), (Ad1, .inl (Ka0, 4, .inr (.inr (.inr (.inr Fa0)))))]) (w1 := [(Ad2, .inr (8, Fs1))]) hP hD [2] [0, 1] rfl rfl (by decide) (by decide) hk1 hFc hP1 hD1
            have hK := hK.sub (tys' := [(Ka0, .object "HeapWorks$Picture")]) [0] rfl
            generalize H1 = H at hP hS ⊢
            have hP : va_P (dC, dI) vwCl [(Ad0, .inr (14, Fs0)), (Ad1, .inl (Ka0, 4, .inr (.inr (.inr (.inr Fa0))))), (Ad2, .inr (8, Fs1))] H := hP
            have hD : va_D A [(Ad0, .inr (14, Fs0)), (Ad1, .inl (Ka0, 4, .inr (.inr (.inr (.inr Fa0))))), (Ad2, .inr (8, Fs1))] := hD
            have er122 := hw
            subst er122
            refine va_put (D := (dC, dI)) (ci := 14) (v := .int 0) (ty := .int) (C := RX11) (T := TX11) (N := 18) hx hb hts (in_z_X11_growth_1_X11) tyX11 tyX11_ok nmX11 hown hK hP hD hS 0 rfl rfl 15 (by decide) (hts (.fieldLink RX11 454 "HeapWorks" "grownCount" "I") (by decide +kernel)) (fun _ h9 => h9) rfl (by decide +kernel) rfl rfl (by rw [o_Fs0.2.1]; decide) dX11_growth_49 (fun H locs hP hD hS => ?_)
            have hP : va_P (dC, dI) vwCl [(Ad0, .inr (14, (Fs0.set 15 (.int 0)))), (Ad1, .inl (Ka0, 4, .inr (.inr (.inr (.inr Fa0))))), (Ad2, .inr (8, Fs1))] H := hP
            have hD : va_D A [(Ad0, .inr (14, (Fs0.set 15 (.int 0)))), (Ad1, .inl (Ka0, 4, .inr (.inr (.inr (.inr Fa0))))), (Ad2, .inr (8, Fs1))] := hD
            have o_s123 := ow_set o_Fs0 15 (.int 0) (by decide) (l' := [(15, .int 0), (4, .ref Ad1), (14, .ref Br0)]) (w' := [15]) rfl rfl
            generalize (Fs0.set 15 (.int 0)) = s123 at hP hD o_s123
            refine lv_goto (tgt := 109) hx hb dX11_growth_52 (by decide) ?_
            refine lv_aload_n hx hb dX11_growth_109 rfl (lv_at hl 0 rfl) ?_
            refine va_get (D := (dC, dI)) (ci := 14) (v := .int 0) (C := RX11) (T := TX11) (N := 18) hx hb hts (in_z_X11_growth_1_X11) hown hK hP 0 rfl rfl 15 (by decide) (hts (.fieldLink RX11 454 "HeapWorks" "grownCount" "I") (by decide +kernel)) (fun _ h9 => h9) (ow_at o_s123 0 rfl) dX11_growth_110 ?_
            have hP9 := hP.sub (ws' := [(Ad0, .inr (14, s123)), (Ad1, .inl (Ka0, 4, .inr (.inr (.inr (.inr Fa0))))), (Ad2, .inr (8, Fs1))]) [0, 1, 2] rfl
            have hD9 := hD.sub (ws' := [(Ad0, .inr (14, s123)), (Ad1, .inl (Ka0, 4, .inr (.inr (.inr (.inr Fa0))))), (Ad2, .inr (8, Fs1))]) [0, 1, 2] (by decide) rfl
            have hK9 := hK.sub (tys' := [(Ka0, .object "HeapWorks$Picture")]) [0] rfl
            refine vx_ret ?_
            refine W.widen (k := 3) (n := 18) (by decide) (by decide) ?_
            exact W.iret (v := 0) hx hb hr (fun t ht hW => ⟨⟨0, s123, rfl, (Or.inr (Or.inr (⟨c104, c105, c109, c110, c111, c112, c113, rfl, o_s123⟩))), by rw [ht]; exact hP9, va_K.moved hW.alike hK9, hD9⟩, hS.F ht⟩) hS.2.2 dX11_growth_113
        · skip
          exact vx_throw0 (names := ["java/lang/RuntimeException", "java/lang/Exception"]) hx hb hst hown (by decide +kernel) (by decide +kernel) (hts (.classLink RX11 120 "java/lang/IndexOutOfBoundsException") (by decide +kernel)) (hts (.initialized "java/lang/IndexOutOfBoundsException") (by decide +kernel)) (vx_hat (B := xB "java/lang/IndexOutOfBoundsException") (fun w h => hts w ((in_z_X11_growth_1_at0_X11_122) w h)) (by decide +kernel) (Zz_xB hZ (by decide))) (by decide +kernel) hZ.1 hZ.2.1 hS (hl.1.trans hml.symm) dX11_growth_17 dX11_growth_20 dX11_growth_21 dX11_growth_24 (fun x h => (htab x h).elim) (by decide) (Nat.le_of_ble_eq_true rfl) (Nat.le_of_ble_eq_true rfl) (Nat.le_of_ble_eq_true rfl) hlocks (fun t _ h1 h2 => ⟨(), trivial, (Or.inr (Or.inr (Or.inr (Or.inr (Or.inr (⟨rfl, c104, c105, c109, c110, c111, c112⟩)))))), xx_F hS h1 h2⟩) hS.2.2 (by decide) (by decide)

def l_z_X11_grown : List Cond := [.fieldLink RX11 454 "HeapWorks" "grownCount" "I"]
def w_z_X11_grown : List Cond := .code yX11_grown cX11_grown 2 (some .int) :: (l_z_X11_grown ++ (wsX110))
theorem in_z_X11_grown_X11 : ∀ w ∈ wsX110, w ∈ w_z_X11_grown := fun w h => List.mem_cons_of_mem _ (List.mem_append_right _ (h))
set_option maxHeartbeats 4000000 in
set_option maxRecDepth 100000 in
theorem z_X11_grown (l : Launch) (dC : Nat → ClassId) (dI : Nat → Nat → Nat) (sz : Nat) (Ad0 : Nat) (Fs0 : List Value) (Va0 : Int32) (k_Fs0 : fh Fs0 18 [(15, .int 0)])  : Met l yX11_grown w_z_X11_grown ({ frames := 0, cells := 0, slots := 0, locals := 0 }) (va_Pc [.ref Ad0, .int Va0] (fun U => U.heap.size = sz ∧ Wd dC dI [] (fun _ => True) [(Ad0, .inr (14, Fs0))] U)) (va_Qi (fun (r : Int32) (u : Unit) => (Va0 < 0 ∧ r = (-1)) ∨ (¬ Va0 < 0 ∧ 0 ≤ Va0 ∧ r = (-1))) (fun (u : Unit) t => Wd dC dI [] (va_A [(Ad0, .inr (14, Fs0))] sz) [(Ad0, .inr (14, Fs0))] t) (va_A [(Ad0, .inr (14, Fs0))] sz))  0 0 (va_A [(Ad0, .inr (14, Fs0))] sz) := by
  refine Met.ofW (cc := cX11_grown) (maxL := 2) (ret := (some .int)) (by decide) rfl ?_
  intro p e s m args below meth c s₁ B hml hv
  obtain ⟨rfl, hsz, hP, hK, hD0⟩ := hv
  have hx := B.exec
  have hb := B.bytes
  have hr := B.returns
  have hts := atoms_spec (ws := w_z_X11_grown) B.pre
  have hown : s.vm.findClass RX11 = some m.cls := findClass_of_methodNamed B.named
  have hlocks := B.notSynchronized
  subst hsz
  have hD := hD0.self (sz := s.heap.size)
  generalize hAe : va_A [(Ad0, .inr (14, Fs0))] s.heap.size = A at hD ⊢
  have hA : ∀ q : Nat, s.heap.size ≤ q → A q := fun q h => by rw [← hAe]; exact Or.inr h
  have hS : va_S A s.heap s.heap [] := va_S.rf
  have hl := lv_entry ([.ref Ad0, .int Va0]) (n := 2) (Nat.le_of_ble_eq_true rfl)
  rw [lg_entry_eq]
  generalize (lg_sl ([.ref Ad0, .int Va0]) ++ List.replicate (2 - (lg_sl ([.ref Ad0, .int Va0])).length) Slot.unset).toArray = ls at hl ⊢
  have hl : lv_has ls 2 [(0, .ref Ad0), (1, .int Va0)] := hl
  have o_Fs0 := ow_0 k_Fs0
  refine lv_iload_n hx hb dX11_grown_0 rfl (lv_at hl 1 rfl) ?_
  refine lv_if_lt (tgt := 21) hx hb dX11_grown_1 (by decide) (fun c101 => ?_) (fun c101 => ?_)
  · skip
    refine lv_iconst (v := (-1)) hx hb dX11_grown_21 (by decide) ?_
    have hP9 := hP.sub (ws' := [(Ad0, .inr (14, Fs0))]) [0] rfl
    have hD9 := hD.sub (ws' := [(Ad0, .inr (14, Fs0))]) [0] (by decide) rfl
    have hK9 := hK.sub (tys' := []) [] rfl
    exact W.iret (v := (-1)) hx hb hr (fun t ht hW => ⟨⟨(-1), (), rfl, (Or.inl ⟨c101, rfl⟩), by rw [ht]; exact hP9, va_K.moved hW.alike hK9, hD9⟩, hS.F ht⟩) hS.2.2 dX11_grown_22
  · skip
    refine lv_iload_n hx hb dX11_grown_4 rfl (lv_at hl 1 rfl) ?_
    refine lv_aload_n hx hb dX11_grown_5 rfl (lv_at hl 0 rfl) ?_
    refine va_get (D := (dC, dI)) (ci := 14) (v := .int 0) (C := RX11) (T := TX11) (N := 18) hx hb hts (in_z_X11_grown_X11) hown hK hP 0 rfl rfl 15 (by decide) (hts (.fieldLink RX11 454 "HeapWorks" "grownCount" "I") (by decide +kernel)) (fun _ h9 => h9) (ow_at o_Fs0 0 rfl) dX11_grown_6 ?_
    refine lv_icmp_ge (tgt := 21) hx hb dX11_grown_9 (by decide) (fun c102 => ?_) (fun c102 => (by exfalso; have bd_Va0 := i_bd Va0; (try simp only [i_lt, i_le, i_eq, kc_0] at c101 c102); omega))
    refine lv_iconst (v := (-1)) hx hb dX11_grown_21 (by decide) ?_
    have hP9 := hP.sub (ws' := [(Ad0, .inr (14, Fs0))]) [0] rfl
    have hD9 := hD.sub (ws' := [(Ad0, .inr (14, Fs0))]) [0] (by decide) rfl
    have hK9 := hK.sub (tys' := []) [] rfl
    exact W.iret (v := (-1)) hx hb hr (fun t ht hW => ⟨⟨(-1), (), rfl, (Or.inr (⟨c101, c102, rfl⟩)), by rw [ht]; exact hP9, va_K.moved hW.alike hK9, hD9⟩, hS.F ht⟩) hS.2.2 dX11_grown_22

def l_z_X11_like : List Cond := [.methodLink RX11 359 yX11_isThing, .instanceMethod yX11_isThing, .selects RX11 yX11_isThing yX11_isThing, .initialized RX11, .classLink RX11 221 "java/util/NoSuchElementException", .initialized "java/util/NoSuchElementException", .code yX11_isThing cX11_isThing 3 (some .boolean), .methodLink RX11 411 yX11_isPicture, .static yX11_isPicture, .fieldLink RX11 41 "HeapWorks" "pictures" "[LHeapWorks$Picture;", .fieldLink RX11 356 "HeapWorks$Picture" "things" "I", .code yX11_isPicture cX11_isPicture 1 (some .boolean)]
def w_z_X11_like : List Cond := .code yX11_like cX11_like 5 (some .boolean) :: (l_z_X11_like ++ ((((vx_at0 RX11 223 "java/util/NoSuchElementException" ["java/lang/RuntimeException", "java/lang/Exception"]).filter goodWord) ++ (wsX110 ++ wsX50))))
theorem in_z_X11_like_at0_X11_223 : ∀ w ∈ ((vx_at0 RX11 223 "java/util/NoSuchElementException" ["java/lang/RuntimeException", "java/lang/Exception"]).filter goodWord), w ∈ w_z_X11_like := fun w h => List.mem_cons_of_mem _ (List.mem_append_right _ (List.mem_append_left _ h))
theorem in_z_X11_like_X11 : ∀ w ∈ wsX110, w ∈ w_z_X11_like := fun w h => List.mem_cons_of_mem _ (List.mem_append_right _ (List.mem_append_right _ (List.mem_append_left _ h)))
theorem in_z_X11_like_X5 : ∀ w ∈ wsX50, w ∈ w_z_X11_like := fun w h => List.mem_cons_of_mem _ (List.mem_append_right _ (List.mem_append_right _ (List.mem_append_right _ (h))))
theorem g_z_X11_like_z_X11_isThing_359 : GoodIn w_z_X11_like (wsV RX11 359 RX11 yX11_isThing w_z_X11_isThing) := goodIn_app (goodIn_r (([.methodLink RX11 359 yX11_isThing, .instanceMethod yX11_isThing, .selects RX11 yX11_isThing yX11_isThing, .initialized RX11] : List Cond)) [1, 2, 3, 4] rfl (by decide +kernel)) (goodIn_ca (goodIn_r (.code yX11_isThing cX11_isThing 3 (some .boolean) :: l_z_X11_isThing) [7, 8, 9, 4, 10, 11, 12] rfl (by decide +kernel)) (goodIn_app (goodIn_in (in_z_X11_like_X11) gd_X11) (goodIn_in (in_z_X11_like_X5) gd_X5)))
set_option maxHeartbeats 4000000 in
set_option maxRecDepth 100000 in
theorem z_X11_like (l : Launch) (dC : Nat → ClassId) (dI : Nat → Nat → Nat) (sz : Nat) (Ad0 : Nat) (Fs0 : List Value) (Ad1 : Nat) (Fa0 : Nat → Option Nat) (Ka0 : ClassId) (Ad2 : Nat) (Fs1 : List Value) (Va0 : Int32) (Va1 : Int32) (Va2 : Int32) (Va3 : Int32) (k_Fs0 : fh Fs0 18 [(4, .ref Ad1)]) (k_Fs1 : fh Fs1 21 [(0, .int 0)]) (hst : l.stackTraces = false) (hg0 : Fa0 Va0.toNatClampNeg = some Ad2) : vx_Met l yX11_like w_z_X11_like ({ frames := 7, cells := 1, slots := 6, locals := 140 }) (va_Pc [.ref Ad0, .int Va0, .int Va1, .int Va2, .int Va3] (fun U => U.heap.size = sz ∧ Zz (va_A [(Ad0, .inr (14, Fs0)), (Ad1, .inl (Ka0, 4, .inr (.inr (.inr (.inr Fa0))))), (Ad2, .inr (8, Fs1))] sz) U ∧ Wd dC dI [(Ka0, .object "HeapWorks$Picture")] (fun _ => True) [(Ad0, .inr (14, Fs0)), (Ad1, .inl (Ka0, 4, .inr (.inr (.inr (.inr Fa0))))), (Ad2, .inr (8, Fs1))] U)) (va_Qi (fun (r : Int32) (u : Unit) => False) (fun (u : Unit) t => Wd dC dI [(Ka0, .object "HeapWorks$Picture")] (va_A [(Ad0, .inr (14, Fs0)), (Ad1, .inl (Ka0, 4, .inr (.inr (.inr (.inr Fa0))))), (Ad2, .inr (8, Fs1))] sz) [(Ad0, .inr (14, Fs0)), (Ad1, .inl (Ka0, 4, .inr (.inr (.inr (.inr Fa0))))), (Ad2, .inr (8, Fs1))] t) (va_A [(Ad0, .inr (14, Fs0)), (Ad1, .inl (Ka0, 4, .inr (.inr (.inr (.inr Fa0))))), (Ad2, .inr (8, Fs1))] sz)) (vx_X (fun _ : Unit => True) (fun E _ _ => (E = "java/util/NoSuchElementException" ∧ Va0 < 0) ∨ (E = "java/util/NoSuchElementException" ∧ ¬ Va0 < 0 ∧ 4 ≤ Va0) ∨ (E = "java/util/NoSuchElementException" ∧ ¬ Va0 < 0 ∧ ¬ 4 ≤ Va0 ∧ Va1 < 0) ∨ (E = "java/util/NoSuchElementException" ∧ ¬ Va0 < 0 ∧ ¬ 4 ≤ Va0 ∧ ¬ Va1 < 0 ∧ 0 ≤ Va1)) (va_A [(Ad0, .inr (14, Fs0)), (Ad1, .inl (Ka0, 4, .inr (.inr (.inr (.inr Fa0))))), (Ad2, .inr (8, Fs1))] sz)) 1 6 (va_A [(Ad0, .inr (14, Fs0)), (Ad1, .inl (Ka0, 4, .inr (.inr (.inr (.inr Fa0))))), (Ad2, .inr (8, Fs1))] sz) := by
  refine vx_ofW (cc := cX11_like) (maxL := 5) (ret := (some .boolean)) (by decide) rfl ?_
  intro p e s m args below meth c s₁ B hml htab hv
  obtain ⟨rfl, hsz, hZ, hP, hK, hD0⟩ := hv
  have hx := B.exec
  have hb := B.bytes
  have hr := B.returns
  have hts := atoms_spec (ws := w_z_X11_like) B.pre
  have hown : s.vm.findClass RX11 = some m.cls := findClass_of_methodNamed B.named
  have hlocks := B.notSynchronized
  subst hsz
  have hD := hD0.self (sz := s.heap.size)
  generalize hAe : va_A [(Ad0, .inr (14, Fs0)), (Ad1, .inl (Ka0, 4, .inr (.inr (.inr (.inr Fa0))))), (Ad2, .inr (8, Fs1))] s.heap.size = A at hD hZ ⊢
  have hA : ∀ q : Nat, s.heap.size ≤ q → A q := fun q h => by rw [← hAe]; exact Or.inr h
  have hS : va_S A s.heap s.heap [] := va_S.rf
  have hl := lv_entry ([.ref Ad0, .int Va0, .int Va1, .int Va2, .int Va3]) (n := 5) (Nat.le_of_ble_eq_true rfl)
  rw [lg_entry_eq]
  generalize (lg_sl ([.ref Ad0, .int Va0, .int Va1, .int Va2, .int Va3]) ++ List.replicate (5 - (lg_sl ([.ref Ad0, .int Va0, .int Va1, .int Va2, .int Va3])).length) Slot.unset).toArray = ls at hl ⊢
  have hl : lv_has ls 5 [(0, .ref Ad0), (1, .int Va0), (2, .int Va1), (3, .int Va2), (4, .int Va3)] := hl
  have o_Fs0 := ow_0 k_Fs0
  have o_Fs1 := ow_0 k_Fs1
  refine lv_aload_n hx hb dX11_like_0 rfl (lv_at hl 0 rfl) ?_
  refine lv_iload_n hx hb dX11_like_1 rfl (lv_at hl 1 rfl) ?_
  refine lv_iload_n hx hb dX11_like_2 rfl (lv_at hl 2 rfl) ?_
  have hPc := hP.sub (ws' := [(Ad0, .inr (14, Fs0)), (Ad1, .inl (Ka0, 4, .inr (.inr (.inr (.inr Fa0))))), (Ad2, .inr (8, Fs1))]) [0, 1, 2] rfl
  have hDc := hD.sub (ws' := [(Ad0, .inr (14, Fs0)), (Ad1, .inl (Ka0, 4, .inr (.inr (.inr (.inr Fa0))))), (Ad2, .inr (8, Fs1))]) [0, 1, 2] (by decide) rfl
  have hKc := hK.sub (tys' := [(Ka0, .object "HeapWorks$Picture")]) [0] rfl
  have hFc := va_free (wc := [(Ad0, .inr (14, Fs0)), (Ad1, .inl (Ka0, 4, .inr (.inr (.inr (.inr Fa0))))), (Ad2, .inr (8, Fs1))]) hD hS hA [0, 1, 2] rfl
  refine va_calli (va_runV (As := [.int Va0, .int Va1]) (rest := []) ⟨hx, hb, hml, hown, hts⟩ (z_X11_isThing l dC dI s.heap.size Ad0 Fs0 Ad1 Fa0 Ka0 Ad2 Fs1 Va0 Va1 (fh_sub o_Fs0.2 [0] rfl) (fh_sub o_Fs1.2 [0] rfl) hg0) (cwV 2 hts g_z_X11_like_z_X11_isThing_359 rfl rfl rfl (by decide +kernel) ⟨Nat.le_of_ble_eq_true rfl, Nat.le_of_ble_eq_true rfl⟩) ⟨fun a U g mk q => by obtain ⟨q0, q1, qP, qK, qD⟩ := q; exact ⟨q0, q1, qP, va_K.moved (u := U) (U := U.calling g mk a) (Vm.Alike.refl U.vm) qK, qD⟩, va_recv hK hP (ci := 14) (q0 := 0) rfl rfl, fun U hU hW => ⟨rfl, by rw [hU], by rw [hU]; exact hPc, va_K.moved hW.alike hKc, hDc.weaken (fun _ _ _ _ => trivial)⟩⟩ rfl rfl hl.1 rfl (lv_room (Nat.le_of_ble_eq_true rfl)) dX11_like_3 ⟨Nat.le_of_ble_eq_true rfl, Nat.le_of_ble_eq_true rfl⟩) hS (fun q _ h => hFc q h) hFc (fun r101 u t H1 locs ht hvm hw hB hz1 hk1 hS => ?_)
  obtain ⟨hP1, hK1, hD1⟩ := hB
  rw [ht] at hP1
  try dsimp only at hw
  obtain ⟨hP, hD⟩ := va_join (wr := []) (w1 := [(Ad0, .inr (14, Fs0)), (Ad1, .inl (Ka0, 4, .inr (.inr (.inr (.inr Fa0))))), (Ad2, .inr (8, Fs1))]) hP hD [0, 1, 2] [] rfl rfl (by decide) (by decide) hk1 hFc hP1 hD1
  have hK := hK.sub (tys' := [(Ka0, .object "HeapWorks$Picture")]) [0] rfl
  generalize H1 = H at hP hS ⊢
  have hP : va_P (dC, dI) vwCl [(Ad0, .inr (14, Fs0)), (Ad1, .inl (Ka0, 4, .inr (.inr (.inr (.inr Fa0))))), (Ad2, .inr (8, Fs1))] H := hP
  have hD : va_D A [(Ad0, .inr (14, Fs0)), (Ad1, .inl (Ka0, 4, .inr (.inr (.inr (.inr Fa0))))), (Ad2, .inr (8, Fs1))] := hD
  rcases hw with ⟨c102, er103⟩ | ⟨c104, c105, er106⟩ | ⟨c107, c108, c109, er110⟩ | ⟨c111, c112, c113, c114, er115⟩
  · skip
    subst er103
    refine lv_if_eq (tgt := 19) hx hb dX11_like_6 (by decide) (fun c116 => ?_) (fun c116 => absurd c116 (by decide))
    exact vx_throw0 (names := ["java/lang/RuntimeException", "java/lang/Exception"]) hx hb hst hown (by decide +kernel) (by decide +kernel) (hts (.classLink RX11 221 "java/util/NoSuchElementException") (by decide +kernel)) (hts (.initialized "java/util/NoSuchElementException") (by decide +kernel)) (vx_hat (B := xB "java/util/NoSuchElementException") (fun w h => hts w ((in_z_X11_like_at0_X11_223) w h)) (by decide +kernel) (Zz_xB hZ (by decide))) (by decide +kernel) hZ.1 hZ.2.1 hS (hl.1.trans hml.symm) dX11_like_19 dX11_like_22 dX11_like_23 dX11_like_26 (fun x h => (htab x h).elim) (by decide) (Nat.le_of_ble_eq_true rfl) (Nat.le_of_ble_eq_true rfl) (Nat.le_of_ble_eq_true rfl) hlocks (fun t _ h1 h2 => ⟨(), trivial, (Or.inl ⟨rfl, c102⟩), xx_F hS h1 h2⟩) hS.2.2 (by decide) (by decide)
  · skip
    subst er106
    refine lv_if_eq (tgt := 19) hx hb dX11_like_6 (by decide) (fun c117 => ?_) (fun c117 => absurd c117 (by decide))
    exact vx_throw0 (names := ["java/lang/RuntimeException", "java/lang/Exception"]) hx hb hst hown (by decide +kernel) (by decide +kernel) (hts (.classLink RX11 221 "java/util/NoSuchElementException") (by decide +kernel)) (hts (.initialized "java/util/NoSuchElementException") (by decide +kernel)) (vx_hat (B := xB "java/util/NoSuchElementException") (fun w h => hts w ((in_z_X11_like_at0_X11_223) w h)) (by decide +kernel) (Zz_xB hZ (by decide))) (by decide +kernel) hZ.1 hZ.2.1 hS (hl.1.trans hml.symm) dX11_like_19 dX11_like_22 dX11_like_23 dX11_like_26 (fun x h => (htab x h).elim) (by decide) (Nat.le_of_ble_eq_true rfl) (Nat.le_of_ble_eq_true rfl) (Nat.le_of_ble_eq_true rfl) hlocks (fun t _ h1 h2 => ⟨(), trivial, (Or.inr (Or.inl ⟨rfl, c104, c105⟩)), xx_F hS h1 h2⟩) hS.2.2 (by decide) (by decide)
  · skip
    subst er110
    refine lv_if_eq (tgt := 19) hx hb dX11_like_6 (by decide) (fun c118 => ?_) (fun c118 => absurd c118 (by decide))
    exact vx_throw0 (names := ["java/lang/RuntimeException", "java/lang/Exception"]) hx hb hst hown (by decide +kernel) (by decide +kernel) (hts (.classLink RX11 221 "java/util/NoSuchElementException") (by decide +kernel)) (hts (.initialized "java/util/NoSuchElementException") (by decide +kernel)) (vx_hat (B := xB "java/util/NoSuchElementException") (fun w h => hts w ((in_z_X11_like_at0_X11_223) w h)) (by decide +kernel) (Zz_xB hZ (by decide))) (by decide +kernel) hZ.1 hZ.2.1 hS (hl.1.trans hml.symm) dX11_like_19 dX11_like_22 dX11_like_23 dX11_like_26 (fun x h => (htab x h).elim) (by decide) (Nat.le_of_ble_eq_true rfl) (Nat.le_of_ble_eq_true rfl) (Nat.le_of_ble_eq_true rfl) hlocks (fun t _ h1 h2 => ⟨(), trivial, (Or.inr (Or.inr (Or.inl ⟨rfl, c107, c108, c109⟩))), xx_F hS h1 h2⟩) hS.2.2 (by decide) (by decide)
  · skip
    subst er115
    refine lv_if_eq (tgt := 19) hx hb dX11_like_6 (by decide) (fun c119 => ?_) (fun c119 => absurd c119 (by decide))
    exact vx_throw0 (names := ["java/lang/RuntimeException", "java/lang/Exception"]) hx hb hst hown (by decide +kernel) (by decide +kernel) (hts (.classLink RX11 221 "java/util/NoSuchElementException") (by decide +kernel)) (hts (.initialized "java/util/NoSuchElementException") (by decide +kernel)) (vx_hat (B := xB "java/util/NoSuchElementException") (fun w h => hts w ((in_z_X11_like_at0_X11_223) w h)) (by decide +kernel) (Zz_xB hZ (by decide))) (by decide +kernel) hZ.1 hZ.2.1 hS (hl.1.trans hml.symm) dX11_like_19 dX11_like_22 dX11_like_23 dX11_like_26 (fun x h => (htab x h).elim) (by decide) (Nat.le_of_ble_eq_true rfl) (Nat.le_of_ble_eq_true rfl) (Nat.le_of_ble_eq_true rfl) hlocks (fun t _ h1 h2 => ⟨(), trivial, (Or.inr (Or.inr (Or.inr (⟨rfl, c111, c112, c113, c114⟩)))), xx_F hS h1 h2⟩) hS.2.2 (by decide) (by decide)

def l_z_X6_readSet : List Cond := [.fieldLink RX6 9 "HeapWorks$Program" "tape" "LHeapWorks$Tape;", .fieldLink RX6 45 "HeapWorks$Tape" "word" "I", .methodLink RX6 51 yX6_refuse, .instanceMethod yX6_refuse, .selects RX6 yX6_refuse yX6_refuse, .initialized RX6, .code yX6_refuse cX6_refuse 1 (some .boolean), .methodLink RX6 112 yX6_fail, .instanceMethod yX6_fail, .selects RX6 yX6_fail yX6_fail, .code yX6_fail cX6_fail 2 (some .boolean), .fieldLink RX6 75 "HeapWorks$Program" "fault" "I", .fieldLink RX6 111 "HeapWorks$Tape" "place" "I", .fieldLink RX6 78 "HeapWorks$Program" "place" "I"]
def w_z_X6_readSet : List Cond := .code yX6_readSet cX6_readSet 3 (some .boolean) :: (l_z_X6_readSet ++ ((wsX60 ++ wsX90)))
theorem in_z_X6_readSet_X6 : ∀ w ∈ wsX60, w ∈ w_z_X6_readSet := fun w h => List.mem_cons_of_mem _ (List.mem_append_right _ (List.mem_append_left _ h))
theorem in_z_X6_readSet_X9 : ∀ w ∈ wsX90, w ∈ w_z_X6_readSet := fun w h => List.mem_cons_of_mem _ (List.mem_append_right _ (List.mem_append_right _ (h)))
theorem g_z_X6_readSet_z_X6_refuse_51 : GoodIn w_z_X6_readSet (wsV RX6 51 RX6 yX6_refuse w_z_X6_refuse) := goodIn_app (goodIn_r (([.methodLink RX6 51 yX6_refuse, .instanceMethod yX6_refuse, .selects RX6 yX6_refuse yX6_refuse, .initialized RX6] : List Cond)) [3, 4, 5, 6] rfl (by decide +kernel)) (goodIn_ca (goodIn_r (.code yX6_refuse cX6_refuse 1 (some .boolean) :: l_z_X6_refuse) [7, 1, 2, 8, 9, 10, 6, 11, 12, 13, 14] rfl (by decide +kernel)) (goodIn_app (goodIn_in (in_z_X6_readSet_X6) gd_X6) (goodIn_in (in_z_X6_readSet_X9) gd_X9)))
set_option maxHeartbeats 4000000 in
set_option maxRecDepth 100000 in
theorem z_X6_readSet (l : Launch) (dC : Nat → ClassId) (dI : Nat → Nat → Nat) (sz : Nat) (Ad0 : Nat) (Fs0 : List Value) (Ad1 : Nat) (Fs1 : List Value) (k_Fs0 : fh Fs0 12 [(10, .int 0), (9, .int 0)]) (k_Fs1 : fh Fs1 19 [(0, .ref Ad0), (0, .ref Ad0)])  : Met l yX6_readSet w_z_X6_readSet ({ frames := 2, cells := 0, slots := 0, locals := 41 }) (va_Pc [.ref Ad1, .int 0] (fun U => U.heap.size = sz ∧ Wd dC dI [] (fun _ => True) [(Ad0, .inr (12, Fs0)), (Ad1, .inr (9, Fs1))] U)) (va_Qi (fun (r : Int32) (u : List Value) => (r = 0 ∧ ow Fs1 (u) 19 [7, 6] [(7, .int 0), (6, .int 1), (0, .ref Ad0), (0, .ref Ad0), (0, .ref Ad0), (0, .ref Ad0), (0, .ref Ad0), (0, .ref Ad0)])) (fun (u : List Value) t => Wd dC dI [] (va_A [(Ad0, .inr (12, Fs0)), (Ad1, .inr (9, Fs1))] sz) [(Ad0, .inr (12, Fs0)), (Ad1, .inr (9, (u)))] t) (va_A [(Ad0, .inr (12, Fs0)), (Ad1, .inr (9, Fs1))] sz))  0 0 (va_A [(Ad0, .inr (12, Fs0)), (Ad1, .inr (9, Fs1))] sz) := by
  refine Met.ofW (cc := cX6_readSet) (maxL := 3) (ret := (some .boolean)) (by decide) rfl ?_
  intro p e s m args below meth c s₁ B hml hv
  obtain ⟨rfl, hsz, hP, hK, hD0⟩ := hv
  have hx := B.exec
  have hb := B.bytes
  have hr := B.returns
  have hts := atoms_spec (ws := w_z_X6_readSet) B.pre
  have hown : s.vm.findClass RX6 = some m.cls := findClass_of_methodNamed B.named
  have hlocks := B.notSynchronized
  subst hsz
  have hD := hD0.self (sz := s.heap.size)
  generalize hAe : va_A [(Ad0, .inr (12, Fs0)), (Ad1, .inr (9, Fs1))] s.heap.size = A at hD ⊢
  have hA : ∀ q : Nat, s.heap.size ≤ q → A q := fun q h => by rw [← hAe]; exact Or.inr h
  have hS : va_S A s.heap s.heap [] := va_S.rf
  have hl := lv_entry ([.ref Ad1, .int 0]) (n := 3) (Nat.le_of_ble_eq_true rfl)
  rw [lg_entry_eq]
  generalize (lg_sl ([.ref Ad1, .int 0]) ++ List.replicate (3 - (lg_sl ([.ref Ad1, .int 0])).length) Slot.unset).toArray = ls at hl ⊢
  have hl : lv_has ls 3 [(0, .ref Ad1), (1, .int 0)] := hl
  have o_Fs0 := ow_0 k_Fs0
  have o_Fs1 := ow_0 k_Fs1
  refine lv_aload_n hx hb dX6_readSet_0 rfl (lv_at hl 0 rfl) ?_
  refine va_get (D := (dC, dI)) (ci := 9) (v := .ref Ad0) (C := RX6) (T := TX6) (N := 19) hx hb hts (in_z_X6_readSet_X6) hown hK hP 1 rfl rfl 0 (by decide) (hts (.fieldLink RX6 9 "HeapWorks$Program" "tape" "LHeapWorks$Tape;") (by decide +kernel)) (fun _ h9 => h9) (ow_at o_Fs1 0 rfl) dX6_readSet_1 ?_
  refine va_get (D := (dC, dI)) (ci := 12) (v := .int 0) (C := RX9) (T := TX9) (N := 12) hx hb hts (in_z_X6_readSet_X9) hown hK hP 0 rfl rfl 9 (by decide) (hts (.fieldLink RX6 45 "HeapWorks$Tape" "word" "I") (by decide +kernel)) (fun _ h9 => h9) (ow_at o_Fs0 1 rfl) dX6_readSet_4 ?_
  refine lv_istore_n (lv' := [(2, .int 0), (0, .ref Ad1), (1, .int 0)]) hx hb dX6_readSet_7 rfl hl (by decide) rfl (fun ls hl => ?_)
  refine lv_iload_n hx hb dX6_readSet_8 rfl (lv_at hl 0 rfl) ?_
  refine lv_bipush (v := 30) hx hb dX6_readSet_9 (by decide) ?_
  refine lv_icmp_eq (tgt := 49) hx hb dX6_readSet_11 (by decide) (fun c101 => absurd c101 (by decide)) (fun c101 => ?_)
  refine lv_iload_n hx hb dX6_readSet_14 rfl (lv_at hl 0 rfl) ?_
  refine lv_bipush (v := 31) hx hb dX6_readSet_15 (by decide) ?_
  refine lv_icmp_eq (tgt := 49) hx hb dX6_readSet_17 (by decide) (fun c102 => absurd c102 (by decide)) (fun c102 => ?_)
  refine lv_iload_n hx hb dX6_readSet_20 rfl (lv_at hl 0 rfl) ?_
  refine lv_bipush (v := 32) hx hb dX6_readSet_21 (by decide) ?_
  refine lv_icmp_eq (tgt := 49) hx hb dX6_readSet_23 (by decide) (fun c103 => absurd c103 (by decide)) (fun c103 => ?_)
  refine lv_iload_n hx hb dX6_readSet_26 rfl (lv_at hl 0 rfl) ?_
  refine lv_bipush (v := 55) hx hb dX6_readSet_27 (by decide) ?_
  refine lv_icmp_eq (tgt := 49) hx hb dX6_readSet_29 (by decide) (fun c104 => absurd c104 (by decide)) (fun c104 => ?_)
  refine lv_iload_n hx hb dX6_readSet_32 rfl (lv_at hl 0 rfl) ?_
  refine lv_bipush (v := 56) hx hb dX6_readSet_33 (by decide) ?_
  refine lv_icmp_eq (tgt := 49) hx hb dX6_readSet_35 (by decide) (fun c105 => absurd c105 (by decide)) (fun c105 => ?_)
  refine lv_iload_n hx hb dX6_readSet_38 rfl (lv_at hl 0 rfl) ?_
  refine lv_bipush (v := 57) hx hb dX6_readSet_39 (by decide) ?_
  refine lv_icmp_eq (tgt := 49) hx hb dX6_readSet_41 (by decide) (fun c106 => absurd c106 (by decide)) (fun c106 => ?_)
  refine lv_aload_n hx hb dX6_readSet_44 rfl (lv_at hl 1 rfl) ?_
  have hPc := hP.sub (ws' := [(Ad0, .inr (12, Fs0)), (Ad1, .inr (9, Fs1))]) [0, 1] rfl
  have hDc := hD.sub (ws' := [(Ad0, .inr (12, Fs0)), (Ad1, .inr (9, Fs1))]) [0, 1] (by decide) rfl
  have hKc := hK.sub (tys' := []) [] rfl
  have hFc := va_free (wc := [(Ad0, .inr (12, Fs0)), (Ad1, .inr (9, Fs1))]) hD hS hA [0, 1] rfl
  refine va_calli (va_runV (As := []) (rest := []) ⟨hx, hb, hml, hown, hts⟩ (z_X6_refuse l dC dI s.heap.size Ad0 Fs0 Ad1 Fs1 (fh_sub o_Fs0.2 [0, 1] rfl) (fh_sub o_Fs1.2 [0, 0] rfl) ) (cwV 0 hts g_z_X6_readSet_z_X6_refuse_51 rfl rfl rfl (by decide +kernel) ⟨Nat.le_of_ble_eq_true rfl, Nat.le_of_ble_eq_true rfl⟩) ⟨fun a U g mk q => by obtain ⟨q0, q1, qP, qK, qD⟩ := q; exact ⟨q0, q1, qP, va_K.moved (u := U) (U := U.calling g mk a) (Vm.Alike.refl U.vm) qK, qD⟩, va_recv hK hP (ci := 9) (q0 := 1) rfl rfl, fun U hU hW => ⟨rfl, by rw [hU], by rw [hU]; exact hPc, va_K.moved hW.alike hKc, hDc.weaken (fun _ _ _ _ => trivial)⟩⟩ rfl rfl hl.1 rfl (lv_room (Nat.le_of_ble_eq_true rfl)) dX6_readSet_45 ⟨Nat.le_of_ble_eq_true rfl, Nat.le_of_ble_eq_true rfl⟩) hS (fun q _ h => hFc q h) hFc (fun r107 u t H1 locs ht hvm hw hB hz1 hk1 hS => ?_)
  obtain ⟨s108, rfl⟩ : ∃ z, z = u := ⟨_, rfl⟩
  obtain ⟨hP1, hK1, hD1⟩ := hB
  rw [ht] at hP1
  try dsimp only at hw
  obtain ⟨hP, hD⟩ := va_join (wr := []) (w1 := [(Ad0, .inr (12, Fs0)), (Ad1, .inr (9, s108))]) hP hD [0, 1] [] rfl rfl (by decide) (by decide) hk1 hFc hP1 hD1
  have hK := hK.sub (tys' := []) [] rfl
  generalize H1 = H at hP hS ⊢
  have hP : va_P (dC, dI) vwCl [(Ad0, .inr (12, Fs0)), (Ad1, .inr (9, s108))] H := hP
  have hD : va_D A [(Ad0, .inr (12, Fs0)), (Ad1, .inr (9, s108))] := hD
  obtain ⟨er109, o_s108⟩ := hw
  subst er109
  have o_s108 := ow_on o_Fs1 o_s108 (l' := [(7, .int 0), (6, .int 1), (0, .ref Ad0), (0, .ref Ad0), (0, .ref Ad0), (0, .ref Ad0), (0, .ref Ad0), (0, .ref Ad0)]) (w' := [7, 6]) rfl rfl
  have hP9 := hP.sub (ws' := [(Ad0, .inr (12, Fs0)), (Ad1, .inr (9, s108))]) [0, 1] rfl
  have hD9 := hD.sub (ws' := [(Ad0, .inr (12, Fs0)), (Ad1, .inr (9, s108))]) [0, 1] (by decide) rfl
  have hK9 := hK.sub (tys' := []) [] rfl
  exact W.zret (v := 0) hx hb hr rfl (fun t ht hW => ⟨⟨0, s108, rfl, ⟨rfl, o_s108⟩, by rw [ht]; exact hP9, va_K.moved hW.alike hK9, hD9⟩, hS.F ht⟩) hS.2.2 dX6_readSet_48

def l_z_X6_readQuestion : List Cond := [.methodLink RX6 38 yX6_start, .instanceMethod yX6_start, .selects RX6 yX6_start yX6_start, .initialized RX6, .methodLink RX6 54 yX6_readSet, .instanceMethod yX6_readSet, .selects RX6 yX6_readSet yX6_readSet, .code yX6_start cX6_start 1 none, .fieldLink RX6 72 "HeapWorks$Program" "steps" "I", .fieldLink RX6 75 "HeapWorks$Program" "fault" "I", .fieldLink RX6 78 "HeapWorks$Program" "place" "I", .fieldLink RX6 81 "HeapWorks$Program" "usesHolders" "Z", .fieldLink RX6 84 "HeapWorks$Program" "usesKept" "Z", .fieldLink RX6 87 "HeapWorks$Program" "nodes" "I", .fieldLink RX6 90 "HeapWorks$Program" "nest" "I", .fieldLink RX6 93 "HeapWorks$Program" "folds" "I", .fieldLink RX6 62 "HeapWorks$Program" "itKnown" "Z", .fieldLink RX6 96 "HeapWorks$Program" "scopes" "I", .fieldLink RX6 99 "HeapWorks$Program" "waits" "I", .fieldLink RX6 9 "HeapWorks$Program" "tape" "LHeapWorks$Tape;", .methodLink RX6 102 yX9_startWords, .instanceMethod yX9_startWords, .selects RX9 yX9_startWords yX9_startWords, .initialized RX9, .code yX9_startWords cX9_startWords 2 none, .fieldLink RX9 69 "HeapWorks$Tape" "at" "I", .methodLink RX9 72 yX9_scanWord, .instanceMethod yX9_scanWord, .selects RX9 yX9_scanWord yX9_scanWord, .fieldLink RX9 18 "HeapWorks$Tape" "words" "[I", .fieldLink RX9 75 "HeapWorks$Tape" "word" "I", .fieldLink RX9 21 "HeapWorks$Tape" "places" "[I", .fieldLink RX9 78 "HeapWorks$Tape" "place" "I", .fieldLink RX9 24 "HeapWorks$Tape" "codes" "[J", .fieldLink RX9 81 "HeapWorks$Tape" "code" "J", .fieldLink RX9 85 "HeapWorks$Tape" "next" "I", .methodLink RX9 88 yX9_nextWord, .instanceMethod yX9_nextWord, .selects RX9 yX9_nextWord yX9_nextWord, .code yX9_scanWord cX9_scanWord 1 none, .fieldLink RX9 49 "HeapWorks$Tape" "size" "I", .code yX9_nextWord cX9_nextWord 1 none, .code yX6_readSet cX6_readSet 3 (some .boolean), .fieldLink RX6 45 "HeapWorks$Tape" "word" "I", .methodLink RX6 51 yX6_refuse, .instanceMethod yX6_refuse, .selects RX6 yX6_refuse yX6_refuse, .code yX6_refuse cX6_refuse 1 (some .boolean), .methodLink RX6 112 yX6_fail, .instanceMethod yX6_fail, .selects RX6 yX6_fail yX6_fail, .code yX6_fail cX6_fail 2 (some .boolean), .fieldLink RX6 111 "HeapWorks$Tape" "place" "I"]
def w_z_X6_readQuestion : List Cond := .code yX6_readQuestion cX6_readQuestion 2 (some .boolean) :: (l_z_X6_readQuestion ++ ((wsX60 ++ wsX90)))
theorem in_z_X6_readQuestion_X6 : ∀ w ∈ wsX60, w ∈ w_z_X6_readQuestion := fun w h => List.mem_cons_of_mem _ (List.mem_append_right _ (List.mem_append_left _ h))
theorem in_z_X6_readQuestion_X9 : ∀ w ∈ wsX90, w ∈ w_z_X6_readQuestion := fun w h => List.mem_cons_of_mem _ (List.mem_append_right _ (List.mem_append_right _ (h)))
theorem g_z_X6_readQuestion_z_X6_start_38 : GoodIn w_z_X6_readQuestion (wsV RX6 38 RX6 yX6_start w_z_X6_start) := goodIn_app (goodIn_r (([.methodLink RX6 38 yX6_start, .instanceMethod yX6_start, .selects RX6 yX6_start yX6_start, .initialized RX6] : List Cond)) [1, 2, 3, 4] rfl (by decide +kernel)) (goodIn_ca (goodIn_r (.code yX6_start cX6_start 1 none :: l_z_X6_start) [8, 9, 10, 11, 12, 13, 14, 15, 16, 17, 18, 19, 20, 21, 22, 23, 24, 25, 26, 27, 28, 29, 30, 31, 32, 33, 34, 35, 36, 37, 38, 39, 40, 41, 42] rfl (by decide +kernel)) (goodIn_app (goodIn_in (in_z_X6_readQuestion_X6) gd_X6) (goodIn_in (in_z_X6_readQuestion_X9) gd_X9)))
theorem g_z_X6_readQuestion_z_X6_readSet_54 : GoodIn w_z_X6_readQuestion (wsV RX6 54 RX6 yX6_readSet w_z_X6_readSet) := goodIn_app (goodIn_r (([.methodLink RX6 54 yX6_readSet, .instanceMethod yX6_readSet, .selects RX6 yX6_readSet yX6_readSet, .initialized RX6] : List Cond)) [5, 6, 7, 4] rfl (by decide +kernel)) (goodIn_ca (goodIn_r (.code yX6_readSet cX6_readSet 3 (some .boolean) :: l_z_X6_readSet) [43, 20, 44, 45, 46, 47, 4, 48, 49, 50, 51, 52, 10, 53, 11] rfl (by decide +kernel)) (goodIn_app (goodIn_in (in_z_X6_readQuestion_X6) gd_X6) (goodIn_in (in_z_X6_readQuestion_X9) gd_X9)))
set_option maxHeartbeats 4000000 in
set_option maxRecDepth 100000 in
theorem z_X6_readQuestion (l : Launch) (dC : Nat → ClassId) (dI : Nat → Nat → Nat) (sz : Nat) (Ad0 : Nat) (Fs0 : List Value) (Ad1 : Nat) (Fa0 : Nat → Int32) (Ka0 : ClassId) (Ad2 : Nat) (Fa1 : Nat → Int32) (Ka1 : ClassId) (Ad3 : Nat) (Fa2 : Nat → Int64) (Ka2 : ClassId) (Ad4 : Nat) (Fs1 : List Value) (k_Fs0 : fh Fs0 12 [(1, .int 0), (5, .ref Ad1), (6, .ref Ad2), (7, .ref Ad3)]) (k_Fs1 : fh Fs1 19 [(0, .ref Ad0)])  : Met l yX6_readQuestion w_z_X6_readQuestion ({ frames := 3, cells := 0, slots := 0, locals := 63 }) (va_Pc [.ref Ad4] (fun U => U.heap.size = sz ∧ Wd dC dI [(Ka0, .int), (Ka1, .int), (Ka2, .long)] (fun _ => True) [(Ad0, .inr (12, Fs0)), (Ad1, .inl (Ka0, 4001, .inl Fa0)), (Ad2, .inl (Ka1, 4001, .inl Fa1)), (Ad3, .inl (Ka2, 4001, .inr (.inl Fa2))), (Ad4, .inr (9, Fs1))] U)) (va_Qi (fun (r : Int32) (u : List Value × (Nat → Int32) × (Nat → Int32) × (Nat → Int64) × List Value) => (r = 0 ∧ ow Fs0 (u.1) 12 [11, 10, 9, 8, 4] [(11, .long 0), (10, .int 0), (9, .int 0), (8, .int 0), (5, .ref Ad1), (6, .ref Ad2), (7, .ref Ad3), (8, .int 0), (4, .int 0), (1, .int 0), (4, .int 0), (1, .int 0), (5, .ref Ad1), (6, .ref Ad2), (7, .ref Ad3), (1, .int 0), (5, .ref Ad1), (6, .ref Ad2), (7, .ref Ad3), (1, .int 0), (5, .ref Ad1), (6, .ref Ad2), (7, .ref Ad3)] ∧ ow Fs1 (u.2.2.2.2) 19 [7, 6, 18, 16, 13, 12, 11, 10, 9, 8, 5] [(7, .int 0), (6, .int 1), (0, .ref Ad0), (0, .ref Ad0), (0, .ref Ad0), (0, .ref Ad0), (0, .ref Ad0), (0, .ref Ad0), (18, .int 0), (16, .int 0), (13, .int 0), (12, .int 0), (11, .int 0), (10, .int 0), (9, .int 0), (8, .int 0), (5, .int 0), (0, .ref Ad0), (0, .ref Ad0)] ∧ (u.2.1) (0 : Int32).toNatClampNeg = 0 ∧ (u.2.2.1) (0 : Int32).toNatClampNeg = 0 ∧ (u.2.2.2.1) (0 : Int32).toNatClampNeg = 0)) (fun (u : List Value × (Nat → Int32) × (Nat → Int32) × (Nat → Int64) × List Value) t => Wd dC dI [(Ka0, .int), (Ka1, .int), (Ka2, .long)] (va_A [(Ad0, .inr (12, Fs0)), (Ad1, .inl (Ka0, 4001, .inl Fa0)), (Ad2, .inl (Ka1, 4001, .inl Fa1)), (Ad3, .inl (Ka2, 4001, .inr (.inl Fa2))), (Ad4, .inr (9, Fs1))] sz) [(Ad0, .inr (12, (u.1))), (Ad1, .inl (Ka0, 4001, .inl ((u.2.1)))), (Ad2, .inl (Ka1, 4001, .inl ((u.2.2.1)))), (Ad3, .inl (Ka2, 4001, .inr (.inl ((u.2.2.2.1))))), (Ad4, .inr (9, (u.2.2.2.2)))] t) (va_A [(Ad0, .inr (12, Fs0)), (Ad1, .inl (Ka0, 4001, .inl Fa0)), (Ad2, .inl (Ka1, 4001, .inl Fa1)), (Ad3, .inl (Ka2, 4001, .inr (.inl Fa2))), (Ad4, .inr (9, Fs1))] sz))  0 0 (va_A [(Ad0, .inr (12, Fs0)), (Ad1, .inl (Ka0, 4001, .inl Fa0)), (Ad2, .inl (Ka1, 4001, .inl Fa1)), (Ad3, .inl (Ka2, 4001, .inr (.inl Fa2))), (Ad4, .inr (9, Fs1))] sz) := by
  refine Met.ofW (cc := cX6_readQuestion) (maxL := 2) (ret := (some .boolean)) (by decide) rfl ?_
  intro p e s m args below meth c s₁ B hml hv
  obtain ⟨rfl, hsz, hP, hK, hD0⟩ := hv
  have hx := B.exec
  have hb := B.bytes
  have hr := B.returns
  have hts := atoms_spec (ws := w_z_X6_readQuestion) B.pre
  have hown : s.vm.findClass RX6 = some m.cls := findClass_of_methodNamed B.named
  have hlocks := B.notSynchronized
  subst hsz
  have hD := hD0.self (sz := s.heap.size)
  generalize hAe : va_A [(Ad0, .inr (12, Fs0)), (Ad1, .inl (Ka0, 4001, .inl Fa0)), (Ad2, .inl (Ka1, 4001, .inl Fa1)), (Ad3, .inl (Ka2, 4001, .inr (.inl Fa2))), (Ad4, .inr (9, Fs1))] s.heap.size = A at hD ⊢
  have hA : ∀ q : Nat, s.heap.size ≤ q → A q := fun q h => by rw [← hAe]; exact Or.inr h
  have hS : va_S A s.heap s.heap [] := va_S.rf
  have hl := lv_entry ([.ref Ad4]) (n := 2) (Nat.le_of_ble_eq_true rfl)
  rw [lg_entry_eq]
  generalize (lg_sl ([.ref Ad4]) ++ List.replicate (2 - (lg_sl ([.ref Ad4])).length) Slot.unset).toArray = ls at hl ⊢
  have hl : lv_has ls 2 [(0, .ref Ad4)] := hl
  have o_Fs0 := ow_0 k_Fs0
  have o_Fs1 := ow_0 k_Fs1
  refine lv_aload_n hx hb dX6_readQuestion_0 rfl (lv_at hl 0 rfl) ?_
  have hPc := hP.sub (ws' := [(Ad0, .inr (12, Fs0)), (Ad1, .inl (Ka0, 4001, .inl Fa0)), (Ad2, .inl (Ka1, 4001, .inl Fa1)), (Ad3, .inl (Ka2, 4001, .inr (.inl Fa2))), (Ad4, .inr (9, Fs1))]) [0, 1, 2, 3, 4] rfl
  have hDc := hD.sub (ws' := [(Ad0, .inr (12, Fs0)), (Ad1, .inl (Ka0, 4001, .inl Fa0)), (Ad2, .inl (Ka1, 4001, .inl Fa1)), (Ad3, .inl (Ka2, 4001, .inr (.inl Fa2))), (Ad4, .inr (9, Fs1))]) [0, 1, 2, 3, 4] (by decide) rfl
  have hKc := hK.sub (tys' := [(Ka0, .int), (Ka1, .int), (Ka2, .long)]) [0, 1, 2] rfl
  have hFc := va_free (wc := [(Ad0, .inr (12, Fs0)), (Ad1, .inl (Ka0, 4001, .inl Fa0)), (Ad2, .inl (Ka1, 4001, .inl Fa1)), (Ad3, .inl (Ka2, 4001, .inr (.inl Fa2))), (Ad4, .inr (9, Fs1))]) hD hS hA [0, 1, 2, 3, 4] rfl
  refine va_callv (va_runV (As := []) (rest := []) ⟨hx, hb, hml, hown, hts⟩ (z_X6_start l dC dI s.heap.size Ad0 Fs0 Ad1 Fa0 Ka0 Ad2 Fa1 Ka1 Ad3 Fa2 Ka2 Ad4 Fs1 (fh_sub o_Fs0.2 [0, 1, 2, 3] rfl) (fh_sub o_Fs1.2 [0] rfl) ) (cwV 0 hts g_z_X6_readQuestion_z_X6_start_38 rfl rfl rfl (by decide +kernel) ⟨Nat.le_of_ble_eq_true rfl, Nat.le_of_ble_eq_true rfl⟩) ⟨fun a U g mk q => by obtain ⟨q0, q1, qP, qK, qD⟩ := q; exact ⟨q0, q1, qP, va_K.moved (u := U) (U := U.calling g mk a) (Vm.Alike.refl U.vm) qK, qD⟩, va_recv hK hP (ci := 9) (q0 := 4) rfl rfl, fun U hU hW => ⟨rfl, by rw [hU], by rw [hU]; exact hPc, va_K.moved hW.alike hKc, hDc.weaken (fun _ _ _ _ => trivial)⟩⟩ rfl rfl hl.1 rfl (lv_room (Nat.le_of_ble_eq_true rfl)) dX6_readQuestion_1 ⟨Nat.le_of_ble_eq_true rfl, Nat.le_of_ble_eq_true rfl⟩) hS (fun q _ h => hFc q h) hFc (fun u t H1 locs ht hvm hw hB hz1 hk1 hS => ?_)
  obtain ⟨s101, f102, f103, f104, s105⟩ := u
  obtain ⟨hP1, hK1, hD1⟩ := hB
  rw [ht] at hP1
  try dsimp only at hw
  obtain ⟨hP, hD⟩ := va_join (wr := []) (w1 := [(Ad0, .inr (12, s101)), (Ad1, .inl (Ka0, 4001, .inl f102)), (Ad2, .inl (Ka1, 4001, .inl f103)), (Ad3, .inl (Ka2, 4001, .inr (.inl f104))), (Ad4, .inr (9, s105))]) hP hD [0, 1, 2, 3, 4] [] rfl rfl (by decide) (by decide) hk1 hFc hP1 hD1
  have hK := hK.sub (tys' := [(Ka0, .int), (Ka1, .int), (Ka2, .long)]) [0, 1, 2] rfl
  generalize H1 = H at hP hS ⊢
  have hP : va_P (dC, dI) vwCl [(Ad0, .inr (12, s101)), (Ad1, .inl (Ka0, 4001, .inl f102)), (Ad2, .inl (Ka1, 4001, .inl f103)), (Ad3, .inl (Ka2, 4001, .inr (.inl f104))), (Ad4, .inr (9, s105))] H := hP
  have hD : va_D A [(Ad0, .inr (12, s101)), (Ad1, .inl (Ka0, 4001, .inl f102)), (Ad2, .inl (Ka1, 4001, .inl f103)), (Ad3, .inl (Ka2, 4001, .inr (.inl f104))), (Ad4, .inr (9, s105))] := hD
  obtain ⟨o_s101, o_s105, q106, q107, q108⟩ := hw
  have o_s101 := ow_on o_Fs0 o_s101 (l' := [(11, .long 0), (10, .int 0), (9, .int 0), (8, .int 0), (5, .ref Ad1), (6, .ref Ad2), (7, .ref Ad3), (8, .int 0), (4, .int 0), (1, .int 0), (4, .int 0), (1, .int 0), (5, .ref Ad1), (6, .ref Ad2), (7, .ref Ad3), (1, .int 0), (5, .ref Ad1), (6, .ref Ad2), (7, .ref Ad3), (1, .int 0), (5, .ref Ad1), (6, .ref Ad2), (7, .ref Ad3)]) (w' := [11, 10, 9, 8, 4]) rfl rfl
  have o_s105 := ow_on o_Fs1 o_s105 (l' := [(18, .int 0), (16, .int 0), (13, .int 0), (12, .int 0), (11, .int 0), (10, .int 0), (9, .int 0), (8, .int 0), (7, .int (-1)), (6, .int 0), (5, .int 0), (0, .ref Ad0), (0, .ref Ad0)]) (w' := [18, 16, 13, 12, 11, 10, 9, 8, 7, 6, 5]) rfl rfl
  refine lv_aload_n hx hb dX6_readQuestion_4 rfl (lv_at hl 0 rfl) ?_
  refine lv_iconst (v := 0) hx hb dX6_readQuestion_5 (by decide) ?_
  have hPc := hP.sub (ws' := [(Ad0, .inr (12, s101)), (Ad4, .inr (9, s105))]) [0, 4] rfl
  have hDc := hD.sub (ws' := [(Ad0, .inr (12, s101)), (Ad4, .inr (9, s105))]) [0, 4] (by decide) rfl
  have hKc := hK.sub (tys' := []) [] rfl
  have hFc := va_free (wc := [(Ad0, .inr (12, s101)), (Ad4, .inr (9, s105))]) hD hS hA [0, 4] rfl
  refine va_calli (va_runV (As := [.int 0]) (rest := []) ⟨hx, hb, hml, hown, hts⟩ (z_X6_readSet l dC dI H.size Ad0 s101 Ad4 s105 (fh_sub o_s101.2 [1, 2] rfl) (fh_sub o_s105.2 [11, 11] rfl) ) (cwV 1 hts g_z_X6_readQuestion_z_X6_readSet_54 rfl rfl rfl (by decide +kernel) ⟨Nat.le_of_ble_eq_true rfl, Nat.le_of_ble_eq_true rfl⟩) ⟨fun a U g mk q => by obtain ⟨q0, q1, qP, qK, qD⟩ := q; exact ⟨q0, q1, qP, va_K.moved (u := U) (U := U.calling g mk a) (Vm.Alike.refl U.vm) qK, qD⟩, va_recv hK hP (ci := 9) (q0 := 4) rfl rfl, fun U hU hW => ⟨rfl, by rw [hU], by rw [hU]; exact hPc, va_K.moved hW.alike hKc, hDc.weaken (fun _ _ _ _ => trivial)⟩⟩ rfl rfl hl.1 rfl (lv_room (Nat.le_of_ble_eq_true rfl)) dX6_readQuestion_6 ⟨Nat.le_of_ble_eq_true rfl, Nat.le_of_ble_eq_true rfl⟩) hS (fun q _ h => hFc q h) hFc (fun r109 u t H1 locs ht hvm hw hB hz1 hk1 hS => ?_)
  obtain ⟨s110, rfl⟩ : ∃ z, z = u := ⟨_, rfl⟩
  obtain ⟨hP1, hK1, hD1⟩ := hB
  rw [ht] at hP1
  try dsimp only at hw
  obtain ⟨hP, hD⟩ := va_join (wr := [(Ad1, .inl (Ka0, 4001, .inl f102)), (Ad2, .inl (Ka1, 4001, .inl f103)), (Ad3, .inl (Ka2, 4001, .inr (.inl f104)))]) (w1 := [(Ad0, .inr (12, s101)), (Ad4, .inr (9, s110))]) hP hD [0, 4] [1, 2, 3] rfl rfl (by decide) (by decide) hk1 hFc hP1 hD1
  have hK := hK.sub (tys' := [(Ka0, .int), (Ka1, .int), (Ka2, .long)]) [0, 1, 2] rfl
  generalize H1 = H at hP hS ⊢
  have hP : va_P (dC, dI) vwCl [(Ad1, .inl (Ka0, 4001, .inl f102)), (Ad2, .inl (Ka1, 4001, .inl f103)), (Ad3, .inl (Ka2, 4001, .inr (.inl f104))), (Ad0, .inr (12, s101)), (Ad4, .inr (9, s110))] H := hP
  have hD : va_D A [(Ad1, .inl (Ka0, 4001, .inl f102)), (Ad2, .inl (Ka1, 4001, .inl f103)), (Ad3, .inl (Ka2, 4001, .inr (.inl f104))), (Ad0, .inr (12, s101)), (Ad4, .inr (9, s110))] := hD
  obtain ⟨er111, o_s110⟩ := hw
  subst er111
  have o_s110 := ow_on o_s105 o_s110 (l' := [(7, .int 0), (6, .int 1), (0, .ref Ad0), (0, .ref Ad0), (0, .ref Ad0), (0, .ref Ad0), (0, .ref Ad0), (0, .ref Ad0), (18, .int 0), (16, .int 0), (13, .int 0), (12, .int 0), (11, .int 0), (10, .int 0), (9, .int 0), (8, .int 0), (5, .int 0), (0, .ref Ad0), (0, .ref Ad0)]) (w' := [7, 6, 18, 16, 13, 12, 11, 10, 9, 8, 5]) rfl rfl
  refine lv_if_ne (tgt := 14) hx hb dX6_readQuestion_9 (by decide) (fun c112 => absurd c112 (by decide)) (fun c112 => ?_)
  refine lv_iconst (v := 0) hx hb dX6_readQuestion_12 (by decide) ?_
  have hP9 := hP.sub (ws' := [(Ad0, .inr (12, s101)), (Ad1, .inl (Ka0, 4001, .inl f102)), (Ad2, .inl (Ka1, 4001, .inl f103)), (Ad3, .inl (Ka2, 4001, .inr (.inl f104))), (Ad4, .inr (9, s110))]) [3, 0, 1, 2, 4] rfl
  have hD9 := hD.sub (ws' := [(Ad0, .inr (12, s101)), (Ad1, .inl (Ka0, 4001, .inl f102)), (Ad2, .inl (Ka1, 4001, .inl f103)), (Ad3, .inl (Ka2, 4001, .inr (.inl f104))), (Ad4, .inr (9, s110))]) [3, 0, 1, 2, 4] (by decide) rfl
  have hK9 := hK.sub (tys' := [(Ka0, .int), (Ka1, .int), (Ka2, .long)]) [0, 1, 2] rfl
  exact W.zret (v := 0) hx hb hr rfl (fun t ht hW => ⟨⟨0, (s101, f102, f103, f104, s110), rfl, ⟨rfl, o_s101, o_s110, q106, q107, q108⟩, by rw [ht]; exact hP9, va_K.moved hW.alike hK9, hD9⟩, hS.F ht⟩) hS.2.2 dX6_readQuestion_13

def l_z_X11_ask : List Cond := [.methodLink RX11 353 yX11_needPicture, .static yX11_needPicture, .initialized RX11, .fieldLink RX11 62 "HeapWorks" "machine" "LHeapWorks$Machine;", .fieldLink RX11 464 "HeapWorks$Machine" "rowCount" "I", .fieldLink RX11 55 "HeapWorks" "question" "LHeapWorks$Program;", .methodLink RX11 466 yX6_readQuestion, .instanceMethod yX6_readQuestion, .selects RX6 yX6_readQuestion yX6_readQuestion, .initialized RX6, .fieldLink RX11 333 "HeapWorks$Program" "fault" "I", .fieldLink RX11 336 "HeapWorks$Program" "place" "I", .methodLink RX11 339 yX11_tellFault, .instanceMethod yX11_tellFault, .selects RX11 yX11_tellFault yX11_tellFault, .fieldLink RX11 469 "HeapWorks" "faultCode" "I", .classLink RX11 127 "java/lang/IllegalArgumentException", .initialized "java/lang/IllegalArgumentException", .code yX11_needPicture cX11_needPicture 1 none, .methodLink RX11 411 yX11_isPicture, .static yX11_isPicture, .classLink RX11 120 "java/lang/IndexOutOfBoundsException", .initialized "java/lang/IndexOutOfBoundsException", .code yX11_isPicture cX11_isPicture 1 (some .boolean), .code yX6_readQuestion cX6_readQuestion 2 (some .boolean), .methodLink RX6 38 yX6_start, .instanceMethod yX6_start, .selects RX6 yX6_start yX6_start, .methodLink RX6 54 yX6_readSet, .instanceMethod yX6_readSet, .selects RX6 yX6_readSet yX6_readSet, .code yX6_start cX6_start 1 none, .fieldLink RX6 72 "HeapWorks$Program" "steps" "I", .fieldLink RX6 75 "HeapWorks$Program" "fault" "I", .fieldLink RX6 78 "HeapWorks$Program" "place" "I", .fieldLink RX6 81 "HeapWorks$Program" "usesHolders" "Z", .fieldLink RX6 84 "HeapWorks$Program" "usesKept" "Z", .fieldLink RX6 87 "HeapWorks$Program" "nodes" "I", .fieldLink RX6 90 "HeapWorks$Program" "nest" "I", .fieldLink RX6 93 "HeapWorks$Program" "folds" "I", .fieldLink RX6 62 "HeapWorks$Program" "itKnown" "Z", .fieldLink RX6 96 "HeapWorks$Program" "scopes" "I", .fieldLink RX6 99 "HeapWorks$Program" "waits" "I", .fieldLink RX6 9 "HeapWorks$Program" "tape" "LHeapWorks$Tape;", .methodLink RX6 102 yX9_startWords, .instanceMethod yX9_startWords, .selects RX9 yX9_startWords yX9_startWords, .initialized RX9, .code yX9_startWords cX9_startWords 2 none, .fieldLink RX9 69 "HeapWorks$Tape" "at" "I", .methodLink RX9 72 yX9_scanWord, .instanceMethod yX9_scanWord, .selects RX9 yX9_scanWord yX9_scanWord, .fieldLink RX9 18 "HeapWorks$Tape" "words" "[I", .fieldLink RX9 75 "HeapWorks$Tape" "word" "I", .fieldLink RX9 21 "HeapWorks$Tape" "places" "[I", .fieldLink RX9 78 "HeapWorks$Tape" "place" "I", .fieldLink RX9 24 "HeapWorks$Tape" "codes" "[J", .fieldLink RX9 81 "HeapWorks$Tape" "code" "J", .fieldLink RX9 85 "HeapWorks$Tape" "next" "I", .methodLink RX9 88 yX9_nextWord, .instanceMethod yX9_nextWord, .selects RX9 yX9_nextWord yX9_nextWord, .code yX9_scanWord cX9_scanWord 1 none, .fieldLink RX9 49 "HeapWorks$Tape" "size" "I", .code yX9_nextWord cX9_nextWord 1 none, .code yX6_readSet cX6_readSet 3 (some .boolean), .fieldLink RX6 45 "HeapWorks$Tape" "word" "I", .methodLink RX6 51 yX6_refuse, .instanceMethod yX6_refuse, .selects RX6 yX6_refuse yX6_refuse, .code yX6_refuse cX6_refuse 1 (some .boolean), .methodLink RX6 112 yX6_fail, .instanceMethod yX6_fail, .selects RX6 yX6_fail yX6_fail, .code yX6_fail cX6_fail 2 (some .boolean), .fieldLink RX6 111 "HeapWorks$Tape" "place" "I", .code yX11_tellFault cX11_tellFault 3 none, .fieldLink RX11 98 "HeapWorks" "faultPlace" "I"]
def w_z_X11_ask : List Cond := .code yX11_ask cX11_ask 3 (some .int) :: (l_z_X11_ask ++ ((wsX110 ++ (wsX40 ++ (wsX60 ++ (((vx_at0 RX11 129 "java/lang/IllegalArgumentException" ["java/lang/RuntimeException", "java/lang/Exception"]).filter goodWord) ++ (((vx_at0 RX11 122 "java/lang/IndexOutOfBoundsException" ["java/lang/RuntimeException", "java/lang/Exception"]).filter goodWord) ++ wsX90)))))))
theorem in_z_X11_ask_X11 : ∀ w ∈ wsX110, w ∈ w_z_X11_ask := fun w h => List.mem_cons_of_mem _ (List.mem_append_right _ (List.mem_append_left _ h))
theorem in_z_X11_ask_X4 : ∀ w ∈ wsX40, w ∈ w_z_X11_ask := fun w h => List.mem_cons_of_mem _ (List.mem_append_right _ (List.mem_append_right _ (List.mem_append_left _ h)))
theorem in_z_X11_ask_X6 : ∀ w ∈ wsX60, w ∈ w_z_X11_ask := fun w h => List.mem_cons_of_mem _ (List.mem_append_right _ (List.mem_append_right _ (List.mem_append_right _ (List.mem_append_left _ h))))
theorem in_z_X11_ask_at0_X11_129 : ∀ w ∈ ((vx_at0 RX11 129 "java/lang/IllegalArgumentException" ["java/lang/RuntimeException", "java/lang/Exception"]).filter goodWord), w ∈ w_z_X11_ask := fun w h => List.mem_cons_of_mem _ (List.mem_append_right _ (List.mem_append_right _ (List.mem_append_right _ (List.mem_append_right _ (List.mem_append_left _ h)))))
theorem in_z_X11_ask_at0_X11_122 : ∀ w ∈ ((vx_at0 RX11 122 "java/lang/IndexOutOfBoundsException" ["java/lang/RuntimeException", "java/lang/Exception"]).filter goodWord), w ∈ w_z_X11_ask := fun w h => List.mem_cons_of_mem _ (List.mem_append_right _ (List.mem_append_right _ (List.mem_append_right _ (List.mem_append_right _ (List.mem_append_right _ (List.mem_append_left _ h))))))
theorem in_z_X11_ask_X9 : ∀ w ∈ wsX90, w ∈ w_z_X11_ask := fun w h => List.mem_cons_of_mem _ (List.mem_append_right _ (List.mem_append_right _ (List.mem_append_right _ (List.mem_append_right _ (List.mem_append_right _ (List.mem_append_right _ (h)))))))
theorem g_z_X11_ask_z_X11_needPicture_353 : GoodIn w_z_X11_ask (wsS RX11 353 yX11_needPicture w_z_X11_needPicture) := goodIn_app (goodIn_r (([.methodLink RX11 353 yX11_needPicture, .static yX11_needPicture, .initialized RX11] : List Cond)) [1, 2, 3] rfl (by decide +kernel)) (goodIn_ca (goodIn_r (.code yX11_needPicture cX11_needPicture 1 none :: l_z_X11_needPicture) [19, 20, 21, 3, 22, 23, 24] rfl (by decide +kernel)) (goodIn_in (in_z_X11_ask_at0_X11_122) gd_at0_X11_122))
theorem g_z_X11_ask_z_X6_readQuestion_466 : GoodIn w_z_X11_ask (wsV RX11 466 RX6 yX6_readQuestion w_z_X6_readQuestion) := goodIn_app (goodIn_r (([.methodLink RX11 466 yX6_readQuestion, .instanceMethod yX6_readQuestion, .selects RX6 yX6_readQuestion yX6_readQuestion, .initialized RX6] : List Cond)) [7, 8, 9, 10] rfl (by decide +kernel)) (goodIn_ca (goodIn_r (.code yX6_readQuestion cX6_readQuestion 2 (some .boolean) :: l_z_X6_readQuestion) [25, 26, 27, 28, 10, 29, 30, 31, 32, 33, 34, 35, 36, 37, 38, 39, 40, 41, 42, 43, 44, 45, 46, 47, 48, 49, 50, 51, 52, 53, 54, 55, 56, 57, 58, 59, 60, 61, 62, 63, 64, 65, 66, 67, 68, 69, 70, 71, 72, 73, 74, 75, 76, 77] rfl (by decide +kernel)) (goodIn_app (goodIn_in (in_z_X11_ask_X6) gd_X6) (goodIn_in (in_z_X11_ask_X9) gd_X9)))
theorem g_z_X11_ask_z_X11_tellFault_339 : GoodIn w_z_X11_ask (wsV RX11 339 RX11 yX11_tellFault w_z_X11_tellFault) := goodIn_app (goodIn_r (([.methodLink RX11 339 yX11_tellFault, .instanceMethod yX11_tellFault, .selects RX11 yX11_tellFault yX11_tellFault, .initialized RX11] : List Cond)) [13, 14, 15, 3] rfl (by decide +kernel)) (goodIn_ca (goodIn_r (.code yX11_tellFault cX11_tellFault 3 none :: l_z_X11_tellFault) [78, 16, 79] rfl (by decide +kernel)) (goodIn_in (in_z_X11_ask_X11) gd_X11))
set_option maxHeartbeats 4000000 in
set_option maxRecDepth 100000 in
theorem z_X11_ask (l : Launch) (dC : Nat → ClassId) (dI : Nat → Nat → Nat) (sz : Nat) (Ad0 : Nat) (Fs0 : List Value) (Ad1 : Nat) (Fs1 : List Value) (Ad2 : Nat) (Fa0 : Nat → Int32) (Ka0 : ClassId) (Ad3 : Nat) (Fa1 : Nat → Int32) (Ka1 : ClassId) (Ad4 : Nat) (Fa2 : Nat → Int64) (Ka2 : ClassId) (Ad5 : Nat) (Fs2 : List Value) (Ad6 : Nat) (Fs3 : List Value) (Va0 : Int32) (k_Fs0 : fh Fs0 18 [(6, .ref Ad5), (7, .ref Ad6), (16, .int 0)]) (k_Fs1 : fh Fs1 12 [(1, .int 0), (5, .ref Ad2), (6, .ref Ad3), (7, .ref Ad4)]) (k_Fs2 : fh Fs2 19 [(0, .ref Ad1)]) (k_Fs3 : fh Fs3 21 []) (hst : l.stackTraces = false)  : vx_Met l yX11_ask w_z_X11_ask ({ frames := 8, cells := 2, slots := 12, locals := 160 }) (va_Pc [.ref Ad0, .int Va0] (fun U => U.heap.size = sz ∧ Zz (va_A [(Ad0, .inr (14, Fs0)), (Ad1, .inr (12, Fs1)), (Ad2, .inl (Ka0, 4001, .inl Fa0)), (Ad3, .inl (Ka1, 4001, .inl Fa1)), (Ad4, .inl (Ka2, 4001, .inr (.inl Fa2))), (Ad5, .inr (9, Fs2)), (Ad6, .inr (7, Fs3))] sz) U ∧ Wd dC dI [(Ka0, .int), (Ka1, .int), (Ka2, .long)] (fun _ => True) [(Ad0, .inr (14, Fs0)), (Ad1, .inr (12, Fs1)), (Ad2, .inl (Ka0, 4001, .inl Fa0)), (Ad3, .inl (Ka1, 4001, .inl Fa1)), (Ad4, .inl (Ka2, 4001, .inr (.inl Fa2))), (Ad5, .inr (9, Fs2)), (Ad6, .inr (7, Fs3))] U)) (va_Qi (fun (r : Int32) (u : Unit) => False) (fun (u : Unit) t => Wd dC dI [(Ka0, .int), (Ka1, .int), (Ka2, .long)] (va_A [(Ad0, .inr (14, Fs0)), (Ad1, .inr (12, Fs1)), (Ad2, .inl (Ka0, 4001, .inl Fa0)), (Ad3, .inl (Ka1, 4001, .inl Fa1)), (Ad4, .inl (Ka2, 4001, .inr (.inl Fa2))), (Ad5, .inr (9, Fs2)), (Ad6, .inr (7, Fs3))] sz) [(Ad0, .inr (14, Fs0)), (Ad1, .inr (12, Fs1)), (Ad2, .inl (Ka0, 4001, .inl Fa0)), (Ad3, .inl (Ka1, 4001, .inl Fa1)), (Ad4, .inl (Ka2, 4001, .inr (.inl Fa2))), (Ad5, .inr (9, Fs2)), (Ad6, .inr (7, Fs3))] t) (va_A [(Ad0, .inr (14, Fs0)), (Ad1, .inr (12, Fs1)), (Ad2, .inl (Ka0, 4001, .inl Fa0)), (Ad3, .inl (Ka1, 4001, .inl Fa1)), (Ad4, .inl (Ka2, 4001, .inr (.inl Fa2))), (Ad5, .inr (9, Fs2)), (Ad6, .inr (7, Fs3))] sz)) (vx_X (fun _ : Unit => True) (fun E _ _ => (E = "java/lang/IndexOutOfBoundsException" ∧ Va0 < 0) ∨ (E = "java/lang/IndexOutOfBoundsException" ∧ ¬ Va0 < 0 ∧ 4 ≤ Va0) ∨ (E = "java/lang/IllegalArgumentException" ∧ ¬ Va0 < 0 ∧ ¬ 4 ≤ Va0)) (va_A [(Ad0, .inr (14, Fs0)), (Ad1, .inr (12, Fs1)), (Ad2, .inl (Ka0, 4001, .inl Fa0)), (Ad3, .inl (Ka1, 4001, .inl Fa1)), (Ad4, .inl (Ka2, 4001, .inr (.inl Fa2))), (Ad5, .inr (9, Fs2)), (Ad6, .inr (7, Fs3))] sz)) 2 12 (va_A [(Ad0, .inr (14, Fs0)), (Ad1, .inr (12, Fs1)), (Ad2, .inl (Ka0, 4001, .inl Fa0)), (Ad3, .inl (Ka1, 4001, .inl Fa1)), (Ad4, .inl (Ka2, 4001, .inr (.inl Fa2))), (Ad5, .inr (9, Fs2)), (Ad6, .inr (7, Fs3))] sz) := by
  refine vx_ofW (cc := cX11_ask) (maxL := 3) (ret := (some .int)) (by decide) rfl ?_
  intro p e s m args below meth c s₁ B hml htab hv
  obtain ⟨rfl, hsz, hZ, hP, hK, hD0⟩ := hv
  have hx := B.exec
  have hb := B.bytes
  have hr := B.returns
  have hts := atoms_spec (ws := w_z_X11_ask) B.pre
  have hown : s.vm.findClass RX11 = some m.cls := findClass_of_methodNamed B.named
  have hlocks := B.notSynchronized
  subst hsz
  have hD := hD0.self (sz := s.heap.size)
  generalize hAe : va_A [(Ad0, .inr (14, Fs0)), (Ad1, .inr (12, Fs1)), (Ad2, .inl (Ka0, 4001, .inl Fa0)), (Ad3, .inl (Ka1, 4001, .inl Fa1)), (Ad4, .inl (Ka2, 4001, .inr (.inl Fa2))), (Ad5, .inr (9, Fs2)), (Ad6, .inr (7, Fs3))] s.heap.size = A at hD hZ ⊢
  have hA : ∀ q : Nat, s.heap.size ≤ q → A q := fun q h => by rw [← hAe]; exact Or.inr h
  have hS : va_S A s.heap s.heap [] := va_S.rf
  have hl := lv_entry ([.ref Ad0, .int Va0]) (n := 3) (Nat.le_of_ble_eq_true rfl)
  rw [lg_entry_eq]
  generalize (lg_sl ([.ref Ad0, .int Va0]) ++ List.replicate (3 - (lg_sl ([.ref Ad0, .int Va0])).length) Slot.unset).toArray = ls at hl ⊢
  have hl : lv_has ls 3 [(0, .ref Ad0), (1, .int Va0)] := hl
  have o_Fs0 := ow_0 k_Fs0
  have o_Fs1 := ow_0 k_Fs1
  have o_Fs2 := ow_0 k_Fs2
  have o_Fs3 := ow_0 k_Fs3
  refine lv_iload_n hx hb dX11_ask_0 rfl (lv_at hl 1 rfl) ?_
  have hPc := hP.sub (ws' := []) [] rfl
  have hDc := hD.sub (ws' := []) [] (by decide) rfl
  have hKc := hK.sub (tys' := []) [] rfl
  have hFc := va_free (wc := []) hD hS hA [] rfl
  refine vx_callv (vx_runS (As := [.int Va0]) (rest := []) ⟨hx, hb, hml, hown, hts⟩ (z_X11_needPicture l dC dI s.heap.size Va0  hst ) (cwS 1 hts g_z_X11_ask_z_X11_needPicture_353 rfl rfl rfl (by decide +kernel) ⟨Nat.le_of_ble_eq_true rfl, Nat.le_of_ble_eq_true rfl⟩) ⟨fun a U g mk q => by obtain ⟨q0, q1, qZ, qP, qK, qD⟩ := q; exact ⟨q0, q1, Zz_call qZ, qP, va_K.moved (u := U) (U := U.calling g mk a) (Vm.Alike.refl U.vm) qK, qD⟩, fun U hU hW => ⟨rfl, by rw [hU], Zz_go hZ hS hFc hU hW, by rw [hU]; exact hPc, va_K.moved hW.alike hKc, hDc.weaken (fun _ _ _ _ => trivial)⟩⟩ rfl rfl hl.1 rfl (lv_room (Nat.le_of_ble_eq_true rfl)) dX11_ask_1 ⟨Nat.le_of_ble_eq_true rfl, Nat.le_of_ble_eq_true rfl⟩) hS (fun q _ h => hFc q h) hFc (fun q _ h => hFc q h) (fun E ce q9 u t H1 locs ht hvm hpx hBX hz1 hk1 hS hce hcv hcl => ?_) (fun u t H1 locs ht hvm hw hB hz1 hk1 hS => ?_)
  · rcases hBX with ⟨rfl, c101⟩ | ⟨rfl, c102, c103⟩
    · exact vx_out (fun x h => (htab x h).elim) hlocks hce hcv hcl (fun t9 ht9 _ => ⟨(), trivial, (Or.inl ⟨rfl, c101⟩), hS.F ht9⟩) hS.2.2 (by decide) (by decide)
    · exact vx_out (fun x h => (htab x h).elim) hlocks hce hcv hcl (fun t9 ht9 _ => ⟨(), trivial, (Or.inr (Or.inl ⟨rfl, c102, c103⟩)), hS.F ht9⟩) hS.2.2 (by decide) (by decide)
  · skip
    obtain ⟨hP1, hK1, hD1⟩ := hB
    rw [ht] at hP1
    try dsimp only at hw
    obtain ⟨hP, hD⟩ := va_join (wr := [(Ad0, .inr (14, Fs0)), (Ad1, .inr (12, Fs1)), (Ad2, .inl (Ka0, 4001, .inl Fa0)), (Ad3, .inl (Ka1, 4001, .inl Fa1)), (Ad4, .inl (Ka2, 4001, .inr (.inl Fa2))), (Ad5, .inr (9, Fs2)), (Ad6, .inr (7, Fs3))]) (w1 := []) hP hD [] [0, 1, 2, 3, 4, 5, 6] rfl rfl (by decide) (by decide) hk1 hFc hP1 hD1
    have hK := hK.sub (tys' := [(Ka0, .int), (Ka1, .int), (Ka2, .long)]) [0, 1, 2] rfl
    generalize H1 = H at hP hS ⊢
    refine W.widen (k := 1) (n := 6) (by omega) (by omega) ?_
    have hP : va_P (dC, dI) vwCl [(Ad0, .inr (14, Fs0)), (Ad1, .inr (12, Fs1)), (Ad2, .inl (Ka0, 4001, .inl Fa0)), (Ad3, .inl (Ka1, 4001, .inl Fa1)), (Ad4, .inl (Ka2, 4001, .inr (.inl Fa2))), (Ad5, .inr (9, Fs2)), (Ad6, .inr (7, Fs3))] H := hP
    have hD : va_D A [(Ad0, .inr (14, Fs0)), (Ad1, .inr (12, Fs1)), (Ad2, .inl (Ka0, 4001, .inl Fa0)), (Ad3, .inl (Ka1, 4001, .inl Fa1)), (Ad4, .inl (Ka2, 4001, .inr (.inl Fa2))), (Ad5, .inr (9, Fs2)), (Ad6, .inr (7, Fs3))] := hD
    obtain ⟨c104, c105⟩ := hw
    refine lv_aload_n hx hb dX11_ask_4 rfl (lv_at hl 0 rfl) ?_
    refine va_get (D := (dC, dI)) (ci := 14) (v := .ref Ad6) (C := RX11) (T := TX11) (N := 18) hx hb hts (in_z_X11_ask_X11) hown hK hP 0 rfl rfl 7 (by decide) (hts (.fieldLink RX11 62 "HeapWorks" "machine" "LHeapWorks$Machine;") (by decide +kernel)) (fun _ h9 => h9) (ow_at o_Fs0 1 rfl) dX11_ask_5 ?_
    refine lv_iconst (v := 0) hx hb dX11_ask_8 (by decide) ?_
    refine va_put (D := (dC, dI)) (ci := 7) (v := .int 0) (ty := .int) (C := RX4) (T := TX4) (N := 21) hx hb hts (in_z_X11_ask_X4) tyX4 tyX4_ok nmX4 hown hK hP hD hS 6 rfl rfl 20 (by decide) (hts (.fieldLink RX11 464 "HeapWorks$Machine" "rowCount" "I") (by decide +kernel)) (fun _ h9 => h9) rfl (by decide +kernel) rfl rfl (by rw [o_Fs3.2.1]; decide) dX11_ask_9 (fun H locs hP hD hS => ?_)
    have hP : va_P (dC, dI) vwCl [(Ad0, .inr (14, Fs0)), (Ad1, .inr (12, Fs1)), (Ad2, .inl (Ka0, 4001, .inl Fa0)), (Ad3, .inl (Ka1, 4001, .inl Fa1)), (Ad4, .inl (Ka2, 4001, .inr (.inl Fa2))), (Ad5, .inr (9, Fs2)), (Ad6, .inr (7, (Fs3.set 20 (.int 0))))] H := hP
    have hD : va_D A [(Ad0, .inr (14, Fs0)), (Ad1, .inr (12, Fs1)), (Ad2, .inl (Ka0, 4001, .inl Fa0)), (Ad3, .inl (Ka1, 4001, .inl Fa1)), (Ad4, .inl (Ka2, 4001, .inr (.inl Fa2))), (Ad5, .inr (9, Fs2)), (Ad6, .inr (7, (Fs3.set 20 (.int 0))))] := hD
    have o_s106 := ow_set o_Fs3 20 (.int 0) (by decide) (l' := [(20, .int 0)]) (w' := [20]) rfl rfl
    generalize (Fs3.set 20 (.int 0)) = s106 at hP hD o_s106
    refine lv_aload_n hx hb dX11_ask_12 rfl (lv_at hl 0 rfl) ?_
    refine va_get (D := (dC, dI)) (ci := 14) (v := .ref Ad5) (C := RX11) (T := TX11) (N := 18) hx hb hts (in_z_X11_ask_X11) hown hK hP 0 rfl rfl 6 (by decide) (hts (.fieldLink RX11 55 "HeapWorks" "question" "LHeapWorks$Program;") (by decide +kernel)) (fun _ h9 => h9) (ow_at o_Fs0 0 rfl) dX11_ask_13 ?_
    have hPc := hP.sub (ws' := [(Ad1, .inr (12, Fs1)), (Ad2, .inl (Ka0, 4001, .inl Fa0)), (Ad3, .inl (Ka1, 4001, .inl Fa1)), (Ad4, .inl (Ka2, 4001, .inr (.inl Fa2))), (Ad5, .inr (9, Fs2))]) [1, 2, 3, 4, 5] rfl
    have hDc := hD.sub (ws' := [(Ad1, .inr (12, Fs1)), (Ad2, .inl (Ka0, 4001, .inl Fa0)), (Ad3, .inl (Ka1, 4001, .inl Fa1)), (Ad4, .inl (Ka2, 4001, .inr (.inl Fa2))), (Ad5, .inr (9, Fs2))]) [1, 2, 3, 4, 5] (by decide) rfl
    have hKc := hK.sub (tys' := [(Ka0, .int), (Ka1, .int), (Ka2, .long)]) [0, 1, 2] rfl
    have hFc := va_free (wc := [(Ad1, .inr (12, Fs1)), (Ad2, .inl (Ka0, 4001, .inl Fa0)), (Ad3, .inl (Ka1, 4001, .inl Fa1)), (Ad4, .inl (Ka2, 4001, .inr (.inl Fa2))), (Ad5, .inr (9, Fs2))]) hD hS hA [1, 2, 3, 4, 5] rfl
    refine va_calli (va_runV (As := []) (rest := []) ⟨hx, hb, hml, hown, hts⟩ (z_X6_readQuestion l dC dI H.size Ad1 Fs1 Ad2 Fa0 Ka0 Ad3 Fa1 Ka1 Ad4 Fa2 Ka2 Ad5 Fs2 (fh_sub o_Fs1.2 [0, 1, 2, 3] rfl) (fh_sub o_Fs2.2 [0] rfl) ) (cwV 0 hts g_z_X11_ask_z_X6_readQuestion_466 rfl rfl rfl (by decide +kernel) ⟨Nat.le_of_ble_eq_true rfl, Nat.le_of_ble_eq_true rfl⟩) ⟨fun a U g mk q => by obtain ⟨q0, q1, qP, qK, qD⟩ := q; exact ⟨q0, q1, qP, va_K.moved (u := U) (U := U.calling g mk a) (Vm.Alike.refl U.vm) qK, qD⟩, va_recv hK hP (ci := 9) (q0 := 5) rfl rfl, fun U hU hW => ⟨rfl, by rw [hU], by rw [hU]; exact hPc, va_K.moved hW.alike hKc, hDc.weaken (fun _ _ _ _ => trivial)⟩⟩ rfl rfl hl.1 rfl (lv_room (Nat.le_of_ble_eq_true rfl)) dX11_ask_16 ⟨Nat.le_of_ble_eq_true rfl, Nat.le_of_ble_eq_true rfl⟩) hS (fun q _ h => hFc q h) hFc (fun r107 u t H1 locs ht hvm hw hB hz1 hk1 hS => ?_)
    obtain ⟨s108, f109, f110, f111, s112⟩ := u
    obtain ⟨hP1, hK1, hD1⟩ := hB
    rw [ht] at hP1
    try dsimp only at hw
    obtain ⟨hP, hD⟩ := va_join (wr := [(Ad0, .inr (14, Fs0)), (Ad6, .inr (7, s106))]) (w1 := [(Ad1, .inr (12, s108)), (Ad2, .inl (Ka0, 4001, .inl f109)), (Ad3, .inl (Ka1, 4001, .inl f110)), (Ad4, .inl (Ka2, 4001, .inr (.inl f111))), (Ad5, .inr (9, s112))]) hP hD [1, 2, 3, 4, 5] [0, 6] rfl rfl (by decide) (by decide) hk1 hFc hP1 hD1
    have hK := hK.sub (tys' := [(Ka0, .int), (Ka1, .int), (Ka2, .long)]) [0, 1, 2] rfl
    generalize H1 = H at hP hS ⊢
    have hP : va_P (dC, dI) vwCl [(Ad0, .inr (14, Fs0)), (Ad6, .inr (7, s106)), (Ad1, .inr (12, s108)), (Ad2, .inl (Ka0, 4001, .inl f109)), (Ad3, .inl (Ka1, 4001, .inl f110)), (Ad4, .inl (Ka2, 4001, .inr (.inl f111))), (Ad5, .inr (9, s112))] H := hP
    have hD : va_D A [(Ad0, .inr (14, Fs0)), (Ad6, .inr (7, s106)), (Ad1, .inr (12, s108)), (Ad2, .inl (Ka0, 4001, .inl f109)), (Ad3, .inl (Ka1, 4001, .inl f110)), (Ad4, .inl (Ka2, 4001, .inr (.inl f111))), (Ad5, .inr (9, s112))] := hD
    obtain ⟨er113, o_s108, o_s112, q114, q115, q116⟩ := hw
    subst er113
    have o_s108 := ow_on o_Fs1 o_s108 (l' := [(11, .long 0), (10, .int 0), (9, .int 0), (8, .int 0), (5, .ref Ad2), (6, .ref Ad3), (7, .ref Ad4), (8, .int 0), (4, .int 0), (1, .int 0), (4, .int 0), (1, .int 0), (5, .ref Ad2), (6, .ref Ad3), (7, .ref Ad4), (1, .int 0), (5, .ref Ad2), (6, .ref Ad3), (7, .ref Ad4), (1, .int 0), (5, .ref Ad2), (6, .ref Ad3), (7, .ref Ad4), (1, .int 0), (5, .ref Ad2), (6, .ref Ad3), (7, .ref Ad4)]) (w' := [11, 10, 9, 8, 4]) rfl rfl
    have o_s112 := ow_on o_Fs2 o_s112 (l' := [(7, .int 0), (6, .int 1), (0, .ref Ad1), (0, .ref Ad1), (0, .ref Ad1), (0, .ref Ad1), (0, .ref Ad1), (0, .ref Ad1), (18, .int 0), (16, .int 0), (13, .int 0), (12, .int 0), (11, .int 0), (10, .int 0), (9, .int 0), (8, .int 0), (5, .int 0), (0, .ref Ad1), (0, .ref Ad1), (0, .ref Ad1)]) (w' := [7, 6, 18, 16, 13, 12, 11, 10, 9, 8, 5]) rfl rfl
    refine lv_istore_n (lv' := [(2, .int 0), (0, .ref Ad0), (1, .int Va0)]) hx hb dX11_ask_19 rfl hl (by decide) rfl (fun ls hl => ?_)
    refine lv_aload_n hx hb dX11_ask_20 rfl (lv_at hl 1 rfl) ?_
    refine lv_aload_n hx hb dX11_ask_21 rfl (lv_at hl 1 rfl) ?_
    refine va_get (D := (dC, dI)) (ci := 14) (v := .ref Ad5) (C := RX11) (T := TX11) (N := 18) hx hb hts (in_z_X11_ask_X11) hown hK hP 0 rfl rfl 6 (by decide) (hts (.fieldLink RX11 55 "HeapWorks" "question" "LHeapWorks$Program;") (by decide +kernel)) (fun _ h9 => h9) (ow_at o_Fs0 0 rfl) dX11_ask_22 ?_
    refine va_get (D := (dC, dI)) (ci := 9) (v := .int 1) (C := RX6) (T := TX6) (N := 19) hx hb hts (in_z_X11_ask_X6) hown hK hP 6 rfl rfl 6 (by decide) (hts (.fieldLink RX11 333 "HeapWorks$Program" "fault" "I") (by decide +kernel)) (fun _ h9 => h9) (ow_at o_s112 1 rfl) dX11_ask_25 ?_
    refine lv_aload_n hx hb dX11_ask_28 rfl (lv_at hl 1 rfl) ?_
    refine va_get (D := (dC, dI)) (ci := 14) (v := .ref Ad5) (C := RX11) (T := TX11) (N := 18) hx hb hts (in_z_X11_ask_X11) hown hK hP 0 rfl rfl 6 (by decide) (hts (.fieldLink RX11 55 "HeapWorks" "question" "LHeapWorks$Program;") (by decide +kernel)) (fun _ h9 => h9) (ow_at o_Fs0 0 rfl) dX11_ask_29 ?_
    refine va_get (D := (dC, dI)) (ci := 9) (v := .int 0) (C := RX6) (T := TX6) (N := 19) hx hb hts (in_z_X11_ask_X6) hown hK hP 6 rfl rfl 7 (by decide) (hts (.fieldLink RX11 336 "HeapWorks$Program" "place" "I") (by decide +kernel)) (fun _ h9 => h9) (ow_at o_s112 0 rfl) dX11_ask_32 ?_
    have hPc := hP.sub (ws' := [(Ad0, .inr (14, Fs0))]) [0] rfl
    have hDc := hD.sub (ws' := [(Ad0, .inr (14, Fs0))]) [0] (by decide) rfl
    have hKc := hK.sub (tys' := []) [] rfl
    have hFc := va_free (wc := [(Ad0, .inr (14, Fs0))]) hD hS hA [0] rfl
    refine va_callv (va_runV (As := [.int 1, .int 0]) (rest := []) ⟨hx, hb, hml, hown, hts⟩ (z_X11_tellFault l dC dI H.size Ad0 Fs0 (fh_sub o_Fs0.2 [] rfl) ) (cwV 2 hts g_z_X11_ask_z_X11_tellFault_339 rfl rfl rfl (by decide +kernel) ⟨Nat.le_of_ble_eq_true rfl, Nat.le_of_ble_eq_true rfl⟩) ⟨fun a U g mk q => by obtain ⟨q0, q1, qP, qK, qD⟩ := q; exact ⟨q0, q1, qP, va_K.moved (u := U) (U := U.calling g mk a) (Vm.Alike.refl U.vm) qK, qD⟩, va_recv hK hP (ci := 14) (q0 := 0) rfl rfl, fun U hU hW => ⟨rfl, by rw [hU], by rw [hU]; exact hPc, va_K.moved hW.alike hKc, hDc.weaken (fun _ _ _ _ => trivial)⟩⟩ rfl rfl hl.1 rfl (lv_room (Nat.le_of_ble_eq_true rfl)) dX11_ask_35 ⟨Nat.le_of_ble_eq_true rfl, Nat.le_of_ble_eq_true rfl⟩) hS (fun q _ h => hFc q h) hFc (fun u t H1 locs ht hvm hw hB hz1 hk1 hS => ?_)
    obtain ⟨s117, rfl⟩ : ∃ z, z = u := ⟨_, rfl⟩
    obtain ⟨hP1, hK1, hD1⟩ := hB
    rw [ht] at hP1
    try dsimp only at hw
    obtain ⟨hP, hD⟩ := va_join (wr := [(Ad6, .inr (7, s106)), (Ad1, .inr (12, s108)), (Ad2, .inl (Ka0, 4001, .inl f109)), (Ad3, .inl (Ka1, 4001, .inl f110)), (Ad4, .inl (Ka2, 4001, .inr (.inl f111))), (Ad5, .inr (9, s112))]) (w1 := [(Ad0, .inr (14, s117))]) hP hD [0] [1, 2, 3, 4, 5, 6] rfl rfl (by decide) (by decide) hk1 hFc hP1 hD1
    have hK := hK.sub (tys' := [(Ka0, .int), (Ka1, .int), (Ka2, .long)]) [0, 1, 2] rfl
    generalize H1 = H at hP hS ⊢
    have hP : va_P (dC, dI) vwCl [(Ad6, .inr (7, s106)), (Ad1, .inr (12, s108)), (Ad2, .inl (Ka0, 4001, .inl f109)), (Ad3, .inl (Ka1, 4001, .inl f110)), (Ad4, .inl (Ka2, 4001, .inr (.inl f111))), (Ad5, .inr (9, s112)), (Ad0, .inr (14, s117))] H := hP
    have hD : va_D A [(Ad6, .inr (7, s106)), (Ad1, .inr (12, s108)), (Ad2, .inl (Ka0, 4001, .inl f109)), (Ad3, .inl (Ka1, 4001, .inl f110)), (Ad4, .inl (Ka2, 4001, .inr (.inl f111))), (Ad5, .inr (9, s112)), (Ad0, .inr (14, s117))] := hD
    have o_s117 := hw
    have o_s117 := ow_on o_Fs0 o_s117 (l' := [(17, .int 0), (16, .int 1), (6, .ref Ad5), (7, .ref Ad6)]) (w' := [17, 16]) rfl rfl
    refine lv_iload_n hx hb dX11_ask_38 rfl (lv_at hl 0 rfl) ?_
    refine lv_if_eq (tgt := 76) hx hb dX11_ask_39 (by decide) (fun c118 => ?_) (fun c118 => absurd c118 (by decide))
    refine lv_aload_n hx hb dX11_ask_76 rfl (lv_at hl 1 rfl) ?_
    refine va_get (D := (dC, dI)) (ci := 14) (v := .int 1) (C := RX11) (T := TX11) (N := 18) hx hb hts (in_z_X11_ask_X11) hown hK hP 6 rfl rfl 16 (by decide) (hts (.fieldLink RX11 469 "HeapWorks" "faultCode" "I") (by decide +kernel)) (fun _ h9 => h9) (ow_at o_s117 1 rfl) dX11_ask_77 ?_
    refine lv_if_eq (tgt := 91) hx hb dX11_ask_80 (by decide) (fun c119 => absurd c119 (by decide)) (fun c119 => ?_)
    exact vx_throw0 (names := ["java/lang/RuntimeException", "java/lang/Exception"]) hx hb hst hown (by decide +kernel) (by decide +kernel) (hts (.classLink RX11 127 "java/lang/IllegalArgumentException") (by decide +kernel)) (hts (.initialized "java/lang/IllegalArgumentException") (by decide +kernel)) (vx_hat (B := xB "java/lang/IllegalArgumentException") (fun w h => hts w ((in_z_X11_ask_at0_X11_129) w h)) (by decide +kernel) (Zz_xB hZ (by decide))) (by decide +kernel) hZ.1 hZ.2.1 hS (hl.1.trans hml.symm) dX11_ask_83 dX11_ask_86 dX11_ask_87 dX11_ask_90 (fun x h => (htab x h).elim) (by decide) (Nat.le_of_ble_eq_true rfl) (Nat.le_of_ble_eq_true rfl) (Nat.le_of_ble_eq_true rfl) hlocks (fun t _ h1 h2 => ⟨(), trivial, (Or.inr (Or.inr (⟨rfl, c104, c105⟩))), xx_F hS h1 h2⟩) hS.2.2 (by decide) (by decide)

def l_z_X11_answer : List Cond := [.classLink RX11 221 "java/util/NoSuchElementException", .initialized "java/util/NoSuchElementException", .fieldLink RX11 62 "HeapWorks" "machine" "LHeapWorks$Machine;", .fieldLink RX11 464 "HeapWorks$Machine" "rowCount" "I"]
def w_z_X11_answer : List Cond := .code yX11_answer cX11_answer 3 (some .long) :: (l_z_X11_answer ++ ((((vx_at0 RX11 223 "java/util/NoSuchElementException" ["java/lang/RuntimeException", "java/lang/Exception"]).filter goodWord) ++ (wsX110 ++ wsX40))))
theorem in_z_X11_answer_at0_X11_223 : ∀ w ∈ ((vx_at0 RX11 223 "java/util/NoSuchElementException" ["java/lang/RuntimeException", "java/lang/Exception"]).filter goodWord), w ∈ w_z_X11_answer := fun w h => List.mem_cons_of_mem _ (List.mem_append_right _ (List.mem_append_left _ h))
theorem in_z_X11_answer_X11 : ∀ w ∈ wsX110, w ∈ w_z_X11_answer := fun w h => List.mem_cons_of_mem _ (List.mem_append_right _ (List.mem_append_right _ (List.mem_append_left _ h)))
theorem in_z_X11_answer_X4 : ∀ w ∈ wsX40, w ∈ w_z_X11_answer := fun w h => List.mem_cons_of_mem _ (List.mem_append_right _ (List.mem_append_right _ (List.mem_append_right _ (h))))
set_option maxHeartbeats 4000000 in
set_option maxRecDepth 100000 in
theorem z_X11_answer (l : Launch) (dC : Nat → ClassId) (dI : Nat → Nat → Nat) (sz : Nat) (Ad0 : Nat) (Fs0 : List Value) (Ad1 : Nat) (Fs1 : List Value) (Va0 : Int32) (Va1 : Int32) (k_Fs0 : fh Fs0 18 [(7, .ref Ad1)]) (k_Fs1 : fh Fs1 21 [(20, .int 0)]) (hst : l.stackTraces = false)  : vx_Met l yX11_answer w_z_X11_answer ({ frames := 7, cells := 1, slots := 6, locals := 140 }) (va_Pc [.ref Ad0, .int Va0, .int Va1] (fun U => U.heap.size = sz ∧ Zz (va_A [(Ad0, .inr (14, Fs0)), (Ad1, .inr (7, Fs1))] sz) U ∧ Wd dC dI [] (fun _ => True) [(Ad0, .inr (14, Fs0)), (Ad1, .inr (7, Fs1))] U)) (va_Ql (fun (r : Int64) (u : Unit) => False) (fun (u : Unit) t => Wd dC dI [] (va_A [(Ad0, .inr (14, Fs0)), (Ad1, .inr (7, Fs1))] sz) [(Ad0, .inr (14, Fs0)), (Ad1, .inr (7, Fs1))] t) (va_A [(Ad0, .inr (14, Fs0)), (Ad1, .inr (7, Fs1))] sz)) (vx_X (fun _ : Unit => True) (fun E _ _ => (E = "java/util/NoSuchElementException" ∧ Va0 < 0) ∨ (E = "java/util/NoSuchElementException" ∧ ¬ Va0 < 0 ∧ 0 ≤ Va0)) (va_A [(Ad0, .inr (14, Fs0)), (Ad1, .inr (7, Fs1))] sz)) 1 6 (va_A [(Ad0, .inr (14, Fs0)), (Ad1, .inr (7, Fs1))] sz) := by
  refine vx_ofW (cc := cX11_answer) (maxL := 3) (ret := (some .long)) (by decide) rfl ?_
  intro p e s m args below meth c s₁ B hml htab hv
  obtain ⟨rfl, hsz, hZ, hP, hK, hD0⟩ := hv
  have hx := B.exec
  have hb := B.bytes
  have hr := B.returns
  have hts := atoms_spec (ws := w_z_X11_answer) B.pre
  have hown : s.vm.findClass RX11 = some m.cls := findClass_of_methodNamed B.named
  have hlocks := B.notSynchronized
  subst hsz
  have hD := hD0.self (sz := s.heap.size)
  generalize hAe : va_A [(Ad0, .inr (14, Fs0)), (Ad1, .inr (7, Fs1))] s.heap.size = A at hD hZ ⊢
  have hA : ∀ q : Nat, s.heap.size ≤ q → A q := fun q h => by rw [← hAe]; exact Or.inr h
  have hS : va_S A s.heap s.heap [] := va_S.rf
  have hl := lv_entry ([.ref Ad0, .int Va0, .int Va1]) (n := 3) (Nat.le_of_ble_eq_true rfl)
  rw [lg_entry_eq]
  generalize (lg_sl ([.ref Ad0, .int Va0, .int Va1]) ++ List.replicate (3 - (lg_sl ([.ref Ad0, .int Va0, .int Va1])).length) Slot.unset).toArray = ls at hl ⊢
  have hl : lv_has ls 3 [(0, .ref Ad0), (1, .int Va0), (2, .int Va1)] := hl
  have o_Fs0 := ow_0 k_Fs0
  have o_Fs1 := ow_0 k_Fs1
  refine lv_iload_n hx hb dX11_answer_0 rfl (lv_at hl 1 rfl) ?_
  refine lv_if_lt (tgt := 24) hx hb dX11_answer_1 (by decide) (fun c101 => ?_) (fun c101 => ?_)
  · skip
    exact vx_throw0 (names := ["java/lang/RuntimeException", "java/lang/Exception"]) hx hb hst hown (by decide +kernel) (by decide +kernel) (hts (.classLink RX11 221 "java/util/NoSuchElementException") (by decide +kernel)) (hts (.initialized "java/util/NoSuchElementException") (by decide +kernel)) (vx_hat (B := xB "java/util/NoSuchElementException") (fun w h => hts w ((in_z_X11_answer_at0_X11_223) w h)) (by decide +kernel) (Zz_xB hZ (by decide))) (by decide +kernel) hZ.1 hZ.2.1 hS (hl.1.trans hml.symm) dX11_answer_24 dX11_answer_27 dX11_answer_28 dX11_answer_31 (fun x h => (htab x h).elim) (by decide) (Nat.le_of_ble_eq_true rfl) (Nat.le_of_ble_eq_true rfl) (Nat.le_of_ble_eq_true rfl) hlocks (fun t _ h1 h2 => ⟨(), trivial, (Or.inl ⟨rfl, c101⟩), xx_F hS h1 h2⟩) hS.2.2 (by decide) (by decide)
  · skip
    refine lv_iload_n hx hb dX11_answer_4 rfl (lv_at hl 1 rfl) ?_
    refine lv_aload_n hx hb dX11_answer_5 rfl (lv_at hl 0 rfl) ?_
    refine va_get (D := (dC, dI)) (ci := 14) (v := .ref Ad1) (C := RX11) (T := TX11) (N := 18) hx hb hts (in_z_X11_answer_X11) hown hK hP 0 rfl rfl 7 (by decide) (hts (.fieldLink RX11 62 "HeapWorks" "machine" "LHeapWorks$Machine;") (by decide +kernel)) (fun _ h9 => h9) (ow_at o_Fs0 0 rfl) dX11_answer_6 ?_
    refine va_get (D := (dC, dI)) (ci := 7) (v := .int 0) (C := RX4) (T := TX4) (N := 21) hx hb hts (in_z_X11_answer_X4) hown hK hP 1 rfl rfl 20 (by decide) (hts (.fieldLink RX11 464 "HeapWorks$Machine" "rowCount" "I") (by decide +kernel)) (fun _ h9 => h9) (ow_at o_Fs1 0 rfl) dX11_answer_9 ?_
    refine lv_icmp_ge (tgt := 24) hx hb dX11_answer_12 (by decide) (fun c102 => ?_) (fun c102 => (by exfalso; have bd_Va0 := i_bd Va0; (try simp only [i_lt, i_le, i_eq, kc_0] at c101 c102); omega))
    exact vx_throw0 (names := ["java/lang/RuntimeException", "java/lang/Exception"]) hx hb hst hown (by decide +kernel) (by decide +kernel) (hts (.classLink RX11 221 "java/util/NoSuchElementException") (by decide +kernel)) (hts (.initialized "java/util/NoSuchElementException") (by decide +kernel)) (vx_hat (B := xB "java/util/NoSuchElementException") (fun w h => hts w ((in_z_X11_answer_at0_X11_223) w h)) (by decide +kernel) (Zz_xB hZ (by decide))) (by decide +kernel) hZ.1 hZ.2.1 hS (hl.1.trans hml.symm) dX11_answer_24 dX11_answer_27 dX11_answer_28 dX11_answer_31 (fun x h => (htab x h).elim) (by decide) (Nat.le_of_ble_eq_true rfl) (Nat.le_of_ble_eq_true rfl) (Nat.le_of_ble_eq_true rfl) hlocks (fun t _ h1 h2 => ⟨(), trivial, (Or.inr (⟨rfl, c101, c102⟩)), xx_F hS h1 h2⟩) hS.2.2 (by decide) (by decide)

def l_z_X7_readAll : List Cond := [.fieldLink RX7 70 "HeapWorks$RuleText" "rules" "I", .fieldLink RX7 74 "HeapWorks$RuleText" "relations" "I", .fieldLink RX7 77 "HeapWorks$RuleText" "fault" "I", .fieldLink RX7 80 "HeapWorks$RuleText" "place" "I", .fieldLink RX7 9 "HeapWorks$RuleText" "tape" "LHeapWorks$Tape;", .methodLink RX7 83 yX9_startWords, .instanceMethod yX9_startWords, .selects RX9 yX9_startWords yX9_startWords, .initialized RX9, .fieldLink RX7 86 "HeapWorks$Tape" "word" "I", .code yX9_startWords cX9_startWords 2 none, .fieldLink RX9 69 "HeapWorks$Tape" "at" "I", .methodLink RX9 72 yX9_scanWord, .instanceMethod yX9_scanWord, .selects RX9 yX9_scanWord yX9_scanWord, .fieldLink RX9 18 "HeapWorks$Tape" "words" "[I", .fieldLink RX9 75 "HeapWorks$Tape" "word" "I", .fieldLink RX9 21 "HeapWorks$Tape" "places" "[I", .fieldLink RX9 78 "HeapWorks$Tape" "place" "I", .fieldLink RX9 24 "HeapWorks$Tape" "codes" "[J", .fieldLink RX9 81 "HeapWorks$Tape" "code" "J", .fieldLink RX9 85 "HeapWorks$Tape" "next" "I", .methodLink RX9 88 yX9_nextWord, .instanceMethod yX9_nextWord, .selects RX9 yX9_nextWord yX9_nextWord, .code yX9_scanWord cX9_scanWord 1 none, .fieldLink RX9 49 "HeapWorks$Tape" "size" "I", .code yX9_nextWord cX9_nextWord 1 none]
def w_z_X7_readAll : List Cond := .code yX7_readAll cX7_readAll 2 (some .boolean) :: (l_z_X7_readAll ++ ((wsX70 ++ wsX90)))
theorem in_z_X7_readAll_X7 : ∀ w ∈ wsX70, w ∈ w_z_X7_readAll := fun w h => List.mem_cons_of_mem _ (List.mem_append_right _ (List.mem_append_left _ h))
theorem in_z_X7_readAll_X9 : ∀ w ∈ wsX90, w ∈ w_z_X7_readAll := fun w h => List.mem_cons_of_mem _ (List.mem_append_right _ (List.mem_append_right _ (h)))
theorem g_z_X7_readAll_z_X9_startWords_83 : GoodIn w_z_X7_readAll (wsV RX7 83 RX9 yX9_startWords w_z_X9_startWords) := goodIn_app (goodIn_r (([.methodLink RX7 83 yX9_startWords, .instanceMethod yX9_startWords, .selects RX9 yX9_startWords yX9_startWords, .initialized RX9] : List Cond)) [6, 7, 8, 9] rfl (by decide +kernel)) (goodIn_ca (goodIn_r (.code yX9_startWords cX9_startWords 2 none :: l_z_X9_startWords) [11, 12, 13, 14, 15, 9, 16, 17, 18, 19, 20, 21, 22, 23, 24, 25, 26, 27, 28] rfl (by decide +kernel)) (goodIn_in (in_z_X7_readAll_X9) gd_X9))
set_option maxHeartbeats 4000000 in
set_option maxRecDepth 100000 in
theorem z_X7_readAll (l : Launch) (dC : Nat → ClassId) (dI : Nat → Nat → Nat) (sz : Nat) (Ad0 : Nat) (Fs0 : List Value) (Ad1 : Nat) (Fa0 : Nat → Int32) (Ka0 : ClassId) (Ad2 : Nat) (Fa1 : Nat → Int32) (Ka1 : ClassId) (Ad3 : Nat) (Fa2 : Nat → Int64) (Ka2 : ClassId) (Ad4 : Nat) (Fs1 : List Value) (k_Fs0 : fh Fs0 12 [(1, .int 0), (5, .ref Ad1), (6, .ref Ad2), (7, .ref Ad3)]) (k_Fs1 : fh Fs1 21 [(0, .ref Ad0)])  : Met l yX7_readAll w_z_X7_readAll ({ frames := 2, cells := 0, slots := 0, locals := 41 }) (va_Pc [.ref Ad4] (fun U => U.heap.size = sz ∧ Wd dC dI [(Ka0, .int), (Ka1, .int), (Ka2, .long)] (fun _ => True) [(Ad0, .inr (12, Fs0)), (Ad1, .inl (Ka0, 4001, .inl Fa0)), (Ad2, .inl (Ka1, 4001, .inl Fa1)), (Ad3, .inl (Ka2, 4001, .inr (.inl Fa2))), (Ad4, .inr (10, Fs1))] U)) (va_Qi (fun (r : Int32) (u : List Value × (Nat → Int32) × (Nat → Int32) × (Nat → Int64) × List Value) => (r = 1 ∧ ow Fs0 (u.1) 12 [11, 10, 9, 8, 4] [(11, .long 0), (10, .int 0), (9, .int 0), (8, .int 0), (5, .ref Ad1), (6, .ref Ad2), (7, .ref Ad3), (8, .int 0), (4, .int 0), (1, .int 0), (4, .int 0), (1, .int 0), (5, .ref Ad1), (6, .ref Ad2), (7, .ref Ad3), (1, .int 0), (5, .ref Ad1), (6, .ref Ad2), (7, .ref Ad3)] ∧ ow Fs1 (u.2.2.2.2) 21 [20, 19, 16, 3] [(20, .int (-1)), (19, .int 0), (16, .int 0), (3, .int 0), (0, .ref Ad0)] ∧ (u.2.1) (0 : Int32).toNatClampNeg = 0 ∧ (u.2.2.1) (0 : Int32).toNatClampNeg = 0 ∧ (u.2.2.2.1) (0 : Int32).toNatClampNeg = 0)) (fun (u : List Value × (Nat → Int32) × (Nat → Int32) × (Nat → Int64) × List Value) t => Wd dC dI [(Ka0, .int), (Ka1, .int), (Ka2, .long)] (va_A [(Ad0, .inr (12, Fs0)), (Ad1, .inl (Ka0, 4001, .inl Fa0)), (Ad2, .inl (Ka1, 4001, .inl Fa1)), (Ad3, .inl (Ka2, 4001, .inr (.inl Fa2))), (Ad4, .inr (10, Fs1))] sz) [(Ad0, .inr (12, (u.1))), (Ad1, .inl (Ka0, 4001, .inl ((u.2.1)))), (Ad2, .inl (Ka1, 4001, .inl ((u.2.2.1)))), (Ad3, .inl (Ka2, 4001, .inr (.inl ((u.2.2.2.1))))), (Ad4, .inr (10, (u.2.2.2.2)))] t) (va_A [(Ad0, .inr (12, Fs0)), (Ad1, .inl (Ka0, 4001, .inl Fa0)), (Ad2, .inl (Ka1, 4001, .inl Fa1)), (Ad3, .inl (Ka2, 4001, .inr (.inl Fa2))), (Ad4, .inr (10, Fs1))] sz))  0 0 (va_A [(Ad0, .inr (12, Fs0)), (Ad1, .inl (Ka0, 4001, .inl Fa0)), (Ad2, .inl (Ka1, 4001, .inl Fa1)), (Ad3, .inl (Ka2, 4001, .inr (.inl Fa2))), (Ad4, .inr (10, Fs1))] sz) := by
  refine Met.ofW (cc := cX7_readAll) (maxL := 2) (ret := (some .boolean)) (by decide) rfl ?_
  intro p e s m args below meth c s₁ B hml hv
  obtain ⟨rfl, hsz, hP, hK, hD0⟩ := hv
  have hx := B.exec
  have hb := B.bytes
  have hr := B.returns
  have hts := atoms_spec (ws := w_z_X7_readAll) B.pre
  have hown : s.vm.findClass RX7 = some m.cls := findClass_of_methodNamed B.named
  have hlocks := B.notSynchronized
  subst hsz
  have hD := hD0.self (sz := s.heap.size)
  generalize hAe : va_A [(Ad0, .inr (12, Fs0)), (Ad1, .inl (Ka0, 4001, .inl Fa0)), (Ad2, .inl (Ka1, 4001, .inl Fa1)), (Ad3, .inl (Ka2, 4001, .inr (.inl Fa2))), (Ad4, .inr (10, Fs1))] s.heap.size = A at hD ⊢
  have hA : ∀ q : Nat, s.heap.size ≤ q → A q := fun q h => by rw [← hAe]; exact Or.inr h
  have hS : va_S A s.heap s.heap [] := va_S.rf
  have hl := lv_entry ([.ref Ad4]) (n := 2) (Nat.le_of_ble_eq_true rfl)
  rw [lg_entry_eq]
  generalize (lg_sl ([.ref Ad4]) ++ List.replicate (2 - (lg_sl ([.ref Ad4])).length) Slot.unset).toArray = ls at hl ⊢
  have hl : lv_has ls 2 [(0, .ref Ad4)] := hl
  have o_Fs0 := ow_0 k_Fs0
  have o_Fs1 := ow_0 k_Fs1
  refine lv_aload_n hx hb dX7_readAll_0 rfl (lv_at hl 0 rfl) ?_
  refine lv_iconst (v := 0) hx hb dX7_readAll_1 (by decide) ?_
  refine va_put (D := (dC, dI)) (ci := 10) (v := .int 0) (ty := .int) (C := RX7) (T := TX7) (N := 21) hx hb hts (in_z_X7_readAll_X7) tyX7 tyX7_ok nmX7 hown hK hP hD hS 4 rfl rfl 3 (by decide) (hts (.fieldLink RX7 70 "HeapWorks$RuleText" "rules" "I") (by decide +kernel)) (fun _ h9 => h9) rfl (by decide +kernel) rfl rfl (by rw [o_Fs1.2.1]; decide) dX7_readAll_2 (fun H locs hP hD hS => ?_)
  have hP : va_P (dC, dI) vwCl [(Ad0, .inr (12, Fs0)), (Ad1, .inl (Ka0, 4001, .inl Fa0)), (Ad2, .inl (Ka1, 4001, .inl Fa1)), (Ad3, .inl (Ka2, 4001, .inr (.inl Fa2))), (Ad4, .inr (10, (Fs1.set 3 (.int 0))))] H := hP
  have hD : va_D A [(Ad0, .inr (12, Fs0)), (Ad1, .inl (Ka0, 4001, .inl Fa0)), (Ad2, .inl (Ka1, 4001, .inl Fa1)), (Ad3, .inl (Ka2, 4001, .inr (.inl Fa2))), (Ad4, .inr (10, (Fs1.set 3 (.int 0))))] := hD
  have o_s101 := ow_set o_Fs1 3 (.int 0) (by decide) (l' := [(3, .int 0), (0, .ref Ad0)]) (w' := [3]) rfl rfl
  generalize (Fs1.set 3 (.int 0)) = s101 at hP hD o_s101
  refine lv_aload_n hx hb dX7_readAll_5 rfl (lv_at hl 0 rfl) ?_
  refine lv_iconst (v := 0) hx hb dX7_readAll_6 (by decide) ?_
  refine va_put (D := (dC, dI)) (ci := 10) (v := .int 0) (ty := .int) (C := RX7) (T := TX7) (N := 21) hx hb hts (in_z_X7_readAll_X7) tyX7 tyX7_ok nmX7 hown hK hP hD hS 4 rfl rfl 16 (by decide) (hts (.fieldLink RX7 74 "HeapWorks$RuleText" "relations" "I") (by decide +kernel)) (fun _ h9 => h9) rfl (by decide +kernel) rfl rfl (by rw [o_s101.2.1]; decide) dX7_readAll_7 (fun H locs hP hD hS => ?_)
  have hP : va_P (dC, dI) vwCl [(Ad0, .inr (12, Fs0)), (Ad1, .inl (Ka0, 4001, .inl Fa0)), (Ad2, .inl (Ka1, 4001, .inl Fa1)), (Ad3, .inl (Ka2, 4001, .inr (.inl Fa2))), (Ad4, .inr (10, (s101.set 16 (.int 0))))] H := hP
  have hD : va_D A [(Ad0, .inr (12, Fs0)), (Ad1, .inl (Ka0, 4001, .inl Fa0)), (Ad2, .inl (Ka1, 4001, .inl Fa1)), (Ad3, .inl (Ka2, 4001, .inr (.inl Fa2))), (Ad4, .inr (10, (s101.set 16 (.int 0))))] := hD
  have o_s102 := ow_set o_s101 16 (.int 0) (by decide) (l' := [(16, .int 0), (3, .int 0), (0, .ref Ad0)]) (w' := [16, 3]) rfl rfl
  generalize (s101.set 16 (.int 0)) = s102 at hP hD o_s102
  refine lv_aload_n hx hb dX7_readAll_10 rfl (lv_at hl 0 rfl) ?_
  refine lv_iconst (v := 0) hx hb dX7_readAll_11 (by decide) ?_
  refine va_put (D := (dC, dI)) (ci := 10) (v := .int 0) (ty := .int) (C := RX7) (T := TX7) (N := 21) hx hb hts (in_z_X7_readAll_X7) tyX7 tyX7_ok nmX7 hown hK hP hD hS 4 rfl rfl 19 (by decide) (hts (.fieldLink RX7 77 "HeapWorks$RuleText" "fault" "I") (by decide +kernel)) (fun _ h9 => h9) rfl (by decide +kernel) rfl rfl (by rw [o_s102.2.1]; decide) dX7_readAll_12 (fun H locs hP hD hS => ?_)
  have hP : va_P (dC, dI) vwCl [(Ad0, .inr (12, Fs0)), (Ad1, .inl (Ka0, 4001, .inl Fa0)), (Ad2, .inl (Ka1, 4001, .inl Fa1)), (Ad3, .inl (Ka2, 4001, .inr (.inl Fa2))), (Ad4, .inr (10, (s102.set 19 (.int 0))))] H := hP
  have hD : va_D A [(Ad0, .inr (12, Fs0)), (Ad1, .inl (Ka0, 4001, .inl Fa0)), (Ad2, .inl (Ka1, 4001, .inl Fa1)), (Ad3, .inl (Ka2, 4001, .inr (.inl Fa2))), (Ad4, .inr (10, (s102.set 19 (.int 0))))] := hD
  have o_s103 := ow_set o_s102 19 (.int 0) (by decide) (l' := [(19, .int 0), (16, .int 0), (3, .int 0), (0, .ref Ad0)]) (w' := [19, 16, 3]) rfl rfl
  generalize (s102.set 19 (.int 0)) = s103 at hP hD o_s103
  refine lv_aload_n hx hb dX7_readAll_15 rfl (lv_at hl 0 rfl) ?_
  refine lv_iconst (v := (-1)) hx hb dX7_readAll_16 (by decide) ?_
  refine va_put (D := (dC, dI)) (ci := 10) (v := .int (-1)) (ty := .int) (C := RX7) (T := TX7) (N := 21) hx hb hts (in_z_X7_readAll_X7) tyX7 tyX7_ok nmX7 hown hK hP hD hS 4 rfl rfl 20 (by decide) (hts (.fieldLink RX7 80 "HeapWorks$RuleText" "place" "I") (by decide +kernel)) (fun _ h9 => h9) rfl (by decide +kernel) rfl rfl (by rw [o_s103.2.1]; decide) dX7_readAll_17 (fun H locs hP hD hS => ?_)
  have hP : va_P (dC, dI) vwCl [(Ad0, .inr (12, Fs0)), (Ad1, .inl (Ka0, 4001, .inl Fa0)), (Ad2, .inl (Ka1, 4001, .inl Fa1)), (Ad3, .inl (Ka2, 4001, .inr (.inl Fa2))), (Ad4, .inr (10, (s103.set 20 (.int (-1)))))] H := hP
  have hD : va_D A [(Ad0, .inr (12, Fs0)), (Ad1, .inl (Ka0, 4001, .inl Fa0)), (Ad2, .inl (Ka1, 4001, .inl Fa1)), (Ad3, .inl (Ka2, 4001, .inr (.inl Fa2))), (Ad4, .inr (10, (s103.set 20 (.int (-1)))))] := hD
  have o_s104 := ow_set o_s103 20 (.int (-1)) (by decide) (l' := [(20, .int (-1)), (19, .int 0), (16, .int 0), (3, .int 0), (0, .ref Ad0)]) (w' := [20, 19, 16, 3]) rfl rfl
  generalize (s103.set 20 (.int (-1))) = s104 at hP hD o_s104
  refine lv_aload_n hx hb dX7_readAll_20 rfl (lv_at hl 0 rfl) ?_
  refine va_get (D := (dC, dI)) (ci := 10) (v := .ref Ad0) (C := RX7) (T := TX7) (N := 21) hx hb hts (in_z_X7_readAll_X7) hown hK hP 4 rfl rfl 0 (by decide) (hts (.fieldLink RX7 9 "HeapWorks$RuleText" "tape" "LHeapWorks$Tape;") (by decide +kernel)) (fun _ h9 => h9) (ow_at o_s104 4 rfl) dX7_readAll_21 ?_
  have hPc := hP.sub (ws' := [(Ad0, .inr (12, Fs0)), (Ad1, .inl (Ka0, 4001, .inl Fa0)), (Ad2, .inl (Ka1, 4001, .inl Fa1)), (Ad3, .inl (Ka2, 4001, .inr (.inl Fa2)))]) [0, 1, 2, 3] rfl
  have hDc := hD.sub (ws' := [(Ad0, .inr (12, Fs0)), (Ad1, .inl (Ka0, 4001, .inl Fa0)), (Ad2, .inl (Ka1, 4001, .inl Fa1)), (Ad3, .inl (Ka2, 4001, .inr (.inl Fa2)))]) [0, 1, 2, 3] (by decide) rfl
  have hKc := hK.sub (tys' := [(Ka0, .int), (Ka1, .int), (Ka2, .long)]) [0, 1, 2] rfl
  have hFc := va_free (wc := [(Ad0, .inr (12, Fs0)), (Ad1, .inl (Ka0, 4001, .inl Fa0)), (Ad2, .inl (Ka1, 4001, .inl Fa1)), (Ad3, .inl (Ka2, 4001, .inr (.inl Fa2)))]) hD hS hA [0, 1, 2, 3] rfl
  refine va_callv (va_runV (As := []) (rest := []) ⟨hx, hb, hml, hown, hts⟩ (z_X9_startWords l dC dI H.size Ad0 Fs0 Ad1 Fa0 Ka0 Ad2 Fa1 Ka1 Ad3 Fa2 Ka2 (fh_sub o_Fs0.2 [0, 1, 2, 3] rfl) ) (cwV 0 hts g_z_X7_readAll_z_X9_startWords_83 rfl rfl rfl (by decide +kernel) ⟨Nat.le_of_ble_eq_true rfl, Nat.le_of_ble_eq_true rfl⟩) ⟨fun a U g mk q => by obtain ⟨q0, q1, qP, qK, qD⟩ := q; exact ⟨q0, q1, qP, va_K.moved (u := U) (U := U.calling g mk a) (Vm.Alike.refl U.vm) qK, qD⟩, va_recv hK hP (ci := 12) (q0 := 0) rfl rfl, fun U hU hW => ⟨rfl, by rw [hU], by rw [hU]; exact hPc, va_K.moved hW.alike hKc, hDc.weaken (fun _ _ _ _ => trivial)⟩⟩ rfl rfl hl.1 rfl (lv_room (Nat.le_of_ble_eq_true rfl)) dX7_readAll_24 ⟨Nat.le_of_ble_eq_true rfl, Nat.le_of_ble_eq_true rfl⟩) hS (fun q _ h => hFc q h) hFc (fun u t H1 locs ht hvm hw hB hz1 hk1 hS => ?_)
  obtain ⟨s105, f106, f107, f108⟩ := u
  obtain ⟨hP1, hK1, hD1⟩ := hB
  rw [ht] at hP1
  try dsimp only at hw
  obtain ⟨hP, hD⟩ := va_join (wr := [(Ad4, .inr (10, s104))]) (w1 := [(Ad0, .inr (12, s105)), (Ad1, .inl (Ka0, 4001, .inl f106)), (Ad2, .inl (Ka1, 4001, .inl f107)), (Ad3, .inl (Ka2, 4001, .inr (.inl f108)))]) hP hD [0, 1, 2, 3] [4] rfl rfl (by decide) (by decide) hk1 hFc hP1 hD1
  have hK := hK.sub (tys' := [(Ka0, .int), (Ka1, .int), (Ka2, .long)]) [0, 1, 2] rfl
  generalize H1 = H at hP hS ⊢
  have hP : va_P (dC, dI) vwCl [(Ad4, .inr (10, s104)), (Ad0, .inr (12, s105)), (Ad1, .inl (Ka0, 4001, .inl f106)), (Ad2, .inl (Ka1, 4001, .inl f107)), (Ad3, .inl (Ka2, 4001, .inr (.inl f108)))] H := hP
  have hD : va_D A [(Ad4, .inr (10, s104)), (Ad0, .inr (12, s105)), (Ad1, .inl (Ka0, 4001, .inl f106)), (Ad2, .inl (Ka1, 4001, .inl f107)), (Ad3, .inl (Ka2, 4001, .inr (.inl f108)))] := hD
  obtain ⟨o_s105, q109, q110, q111⟩ := hw
  have o_s105 := ow_on o_Fs0 o_s105 (l' := [(11, .long 0), (10, .int 0), (9, .int 0), (8, .int 0), (5, .ref Ad1), (6, .ref Ad2), (7, .ref Ad3), (8, .int 0), (4, .int 0), (1, .int 0), (4, .int 0), (1, .int 0), (5, .ref Ad1), (6, .ref Ad2), (7, .ref Ad3), (1, .int 0), (5, .ref Ad1), (6, .ref Ad2), (7, .ref Ad3)]) (w' := [11, 10, 9, 8, 4]) rfl rfl
  refine lv_iconst (v := 0) hx hb dX7_readAll_27 (by decide) ?_
  refine lv_istore_n (lv' := [(1, .int 0), (0, .ref Ad4)]) hx hb dX7_readAll_28 rfl hl (by decide) rfl (fun ls hl => ?_)
  have HL1 : ∀ (n j121 : Nat) (x122 : Int32), x122 = nI j121 → 0 ≤ j121 → j121 ≤ 13 → 14 ≤ j121 + n → ∀ (H : Heap) (locs : List Loc) (ls : Array Slot), va_P (dC, dI) vwCl [(Ad4, .inr (10, s104)), (Ad0, .inr (12, s105)), (Ad1, .inl (Ka0, 4001, .inl f106)), (Ad2, .inl (Ka1, 4001, .inl f107)), (Ad3, .inl (Ka2, 4001, .inr (.inl f108)))] H → va_D A [(Ad4, .inr (10, s104)), (Ad0, .inr (12, s105)), (Ad1, .inl (Ka0, 4001, .inl f106)), (Ad2, .inl (Ka1, 4001, .inl f107)), (Ad3, .inl (Ka2, 4001, .inr (.inl f108)))] → va_S A s.heap H locs → lv_has ls 2 [(1, .int x122), (0, .ref Ad4)] → W p l e (headSpec w_z_X7_readAll ({ frames := 2, cells := 0, slots := 0, locals := 41 })).room s m ([.ref Ad4]).toArray below meth c H locs 0 0 (MQ below (va_Qi (fun (r : Int32) (u : List Value × (Nat → Int32) × (Nat → Int32) × (Nat → Int64) × List Value) => (r = 1 ∧ ow Fs0 (u.1) 12 [11, 10, 9, 8, 4] [(11, .long 0), (10, .int 0), (9, .int 0), (8, .int 0), (5, .ref Ad1), (6, .ref Ad2), (7, .ref Ad3), (8, .int 0), (4, .int 0), (1, .int 0), (4, .int 0), (1, .int 0), (5, .ref Ad1), (6, .ref Ad2), (7, .ref Ad3), (1, .int 0), (5, .ref Ad1), (6, .ref Ad2), (7, .ref Ad3)] ∧ ow Fs1 (u.2.2.2.2) 21 [20, 19, 16, 3] [(20, .int (-1)), (19, .int 0), (16, .int 0), (3, .int 0), (0, .ref Ad0)] ∧ (u.2.1) (0 : Int32).toNatClampNeg = 0 ∧ (u.2.2.1) (0 : Int32).toNatClampNeg = 0 ∧ (u.2.2.2.1) (0 : Int32).toNatClampNeg = 0)) (fun (u : List Value × (Nat → Int32) × (Nat → Int32) × (Nat → Int64) × List Value) t => Wd dC dI [(Ka0, .int), (Ka1, .int), (Ka2, .long)] A [(Ad0, .inr (12, (u.1))), (Ad1, .inl (Ka0, 4001, .inl ((u.2.1)))), (Ad2, .inl (Ka1, 4001, .inl ((u.2.2.1)))), (Ad3, .inl (Ka2, 4001, .inr (.inl ((u.2.2.2.1))))), (Ad4, .inr (10, (u.2.2.2.2)))] t) A) ([.ref Ad4]).toArray s 0 0 A) (F0 m 29 ls []) := by
    intro n
    induction n with
    | zero =>
      intro j121 x122 e123 h125 h126 h127
      exact absurd h127 (by omega)
    | succ n ih =>
      intro j121 x122 e123 h125 h126 h127 H locs ls hP hD hS hl
      have t124 : x122.toInt = (j121 : Int) := by rw [e123]; exact nI_toInt (by omega)
      refine lv_iload_n hx hb dX7_readAll_29 rfl (lv_at hl 0 rfl) ?_
      refine lv_bipush (v := 12) hx hb dX7_readAll_30 (by decide) ?_
      refine lv_icmp_gt (tgt := 70) hx hb dX7_readAll_32 (by decide) (fun c128 => ?_) (fun c128 => ?_)
      · skip
        refine lv_iconst (v := 1) hx hb dX7_readAll_70 (by decide) ?_
        have hP9 := hP.sub (ws' := [(Ad0, .inr (12, s105)), (Ad1, .inl (Ka0, 4001, .inl f106)), (Ad2, .inl (Ka1, 4001, .inl f107)), (Ad3, .inl (Ka2, 4001, .inr (.inl f108))), (Ad4, .inr (10, s104))]) [1, 2, 3, 4, 0] rfl
        have hD9 := hD.sub (ws' := [(Ad0, .inr (12, s105)), (Ad1, .inl (Ka0, 4001, .inl f106)), (Ad2, .inl (Ka1, 4001, .inl f107)), (Ad3, .inl (Ka2, 4001, .inr (.inl f108))), (Ad4, .inr (10, s104))]) [1, 2, 3, 4, 0] (by decide) rfl
        have hK9 := hK.sub (tys' := [(Ka0, .int), (Ka1, .int), (Ka2, .long)]) [0, 1, 2] rfl
        exact W.zret (v := 1) hx hb hr rfl (fun t ht hW => ⟨⟨1, (s105, f106, f107, f108, s104), rfl, ⟨rfl, o_s105, o_s104, q109, q110, q111⟩, by rw [ht]; exact hP9, va_K.moved hW.alike hK9, hD9⟩, hS.F ht⟩) hS.2.2 dX7_readAll_71
      · skip
        refine lv_aload_n hx hb dX7_readAll_35 rfl (lv_at hl 1 rfl) ?_
        refine va_get (D := (dC, dI)) (ci := 10) (v := .ref Ad0) (C := RX7) (T := TX7) (N := 21) hx hb hts (in_z_X7_readAll_X7) hown hK hP 0 rfl rfl 0 (by decide) (hts (.fieldLink RX7 9 "HeapWorks$RuleText" "tape" "LHeapWorks$Tape;") (by decide +kernel)) (fun _ h9 => h9) (ow_at o_s104 4 rfl) dX7_readAll_36 ?_
        refine va_get (D := (dC, dI)) (ci := 12) (v := .int 0) (C := RX9) (T := TX9) (N := 12) hx hb hts (in_z_X7_readAll_X9) hown hK hP 1 rfl rfl 9 (by decide) (hts (.fieldLink RX7 86 "HeapWorks$Tape" "word" "I") (by decide +kernel)) (fun _ h9 => h9) (ow_at o_s105 2 rfl) dX7_readAll_39 ?_
        refine lv_if_eq (tgt := 70) hx hb dX7_readAll_42 (by decide) (fun c129 => ?_) (fun c129 => absurd c129 (by decide))
        refine lv_iconst (v := 1) hx hb dX7_readAll_70 (by decide) ?_
        have hP9 := hP.sub (ws' := [(Ad0, .inr (12, s105)), (Ad1, .inl (Ka0, 4001, .inl f106)), (Ad2, .inl (Ka1, 4001, .inl f107)), (Ad3, .inl (Ka2, 4001, .inr (.inl f108))), (Ad4, .inr (10, s104))]) [1, 2, 3, 4, 0] rfl
        have hD9 := hD.sub (ws' := [(Ad0, .inr (12, s105)), (Ad1, .inl (Ka0, 4001, .inl f106)), (Ad2, .inl (Ka1, 4001, .inl f107)), (Ad3, .inl (Ka2, 4001, .inr (.inl f108))), (Ad4, .inr (10, s104))]) [1, 2, 3, 4, 0] (by decide) rfl
        have hK9 := hK.sub (tys' := [(Ka0, .int), (Ka1, .int), (Ka2, .long)]) [0, 1, 2] rfl
        exact W.zret (v := 1) hx hb hr rfl (fun t ht hW => ⟨⟨1, (s105, f106, f107, f108, s104), rfl, ⟨rfl, o_s105, o_s104, q109, q110, q111⟩, by rw [ht]; exact hP9, va_K.moved hW.alike hK9, hD9⟩, hS.F ht⟩) hS.2.2 dX7_readAll_71
  exact HL1 14 0 (0)  (by decide) (by omega) (by omega) (by omega)  _ _ _ hP hD hS  hl

def l_z_X11_tellFault_1 : List Cond := [.fieldLink RX11 469 "HeapWorks" "faultCode" "I", .fieldLink RX11 98 "HeapWorks" "faultPlace" "I"]
def w_z_X11_tellFault_1 : List Cond := .code yX11_tellFault cX11_tellFault 3 none :: (l_z_X11_tellFault_1 ++ (wsX110))
theorem in_z_X11_tellFault_1_X11 : ∀ w ∈ wsX110, w ∈ w_z_X11_tellFault_1 := fun w h => List.mem_cons_of_mem _ (List.mem_append_right _ (h))
set_option maxHeartbeats 4000000 in
set_option maxRecDepth 100000 in
theorem z_X11_tellFault_1 (l : Launch) (dC : Nat → ClassId) (dI : Nat → Nat → Nat) (sz : Nat) (Ad0 : Nat) (Fs0 : List Value) (k_Fs0 : fh Fs0 18 [])  : Met l yX11_tellFault w_z_X11_tellFault_1 ({ frames := 0, cells := 0, slots := 0, locals := 0 }) (va_Pc [.ref Ad0, .int 0, .int (-1)] (fun U => U.heap.size = sz ∧ Wd dC dI [] (fun _ => True) [(Ad0, .inr (14, Fs0))] U)) (va_Qv (fun (u : List Value) => ow Fs0 (u) 18 [17, 16] [(17, .int (-1)), (16, .int 0)]) (fun (u : List Value) t => Wd dC dI [] (va_A [(Ad0, .inr (14, Fs0))] sz) [(Ad0, .inr (14, (u)))] t) (va_A [(Ad0, .inr (14, Fs0))] sz))  0 0 (va_A [(Ad0, .inr (14, Fs0))] sz) := by
  refine Met.ofW (cc := cX11_tellFault) (maxL := 3) (ret := none) (by decide) rfl ?_
  intro p e s m args below meth c s₁ B hml hv
  obtain ⟨rfl, hsz, hP, hK, hD0⟩ := hv
  have hx := B.exec
  have hb := B.bytes
  have hr := B.returns
  have hts := atoms_spec (ws := w_z_X11_tellFault_1) B.pre
  have hown : s.vm.findClass RX11 = some m.cls := findClass_of_methodNamed B.named
  have hlocks := B.notSynchronized
  subst hsz
  have hD := hD0.self (sz := s.heap.size)
  generalize hAe : va_A [(Ad0, .inr (14, Fs0))] s.heap.size = A at hD ⊢
  have hA : ∀ q : Nat, s.heap.size ≤ q → A q := fun q h => by rw [← hAe]; exact Or.inr h
  have hS : va_S A s.heap s.heap [] := va_S.rf
  have hl := lv_entry ([.ref Ad0, .int 0, .int (-1)]) (n := 3) (Nat.le_of_ble_eq_true rfl)
  rw [lg_entry_eq]
  generalize (lg_sl ([.ref Ad0, .int 0, .int (-1)]) ++ List.replicate (3 - (lg_sl ([.ref Ad0, .int 0, .int (-1)])).length) Slot.unset).toArray = ls at hl ⊢
  have hl : lv_has ls 3 [(0, .ref Ad0), (1, .int 0), (2, .int (-1))] := hl
  have o_Fs0 := ow_0 k_Fs0
  refine lv_aload_n hx hb dX11_tellFault_0 rfl (lv_at hl 0 rfl) ?_
  refine lv_iload_n hx hb dX11_tellFault_1 rfl (lv_at hl 1 rfl) ?_
  refine va_put (D := (dC, dI)) (ci := 14) (v := .int 0) (ty := .int) (C := RX11) (T := TX11) (N := 18) hx hb hts (in_z_X11_tellFault_1_X11) tyX11 tyX11_ok nmX11 hown hK hP hD hS 0 rfl rfl 16 (by decide) (hts (.fieldLink RX11 469 "HeapWorks" "faultCode" "I") (by decide +kernel)) (fun _ h9 => h9) rfl (by decide +kernel) rfl rfl (by rw [o_Fs0.2.1]; decide) dX11_tellFault_2 (fun H locs hP hD hS => ?_)
  have hP : va_P (dC, dI) vwCl [(Ad0, .inr (14, (Fs0.set 16 (.int 0))))] H := hP
  have hD : va_D A [(Ad0, .inr (14, (Fs0.set 16 (.int 0))))] := hD
  have o_s101 := ow_set o_Fs0 16 (.int 0) (by decide) (l' := [(16, .int 0)]) (w' := [16]) rfl rfl
  generalize (Fs0.set 16 (.int 0)) = s101 at hP hD o_s101
  refine lv_aload_n hx hb dX11_tellFault_5 rfl (lv_at hl 0 rfl) ?_
  refine lv_iload_n hx hb dX11_tellFault_6 rfl (lv_at hl 1 rfl) ?_
  refine lv_if_ne (tgt := 14) hx hb dX11_tellFault_7 (by decide) (fun c102 => absurd c102 (by decide)) (fun c102 => ?_)
  refine lv_iconst (v := (-1)) hx hb dX11_tellFault_10 (by decide) ?_
  refine lv_goto (tgt := 15) hx hb dX11_tellFault_11 (by decide) ?_
  refine va_put (D := (dC, dI)) (ci := 14) (v := .int (-1)) (ty := .int) (C := RX11) (T := TX11) (N := 18) hx hb hts (in_z_X11_tellFault_1_X11) tyX11 tyX11_ok nmX11 hown hK hP hD hS 0 rfl rfl 17 (by decide) (hts (.fieldLink RX11 98 "HeapWorks" "faultPlace" "I") (by decide +kernel)) (fun _ h9 => h9) rfl (by decide +kernel) rfl rfl (by rw [o_s101.2.1]; decide) dX11_tellFault_15 (fun H locs hP hD hS => ?_)
  have hP : va_P (dC, dI) vwCl [(Ad0, .inr (14, (s101.set 17 (.int (-1)))))] H := hP
  have hD : va_D A [(Ad0, .inr (14, (s101.set 17 (.int (-1)))))] := hD
  have o_s103 := ow_set o_s101 17 (.int (-1)) (by decide) (l' := [(17, .int (-1)), (16, .int 0)]) (w' := [17, 16]) rfl rfl
  generalize (s101.set 17 (.int (-1))) = s103 at hP hD o_s103
  have hP9 := hP.sub (ws' := [(Ad0, .inr (14, s103))]) [0] rfl
  have hD9 := hD.sub (ws' := [(Ad0, .inr (14, s103))]) [0] (by decide) rfl
  have hK9 := hK.sub (tys' := []) [] rfl
  exact W.vret hx hb hr (fun t ht hW => ⟨⟨s103, rfl, o_s103, by rw [ht]; exact hP9, va_K.moved hW.alike hK9, hD9⟩, hS.F ht⟩) hS.2.2 dX11_tellFault_18

def l_z_X1_addGiven : List Cond := [.fieldLink RX1 50 "HeapWorks$FactBook" "things" "I"]
def w_z_X1_addGiven : List Cond := .code yX1_addGiven cX1_addGiven 4 none :: (l_z_X1_addGiven ++ (wsX10))
theorem in_z_X1_addGiven_X1 : ∀ w ∈ wsX10, w ∈ w_z_X1_addGiven := fun w h => List.mem_cons_of_mem _ (List.mem_append_right _ (h))
set_option maxHeartbeats 4000000 in
set_option maxRecDepth 100000 in
theorem z_X1_addGiven (l : Launch) (dC : Nat → ClassId) (dI : Nat → Nat → Nat) (sz : Nat) (Ad0 : Nat) (Fs0 : List Value) (Br0 : Nat) (k_Fs0 : fh Fs0 10 [(1, .int 0)])  : Met l yX1_addGiven w_z_X1_addGiven ({ frames := 0, cells := 0, slots := 0, locals := 0 }) (va_Pc [.ref Ad0, .ref Br0] (fun U => U.heap.size = sz ∧ Wd dC dI [] (fun _ => True) [(Ad0, .inr (4, Fs0))] U)) (va_Qv (fun (u : Unit) => True) (fun (u : Unit) t => Wd dC dI [] (va_A [(Ad0, .inr (4, Fs0))] sz) [(Ad0, .inr (4, Fs0))] t) (va_A [(Ad0, .inr (4, Fs0))] sz))  0 0 (va_A [(Ad0, .inr (4, Fs0))] sz) := by
  refine Met.ofW (cc := cX1_addGiven) (maxL := 4) (ret := none) (by decide) rfl ?_
  intro p e s m args below meth c s₁ B hml hv
  obtain ⟨rfl, hsz, hP, hK, hD0⟩ := hv
  have hx := B.exec
  have hb := B.bytes
  have hr := B.returns
  have hts := atoms_spec (ws := w_z_X1_addGiven) B.pre
  have hown : s.vm.findClass RX1 = some m.cls := findClass_of_methodNamed B.named
  have hlocks := B.notSynchronized
  subst hsz
  have hD := hD0.self (sz := s.heap.size)
  generalize hAe : va_A [(Ad0, .inr (4, Fs0))] s.heap.size = A at hD ⊢
  have hA : ∀ q : Nat, s.heap.size ≤ q → A q := fun q h => by rw [← hAe]; exact Or.inr h
  have hS : va_S A s.heap s.heap [] := va_S.rf
  have hl := lv_entry ([.ref Ad0, .ref Br0]) (n := 4) (Nat.le_of_ble_eq_true rfl)
  rw [lg_entry_eq]
  generalize (lg_sl ([.ref Ad0, .ref Br0]) ++ List.replicate (4 - (lg_sl ([.ref Ad0, .ref Br0])).length) Slot.unset).toArray = ls at hl ⊢
  have hl : lv_has ls 4 [(0, .ref Ad0), (1, .ref Br0)] := hl
  have o_Fs0 := ow_0 k_Fs0
  refine lv_iconst (v := 0) hx hb dX1_addGiven_0 (by decide) ?_
  refine lv_istore_n (lv' := [(2, .int 0), (0, .ref Ad0), (1, .ref Br0)]) hx hb dX1_addGiven_1 rfl hl (by decide) rfl (fun ls hl => ?_)
  refine lv_iload_n hx hb dX1_addGiven_2 rfl (lv_at hl 0 rfl) ?_
  refine lv_aload_n hx hb dX1_addGiven_3 rfl (lv_at hl 1 rfl) ?_
  refine va_get (D := (dC, dI)) (ci := 4) (v := .int 0) (C := RX1) (T := TX1) (N := 10) hx hb hts (in_z_X1_addGiven_X1) hown hK hP 0 rfl rfl 1 (by decide) (hts (.fieldLink RX1 50 "HeapWorks$FactBook" "things" "I") (by decide +kernel)) (fun _ h9 => h9) (ow_at o_Fs0 0 rfl) dX1_addGiven_4 ?_
  refine lv_icmp_ge (tgt := 111) hx hb dX1_addGiven_7 (by decide) (fun c101 => ?_) (fun c101 => absurd c101 (by decide))
  have hP9 := hP.sub (ws' := [(Ad0, .inr (4, Fs0))]) [0] rfl
  have hD9 := hD.sub (ws' := [(Ad0, .inr (4, Fs0))]) [0] (by decide) rfl
  have hK9 := hK.sub (tys' := []) [] rfl
  exact W.vret hx hb hr (fun t ht hW => ⟨⟨(), rfl, trivial, by rw [ht]; exact hP9, va_K.moved hW.alike hK9, hD9⟩, hS.F ht⟩) hS.2.2 dX1_addGiven_111

def l_z_X1_findClasses : List Cond := [.fieldLink RX1 34 "HeapWorks$FactBook" "text" "LHeapWorks$RuleText;", .fieldLink RX1 73 "HeapWorks$RuleText" "rules" "I"]
def w_z_X1_findClasses : List Cond := .code yX1_findClasses cX1_findClasses 6 none :: (l_z_X1_findClasses ++ ((wsX10 ++ wsX70)))
theorem in_z_X1_findClasses_X1 : ∀ w ∈ wsX10, w ∈ w_z_X1_findClasses := fun w h => List.mem_cons_of_mem _ (List.mem_append_right _ (List.mem_append_left _ h))
theorem in_z_X1_findClasses_X7 : ∀ w ∈ wsX70, w ∈ w_z_X1_findClasses := fun w h => List.mem_cons_of_mem _ (List.mem_append_right _ (List.mem_append_right _ (h)))
set_option maxHeartbeats 4000000 in
set_option maxRecDepth 100000 in
theorem z_X1_findClasses (l : Launch) (dC : Nat → ClassId) (dI : Nat → Nat → Nat) (sz : Nat) (Ad0 : Nat) (Fs0 : List Value) (Ad1 : Nat) (Fs1 : List Value) (Br0 : Nat) (k_Fs0 : fh Fs0 21 [(3, .int 0)]) (k_Fs1 : fh Fs1 10 [(8, .ref Ad0)])  : Met l yX1_findClasses w_z_X1_findClasses ({ frames := 0, cells := 0, slots := 0, locals := 0 }) (va_Pc [.ref Ad1, .ref Br0] (fun U => U.heap.size = sz ∧ Wd dC dI [] (fun _ => True) [(Ad0, .inr (10, Fs0)), (Ad1, .inr (4, Fs1))] U)) (va_Qv (fun (u : Unit) => True) (fun (u : Unit) t => Wd dC dI [] (va_A [(Ad0, .inr (10, Fs0)), (Ad1, .inr (4, Fs1))] sz) [(Ad0, .inr (10, Fs0)), (Ad1, .inr (4, Fs1))] t) (va_A [(Ad0, .inr (10, Fs0)), (Ad1, .inr (4, Fs1))] sz))  0 0 (va_A [(Ad0, .inr (10, Fs0)), (Ad1, .inr (4, Fs1))] sz) := by
  refine Met.ofW (cc := cX1_findClasses) (maxL := 6) (ret := none) (by decide) rfl ?_
  intro p e s m args below meth c s₁ B hml hv
  obtain ⟨rfl, hsz, hP, hK, hD0⟩ := hv
  have hx := B.exec
  have hb := B.bytes
  have hr := B.returns
  have hts := atoms_spec (ws := w_z_X1_findClasses) B.pre
  have hown : s.vm.findClass RX1 = some m.cls := findClass_of_methodNamed B.named
  have hlocks := B.notSynchronized
  subst hsz
  have hD := hD0.self (sz := s.heap.size)
  generalize hAe : va_A [(Ad0, .inr (10, Fs0)), (Ad1, .inr (4, Fs1))] s.heap.size = A at hD ⊢
  have hA : ∀ q : Nat, s.heap.size ≤ q → A q := fun q h => by rw [← hAe]; exact Or.inr h
  have hS : va_S A s.heap s.heap [] := va_S.rf
  have hl := lv_entry ([.ref Ad1, .ref Br0]) (n := 6) (Nat.le_of_ble_eq_true rfl)
  rw [lg_entry_eq]
  generalize (lg_sl ([.ref Ad1, .ref Br0]) ++ List.replicate (6 - (lg_sl ([.ref Ad1, .ref Br0])).length) Slot.unset).toArray = ls at hl ⊢
  have hl : lv_has ls 6 [(0, .ref Ad1), (1, .ref Br0)] := hl
  have o_Fs0 := ow_0 k_Fs0
  have o_Fs1 := ow_0 k_Fs1
  refine lv_iconst (v := 0) hx hb dX1_findClasses_0 (by decide) ?_
  refine lv_istore_n (lv' := [(2, .int 0), (0, .ref Ad1), (1, .ref Br0)]) hx hb dX1_findClasses_1 rfl hl (by decide) rfl (fun ls hl => ?_)
  refine lv_iload_n hx hb dX1_findClasses_2 rfl (lv_at hl 0 rfl) ?_
  refine lv_aload_n hx hb dX1_findClasses_3 rfl (lv_at hl 1 rfl) ?_
  refine va_get (D := (dC, dI)) (ci := 4) (v := .ref Ad0) (C := RX1) (T := TX1) (N := 10) hx hb hts (in_z_X1_findClasses_X1) hown hK hP 1 rfl rfl 8 (by decide) (hts (.fieldLink RX1 34 "HeapWorks$FactBook" "text" "LHeapWorks$RuleText;") (by decide +kernel)) (fun _ h9 => h9) (ow_at o_Fs1 0 rfl) dX1_findClasses_4 ?_
  refine va_get (D := (dC, dI)) (ci := 10) (v := .int 0) (C := RX7) (T := TX7) (N := 21) hx hb hts (in_z_X1_findClasses_X7) hown hK hP 0 rfl rfl 3 (by decide) (hts (.fieldLink RX1 73 "HeapWorks$RuleText" "rules" "I") (by decide +kernel)) (fun _ h9 => h9) (ow_at o_Fs0 0 rfl) dX1_findClasses_7 ?_
  refine lv_icmp_ge (tgt := 129) hx hb dX1_findClasses_10 (by decide) (fun c101 => ?_) (fun c101 => absurd c101 (by decide))
  have hP9 := hP.sub (ws' := [(Ad0, .inr (10, Fs0)), (Ad1, .inr (4, Fs1))]) [0, 1] rfl
  have hD9 := hD.sub (ws' := [(Ad0, .inr (10, Fs0)), (Ad1, .inr (4, Fs1))]) [0, 1] (by decide) rfl
  have hK9 := hK.sub (tys' := []) [] rfl
  exact W.vret hx hb hr (fun t ht hW => ⟨⟨(), rfl, trivial, by rw [ht]; exact hP9, va_K.moved hW.alike hK9, hD9⟩, hS.F ht⟩) hS.2.2 dX1_findClasses_129

def l_z_X1_workOut : List Cond := [.fieldLink RX1 34 "HeapWorks$FactBook" "text" "LHeapWorks$RuleText;", .fieldLink RX1 38 "HeapWorks$Picture" "things" "I", .methodLink RX1 44 Lib.Math.min.name, .static Lib.Math.min.name, .initialized "java/lang/Math", .code Lib.Math.min.name Lib.Math.min.code 2 (some .int), .fieldLink RX1 50 "HeapWorks$FactBook" "things" "I", .fieldLink RX1 51 "HeapWorks$FactBook" "full" "J", .fieldLink RX1 15 "HeapWorks$FactBook" "row" "[J", .methodLink RX1 55 yJ7_fill_d0a16, .static yJ7_fill_d0a16, .initialized RJ7, .fieldLink RX1 19 "HeapWorks$FactBook" "column" "[J", .fieldLink RX1 22 "HeapWorks$FactBook" "diagonal" "[J", .methodLink RX1 61 yX1_addGiven, .instanceMethod yX1_addGiven, .selects RX1 yX1_addGiven yX1_addGiven, .initialized RX1, .methodLink RX1 65 yX1_findClasses, .instanceMethod yX1_findClasses, .selects RX1 yX1_findClasses yX1_findClasses, .fieldLink RX1 68 "HeapWorks$FactBook" "changed" "Z", .constant RX1 72 (1000000), .fieldLink RX1 73 "HeapWorks$RuleText" "rules" "I", .code yJ7_fill_d0a16 cJ7_fill_d0a16 5 none, .code yX1_addGiven cX1_addGiven 4 none, .code yX1_findClasses cX1_findClasses 6 none]
def w_z_X1_workOut : List Cond := .code yX1_workOut cX1_workOut 5 none :: (l_z_X1_workOut ++ ((wsX10 ++ (wsX50 ++ wsX70))))
theorem in_z_X1_workOut_X1 : ∀ w ∈ wsX10, w ∈ w_z_X1_workOut := fun w h => List.mem_cons_of_mem _ (List.mem_append_right _ (List.mem_append_left _ h))
theorem in_z_X1_workOut_X5 : ∀ w ∈ wsX50, w ∈ w_z_X1_workOut := fun w h => List.mem_cons_of_mem _ (List.mem_append_right _ (List.mem_append_right _ (List.mem_append_left _ h)))
theorem in_z_X1_workOut_X7 : ∀ w ∈ wsX70, w ∈ w_z_X1_workOut := fun w h => List.mem_cons_of_mem _ (List.mem_append_right _ (List.mem_append_right _ (List.mem_append_right _ (h))))
theorem g_z_X1_workOut_z_J7_fill_d0a16_55 : GoodIn w_z_X1_workOut (va_wsS RX1 55 yJ7_fill_d0a16 w_z_J7_fill_d0a16) := goodIn_app (goodIn_r (([.methodLink RX1 55 yJ7_fill_d0a16, .static yJ7_fill_d0a16, .initialized RJ7] : List Cond)) [10, 11, 12] rfl (by decide +kernel)) (goodIn_r (.code yJ7_fill_d0a16 cJ7_fill_d0a16 5 none :: l_z_J7_fill_d0a16) [25] rfl (by decide +kernel))
theorem g_z_X1_workOut_z_J7_fill_d0a16_1_55 : GoodIn w_z_X1_workOut (va_wsS RX1 55 yJ7_fill_d0a16 w_z_J7_fill_d0a16_1) := goodIn_app (goodIn_r (([.methodLink RX1 55 yJ7_fill_d0a16, .static yJ7_fill_d0a16, .initialized RJ7] : List Cond)) [10, 11, 12] rfl (by decide +kernel)) (goodIn_r (.code yJ7_fill_d0a16 cJ7_fill_d0a16 5 none :: l_z_J7_fill_d0a16_1) [25] rfl (by decide +kernel))
theorem g_z_X1_workOut_z_X1_addGiven_61 : GoodIn w_z_X1_workOut (wsV RX1 61 RX1 yX1_addGiven w_z_X1_addGiven) := goodIn_app (goodIn_r (([.methodLink RX1 61 yX1_addGiven, .instanceMethod yX1_addGiven, .selects RX1 yX1_addGiven yX1_addGiven, .initialized RX1] : List Cond)) [15, 16, 17, 18] rfl (by decide +kernel)) (goodIn_ca (goodIn_r (.code yX1_addGiven cX1_addGiven 4 none :: l_z_X1_addGiven) [26, 7] rfl (by decide +kernel)) (goodIn_in (in_z_X1_workOut_X1) gd_X1))
theorem g_z_X1_workOut_z_X1_findClasses_65 : GoodIn w_z_X1_workOut (wsV RX1 65 RX1 yX1_findClasses w_z_X1_findClasses) := goodIn_app (goodIn_r (([.methodLink RX1 65 yX1_findClasses, .instanceMethod yX1_findClasses, .selects RX1 yX1_findClasses yX1_findClasses, .initialized RX1] : List Cond)) [19, 20, 21, 18] rfl (by decide +kernel)) (goodIn_ca (goodIn_r (.code yX1_findClasses cX1_findClasses 6 none :: l_z_X1_findClasses) [27, 1, 24] rfl (by decide +kernel)) (goodIn_app (goodIn_in (in_z_X1_workOut_X1) gd_X1) (goodIn_in (in_z_X1_workOut_X7) gd_X7)))
set_option maxHeartbeats 4000000 in
set_option maxRecDepth 100000 in
theorem z_X1_workOut (l : Launch) (dC : Nat → ClassId) (dI : Nat → Nat → Nat) (sz : Nat) (Ad0 : Nat) (Fs0 : List Value) (Ad1 : Nat) (Fs1 : List Value) (Ad2 : Nat) (Fa0 : Nat → Int64) (Ka0 : ClassId) (Ad3 : Nat) (Fa1 : Nat → Int64) (Ka1 : ClassId) (Ad4 : Nat) (Fa2 : Nat → Int64) (Ka2 : ClassId) (Ad5 : Nat) (Fs2 : List Value) (k_Fs0 : fh Fs0 21 [(0, .int 0)]) (k_Fs1 : fh Fs1 10 [(3, .ref Ad2), (4, .ref Ad3), (5, .ref Ad4)]) (k_Fs2 : fh Fs2 21 [(3, .int 0)])  : Met l yX1_workOut w_z_X1_workOut ({ frames := 1, cells := 0, slots := 0, locals := 40 }) (va_Pc [.ref Ad1, .ref Ad5, .ref Ad0] (fun U => U.heap.size = sz ∧ Wd dC dI [(Ka0, .long), (Ka1, .long), (Ka2, .long)] (fun _ => True) [(Ad0, .inr (8, Fs0)), (Ad1, .inr (4, Fs1)), (Ad2, .inl (Ka0, 360, .inr (.inl Fa0))), (Ad3, .inl (Ka1, 360, .inr (.inl Fa1))), (Ad4, .inl (Ka2, 9, .inr (.inl Fa2))), (Ad5, .inr (10, Fs2))] U)) (va_Qv (fun (u : List Value × (Nat → Int64) × (Nat → Int64) × (Nat → Int64)) => ow Fs1 (u.1) 10 [9, 2, 1, 8] [(9, .int 0), (2, .long 0), (1, .int 0), (8, .ref Ad5), (3, .ref Ad2), (4, .ref Ad3), (5, .ref Ad4)]) (fun (u : List Value × (Nat → Int64) × (Nat → Int64) × (Nat → Int64)) t => Wd dC dI [(Ka0, .long), (Ka1, .long), (Ka2, .long)] (va_A [(Ad0, .inr (8, Fs0)), (Ad1, .inr (4, Fs1)), (Ad2, .inl (Ka0, 360, .inr (.inl Fa0))), (Ad3, .inl (Ka1, 360, .inr (.inl Fa1))), (Ad4, .inl (Ka2, 9, .inr (.inl Fa2))), (Ad5, .inr (10, Fs2))] sz) [(Ad0, .inr (8, Fs0)), (Ad1, .inr (4, (u.1))), (Ad2, .inl (Ka0, 360, .inr (.inl ((u.2.1))))), (Ad3, .inl (Ka1, 360, .inr (.inl ((u.2.2.1))))), (Ad4, .inl (Ka2, 9, .inr (.inl ((u.2.2.2))))), (Ad5, .inr (10, Fs2))] t) (va_A [(Ad0, .inr (8, Fs0)), (Ad1, .inr (4, Fs1)), (Ad2, .inl (Ka0, 360, .inr (.inl Fa0))), (Ad3, .inl (Ka1, 360, .inr (.inl Fa1))), (Ad4, .inl (Ka2, 9, .inr (.inl Fa2))), (Ad5, .inr (10, Fs2))] sz))  0 0 (va_A [(Ad0, .inr (8, Fs0)), (Ad1, .inr (4, Fs1)), (Ad2, .inl (Ka0, 360, .inr (.inl Fa0))), (Ad3, .inl (Ka1, 360, .inr (.inl Fa1))), (Ad4, .inl (Ka2, 9, .inr (.inl Fa2))), (Ad5, .inr (10, Fs2))] sz) := by
  refine Met.ofW (cc := cX1_workOut) (maxL := 5) (ret := none) (by decide) rfl ?_
  intro p e s m args below meth c s₁ B hml hv
  obtain ⟨rfl, hsz, hP, hK, hD0⟩ := hv
  have hx := B.exec
  have hb := B.bytes
  have hr := B.returns
  have hts := atoms_spec (ws := w_z_X1_workOut) B.pre
  have hown : s.vm.findClass RX1 = some m.cls := findClass_of_methodNamed B.named
  have hlocks := B.notSynchronized
  subst hsz
  have hD := hD0.self (sz := s.heap.size)
  generalize hAe : va_A [(Ad0, .inr (8, Fs0)), (Ad1, .inr (4, Fs1)), (Ad2, .inl (Ka0, 360, .inr (.inl Fa0))), (Ad3, .inl (Ka1, 360, .inr (.inl Fa1))), (Ad4, .inl (Ka2, 9, .inr (.inl Fa2))), (Ad5, .inr (10, Fs2))] s.heap.size = A at hD ⊢
  have hA : ∀ q : Nat, s.heap.size ≤ q → A q := fun q h => by rw [← hAe]; exact Or.inr h
  have hS : va_S A s.heap s.heap [] := va_S.rf
  have hl := lv_entry ([.ref Ad1, .ref Ad5, .ref Ad0]) (n := 5) (Nat.le_of_ble_eq_true rfl)
  rw [lg_entry_eq]
  generalize (lg_sl ([.ref Ad1, .ref Ad5, .ref Ad0]) ++ List.replicate (5 - (lg_sl ([.ref Ad1, .ref Ad5, .ref Ad0])).length) Slot.unset).toArray = ls at hl ⊢
  have hl : lv_has ls 5 [(0, .ref Ad1), (1, .ref Ad5), (2, .ref Ad0)] := hl
  have o_Fs0 := ow_0 k_Fs0
  have o_Fs1 := ow_0 k_Fs1
  have o_Fs2 := ow_0 k_Fs2
  refine lv_aload_n hx hb dX1_workOut_0 rfl (lv_at hl 0 rfl) ?_
  refine lv_aload_n hx hb dX1_workOut_1 rfl (lv_at hl 1 rfl) ?_
  refine va_put (D := (dC, dI)) (ci := 4) (v := .ref Ad5) (ty := .object "HeapWorks$RuleText") (C := RX1) (T := TX1) (N := 10) hx hb hts (in_z_X1_workOut_X1) tyX1 tyX1_ok nmX1 hown hK hP hD hS 1 rfl rfl 8 (by decide) (hts (.fieldLink RX1 34 "HeapWorks$FactBook" "text" "LHeapWorks$RuleText;") (by decide +kernel)) (fun _ h9 => h9) rfl (by decide +kernel) rfl rfl (by rw [o_Fs1.2.1]; decide) dX1_workOut_2 (fun H locs hP hD hS => ?_)
  have hP : va_P (dC, dI) vwCl [(Ad0, .inr (8, Fs0)), (Ad1, .inr (4, (Fs1.set 8 (.ref Ad5)))), (Ad2, .inl (Ka0, 360, .inr (.inl Fa0))), (Ad3, .inl (Ka1, 360, .inr (.inl Fa1))), (Ad4, .inl (Ka2, 9, .inr (.inl Fa2))), (Ad5, .inr (10, Fs2))] H := hP
  have hD : va_D A [(Ad0, .inr (8, Fs0)), (Ad1, .inr (4, (Fs1.set 8 (.ref Ad5)))), (Ad2, .inl (Ka0, 360, .inr (.inl Fa0))), (Ad3, .inl (Ka1, 360, .inr (.inl Fa1))), (Ad4, .inl (Ka2, 9, .inr (.inl Fa2))), (Ad5, .inr (10, Fs2))] := hD
  have o_s101 := ow_set o_Fs1 8 (.ref Ad5) (by decide) (l' := [(8, .ref Ad5), (3, .ref Ad2), (4, .ref Ad3), (5, .ref Ad4)]) (w' := [8]) rfl rfl
  generalize (Fs1.set 8 (.ref Ad5)) = s101 at hP hD o_s101
  refine lv_aload_n hx hb dX1_workOut_5 rfl (lv_at hl 0 rfl) ?_
  refine lv_aload_n hx hb dX1_workOut_6 rfl (lv_at hl 2 rfl) ?_
  refine va_get (D := (dC, dI)) (ci := 8) (v := .int 0) (C := RX5) (T := TX5) (N := 21) hx hb hts (in_z_X1_workOut_X5) hown hK hP 0 rfl rfl 0 (by decide) (hts (.fieldLink RX1 38 "HeapWorks$Picture" "things" "I") (by decide +kernel)) (fun _ h9 => h9) (ow_at o_Fs0 0 rfl) dX1_workOut_7 ?_
  refine lv_bipush (v := 40) hx hb dX1_workOut_10 (by decide) ?_
  refine va_mmin hx hb (hml.trans hl.1.symm) hown (hts (.methodLink RX1 44 Lib.Math.min.name) (by decide +kernel)) (hts (.static Lib.Math.min.name) (by decide +kernel)) (hts (.initialized "java/lang/Math") (by decide +kernel)) (hts (.code Lib.Math.min.name Lib.Math.min.code 2 (some .int)) (by decide +kernel)) (Nat.le_of_ble_eq_true rfl) (Nat.le_of_ble_eq_true rfl) (Nat.le_of_ble_eq_true rfl) (Nat.le_of_ble_eq_true rfl) dX1_workOut_12 ?_
  refine lv_topi (fun x102 ex102 => ?_)
  have tx102 : x102.toInt = min (0 : Int32).toInt (40 : Int32).toInt := by rw [ex102]; exact i_min _ _
  obtain rfl : x102 = 0 := (i_eq _ _).mpr (by have bd_x102 := i_bd x102; (try simp only [i_lt, i_le, i_eq, kc_0, kc_40] at tx102 ⊢); omega)
  refine va_put (D := (dC, dI)) (ci := 4) (v := .int 0) (ty := .int) (C := RX1) (T := TX1) (N := 10) hx hb hts (in_z_X1_workOut_X1) tyX1 tyX1_ok nmX1 hown hK hP hD hS 1 rfl rfl 1 (by decide) (hts (.fieldLink RX1 50 "HeapWorks$FactBook" "things" "I") (by decide +kernel)) (fun _ h9 => h9) rfl (by decide +kernel) rfl rfl (by rw [o_s101.2.1]; decide) dX1_workOut_15 (fun H locs hP hD hS => ?_)
  have hP : va_P (dC, dI) vwCl [(Ad0, .inr (8, Fs0)), (Ad1, .inr (4, (s101.set 1 (.int 0)))), (Ad2, .inl (Ka0, 360, .inr (.inl Fa0))), (Ad3, .inl (Ka1, 360, .inr (.inl Fa1))), (Ad4, .inl (Ka2, 9, .inr (.inl Fa2))), (Ad5, .inr (10, Fs2))] H := hP
  have hD : va_D A [(Ad0, .inr (8, Fs0)), (Ad1, .inr (4, (s101.set 1 (.int 0)))), (Ad2, .inl (Ka0, 360, .inr (.inl Fa0))), (Ad3, .inl (Ka1, 360, .inr (.inl Fa1))), (Ad4, .inl (Ka2, 9, .inr (.inl Fa2))), (Ad5, .inr (10, Fs2))] := hD
  have o_s103 := ow_set o_s101 1 (.int 0) (by decide) (l' := [(1, .int 0), (8, .ref Ad5), (3, .ref Ad2), (4, .ref Ad3), (5, .ref Ad4)]) (w' := [1, 8]) rfl rfl
  generalize (s101.set 1 (.int 0)) = s103 at hP hD o_s103
  refine lv_aload_n hx hb dX1_workOut_18 rfl (lv_at hl 0 rfl) ?_
  refine lv_lconst (v := 1) hx hb dX1_workOut_19 (by decide) ?_
  refine lv_aload_n hx hb dX1_workOut_20 rfl (lv_at hl 0 rfl) ?_
  refine va_get (D := (dC, dI)) (ci := 4) (v := .int 0) (C := RX1) (T := TX1) (N := 10) hx hb hts (in_z_X1_workOut_X1) hown hK hP 1 rfl rfl 1 (by decide) (hts (.fieldLink RX1 50 "HeapWorks$FactBook" "things" "I") (by decide +kernel)) (fun _ h9 => h9) (ow_at o_s103 0 rfl) dX1_workOut_21 ?_
  refine lv_lshl hx hb dX1_workOut_24 rfl ?_
  refine lv_topl (fun x104 ex104 => ?_)
  obtain rfl : x104 = 1 := ex104.trans (by decide)
  refine lv_lconst (v := 1) hx hb dX1_workOut_25 (by decide) ?_
  refine lv_lsub hx hb dX1_workOut_26  ?_
  refine lv_topl (fun x105 ex105 => ?_)
  obtain rfl : x105 = 0 := ex105.trans (by decide)
  refine va_put (D := (dC, dI)) (ci := 4) (v := .long 0) (ty := .long) (C := RX1) (T := TX1) (N := 10) hx hb hts (in_z_X1_workOut_X1) tyX1 tyX1_ok nmX1 hown hK hP hD hS 1 rfl rfl 2 (by decide) (hts (.fieldLink RX1 51 "HeapWorks$FactBook" "full" "J") (by decide +kernel)) (fun _ h9 => h9) rfl (by decide +kernel) rfl rfl (by rw [o_s103.2.1]; decide) dX1_workOut_27 (fun H locs hP hD hS => ?_)
  have hP : va_P (dC, dI) vwCl [(Ad0, .inr (8, Fs0)), (Ad1, .inr (4, (s103.set 2 (.long 0)))), (Ad2, .inl (Ka0, 360, .inr (.inl Fa0))), (Ad3, .inl (Ka1, 360, .inr (.inl Fa1))), (Ad4, .inl (Ka2, 9, .inr (.inl Fa2))), (Ad5, .inr (10, Fs2))] H := hP
  have hD : va_D A [(Ad0, .inr (8, Fs0)), (Ad1, .inr (4, (s103.set 2 (.long 0)))), (Ad2, .inl (Ka0, 360, .inr (.inl Fa0))), (Ad3, .inl (Ka1, 360, .inr (.inl Fa1))), (Ad4, .inl (Ka2, 9, .inr (.inl Fa2))), (Ad5, .inr (10, Fs2))] := hD
  have o_s106 := ow_set o_s103 2 (.long 0) (by decide) (l' := [(2, .long 0), (1, .int 0), (8, .ref Ad5), (3, .ref Ad2), (4, .ref Ad3), (5, .ref Ad4)]) (w' := [2, 1, 8]) rfl rfl
  generalize (s103.set 2 (.long 0)) = s106 at hP hD o_s106
  refine lv_aload_n hx hb dX1_workOut_30 rfl (lv_at hl 0 rfl) ?_
  refine va_get (D := (dC, dI)) (ci := 4) (v := .ref Ad2) (C := RX1) (T := TX1) (N := 10) hx hb hts (in_z_X1_workOut_X1) hown hK hP 1 rfl rfl 3 (by decide) (hts (.fieldLink RX1 15 "HeapWorks$FactBook" "row" "[J") (by decide +kernel)) (fun _ h9 => h9) (ow_at o_s106 3 rfl) dX1_workOut_31 ?_
  refine lv_lconst (v := 0) hx hb dX1_workOut_34 (by decide) ?_
  have hPc := hP.sub (ws' := [(Ad2, .inl (Ka0, 360, .inr (.inl Fa0)))]) [2] rfl
  have hDc := hD.sub (ws' := [(Ad2, .inl (Ka0, 360, .inr (.inl Fa0)))]) [2] (by decide) rfl
  have hKc := hK.sub (tys' := [(Ka0, .long)]) [0] rfl
  have hFc := va_free (wc := [(Ad2, .inl (Ka0, 360, .inr (.inl Fa0)))]) hD hS hA [2] rfl
  refine va_callv (va_runS (As := [.ref Ad2, .long 0]) (rest := []) ⟨hx, hb, hml, hown, hts⟩ (z_J7_fill_d0a16 l dC dI H.size Ad2 Fa0 Ka0  ) (va_cwS 2 hts g_z_X1_workOut_z_J7_fill_d0a16_55 rfl rfl rfl (by decide +kernel) ⟨Nat.le_of_ble_eq_true rfl, Nat.le_of_ble_eq_true rfl⟩) ⟨fun a U g mk q => by obtain ⟨q0, q1, qP, qK, qD⟩ := q; exact ⟨q0, q1, qP, va_K.moved (u := U) (U := U.calling g mk a) (Vm.Alike.refl U.vm) qK, qD⟩, fun U hU hW => ⟨rfl, by rw [hU], by rw [hU]; exact hPc, va_K.moved hW.alike hKc, hDc.weaken (fun _ _ _ _ => trivial)⟩⟩ rfl rfl hl.1 rfl (lv_room (Nat.le_of_ble_eq_true rfl)) dX1_workOut_35 ⟨Nat.le_of_ble_eq_true rfl, Nat.le_of_ble_eq_true rfl⟩) hS (fun q _ h => hFc q h) hFc (fun u t H1 locs ht hvm hw hB hz1 hk1 hS => ?_)
  obtain ⟨f107, rfl⟩ : ∃ z, z = u := ⟨_, rfl⟩
  obtain ⟨hP1, hK1, hD1⟩ := hB
  rw [ht] at hP1
  try dsimp only at hw
  obtain ⟨hP, hD⟩ := va_join (wr := [(Ad0, .inr (8, Fs0)), (Ad1, .inr (4, s106)), (Ad3, .inl (Ka1, 360, .inr (.inl Fa1))), (Ad4, .inl (Ka2, 9, .inr (.inl Fa2))), (Ad5, .inr (10, Fs2))]) (w1 := [(Ad2, .inl (Ka0, 360, .inr (.inl f107)))]) hP hD [2] [0, 1, 3, 4, 5] rfl rfl (by decide) (by decide) hk1 hFc hP1 hD1
  have hK := hK.sub (tys' := [(Ka1, .long), (Ka2, .long), (Ka0, .long)]) [1, 2, 0] rfl
  generalize H1 = H at hP hS ⊢
  have hP : va_P (dC, dI) vwCl [(Ad0, .inr (8, Fs0)), (Ad1, .inr (4, s106)), (Ad3, .inl (Ka1, 360, .inr (.inl Fa1))), (Ad4, .inl (Ka2, 9, .inr (.inl Fa2))), (Ad5, .inr (10, Fs2)), (Ad2, .inl (Ka0, 360, .inr (.inl f107)))] H := hP
  have hD : va_D A [(Ad0, .inr (8, Fs0)), (Ad1, .inr (4, s106)), (Ad3, .inl (Ka1, 360, .inr (.inl Fa1))), (Ad4, .inl (Ka2, 9, .inr (.inl Fa2))), (Ad5, .inr (10, Fs2)), (Ad2, .inl (Ka0, 360, .inr (.inl f107)))] := hD
  refine lv_aload_n hx hb dX1_workOut_38 rfl (lv_at hl 0 rfl) ?_
  refine va_get (D := (dC, dI)) (ci := 4) (v := .ref Ad3) (C := RX1) (T := TX1) (N := 10) hx hb hts (in_z_X1_workOut_X1) hown hK hP 1 rfl rfl 4 (by decide) (hts (.fieldLink RX1 19 "HeapWorks$FactBook" "column" "[J") (by decide +kernel)) (fun _ h9 => h9) (ow_at o_s106 4 rfl) dX1_workOut_39 ?_
  refine lv_lconst (v := 0) hx hb dX1_workOut_42 (by decide) ?_
  have hPc := hP.sub (ws' := [(Ad3, .inl (Ka1, 360, .inr (.inl Fa1)))]) [2] rfl
  have hDc := hD.sub (ws' := [(Ad3, .inl (Ka1, 360, .inr (.inl Fa1)))]) [2] (by decide) rfl
  have hKc := hK.sub (tys' := [(Ka1, .long)]) [0] rfl
  have hFc := va_free (wc := [(Ad3, .inl (Ka1, 360, .inr (.inl Fa1)))]) hD hS hA [2] rfl
  refine va_callv (va_runS (As := [.ref Ad3, .long 0]) (rest := []) ⟨hx, hb, hml, hown, hts⟩ (z_J7_fill_d0a16 l dC dI H.size Ad3 Fa1 Ka1  ) (va_cwS 2 hts g_z_X1_workOut_z_J7_fill_d0a16_55 rfl rfl rfl (by decide +kernel) ⟨Nat.le_of_ble_eq_true rfl, Nat.le_of_ble_eq_true rfl⟩) ⟨fun a U g mk q => by obtain ⟨q0, q1, qP, qK, qD⟩ := q; exact ⟨q0, q1, qP, va_K.moved (u := U) (U := U.calling g mk a) (Vm.Alike.refl U.vm) qK, qD⟩, fun U hU hW => ⟨rfl, by rw [hU], by rw [hU]; exact hPc, va_K.moved hW.alike hKc, hDc.weaken (fun _ _ _ _ => trivial)⟩⟩ rfl rfl hl.1 rfl (lv_room (Nat.le_of_ble_eq_true rfl)) dX1_workOut_43 ⟨Nat.le_of_ble_eq_true rfl, Nat.le_of_ble_eq_true rfl⟩) hS (fun q _ h => hFc q h) hFc (fun u t H1 locs ht hvm hw hB hz1 hk1 hS => ?_)
  obtain ⟨f108, rfl⟩ : ∃ z, z = u := ⟨_, rfl⟩
  obtain ⟨hP1, hK1, hD1⟩ := hB
  rw [ht] at hP1
  try dsimp only at hw
  obtain ⟨hP, hD⟩ := va_join (wr := [(Ad0, .inr (8, Fs0)), (Ad1, .inr (4, s106)), (Ad4, .inl (Ka2, 9, .inr (.inl Fa2))), (Ad5, .inr (10, Fs2)), (Ad2, .inl (Ka0, 360, .inr (.inl f107)))]) (w1 := [(Ad3, .inl (Ka1, 360, .inr (.inl f108)))]) hP hD [2] [0, 1, 3, 4, 5] rfl rfl (by decide) (by decide) hk1 hFc hP1 hD1
  have hK := hK.sub (tys' := [(Ka2, .long), (Ka0, .long), (Ka1, .long)]) [1, 2, 0] rfl
  generalize H1 = H at hP hS ⊢
  have hP : va_P (dC, dI) vwCl [(Ad0, .inr (8, Fs0)), (Ad1, .inr (4, s106)), (Ad4, .inl (Ka2, 9, .inr (.inl Fa2))), (Ad5, .inr (10, Fs2)), (Ad2, .inl (Ka0, 360, .inr (.inl f107))), (Ad3, .inl (Ka1, 360, .inr (.inl f108)))] H := hP
  have hD : va_D A [(Ad0, .inr (8, Fs0)), (Ad1, .inr (4, s106)), (Ad4, .inl (Ka2, 9, .inr (.inl Fa2))), (Ad5, .inr (10, Fs2)), (Ad2, .inl (Ka0, 360, .inr (.inl f107))), (Ad3, .inl (Ka1, 360, .inr (.inl f108)))] := hD
  refine lv_aload_n hx hb dX1_workOut_46 rfl (lv_at hl 0 rfl) ?_
  refine va_get (D := (dC, dI)) (ci := 4) (v := .ref Ad4) (C := RX1) (T := TX1) (N := 10) hx hb hts (in_z_X1_workOut_X1) hown hK hP 1 rfl rfl 5 (by decide) (hts (.fieldLink RX1 22 "HeapWorks$FactBook" "diagonal" "[J") (by decide +kernel)) (fun _ h9 => h9) (ow_at o_s106 5 rfl) dX1_workOut_47 ?_
  refine lv_lconst (v := 0) hx hb dX1_workOut_50 (by decide) ?_
  have hPc := hP.sub (ws' := [(Ad4, .inl (Ka2, 9, .inr (.inl Fa2)))]) [2] rfl
  have hDc := hD.sub (ws' := [(Ad4, .inl (Ka2, 9, .inr (.inl Fa2)))]) [2] (by decide) rfl
  have hKc := hK.sub (tys' := [(Ka2, .long)]) [0] rfl
  have hFc := va_free (wc := [(Ad4, .inl (Ka2, 9, .inr (.inl Fa2)))]) hD hS hA [2] rfl
  refine va_callv (va_runS (As := [.ref Ad4, .long 0]) (rest := []) ⟨hx, hb, hml, hown, hts⟩ (z_J7_fill_d0a16_1 l dC dI H.size Ad4 Fa2 Ka2  ) (va_cwS 2 hts g_z_X1_workOut_z_J7_fill_d0a16_1_55 rfl rfl rfl (by decide +kernel) ⟨Nat.le_of_ble_eq_true rfl, Nat.le_of_ble_eq_true rfl⟩) ⟨fun a U g mk q => by obtain ⟨q0, q1, qP, qK, qD⟩ := q; exact ⟨q0, q1, qP, va_K.moved (u := U) (U := U.calling g mk a) (Vm.Alike.refl U.vm) qK, qD⟩, fun U hU hW => ⟨rfl, by rw [hU], by rw [hU]; exact hPc, va_K.moved hW.alike hKc, hDc.weaken (fun _ _ _ _ => trivial)⟩⟩ rfl rfl hl.1 rfl (lv_room (Nat.le_of_ble_eq_true rfl)) dX1_workOut_51 ⟨Nat.le_of_ble_eq_true rfl, Nat.le_of_ble_eq_true rfl⟩) hS (fun q _ h => hFc q h) hFc (fun u t H1 locs ht hvm hw hB hz1 hk1 hS => ?_)
  obtain ⟨f109, rfl⟩ : ∃ z, z = u := ⟨_, rfl⟩
  obtain ⟨hP1, hK1, hD1⟩ := hB
  rw [ht] at hP1
  try dsimp only at hw
  obtain ⟨hP, hD⟩ := va_join (wr := [(Ad0, .inr (8, Fs0)), (Ad1, .inr (4, s106)), (Ad5, .inr (10, Fs2)), (Ad2, .inl (Ka0, 360, .inr (.inl f107))), (Ad3, .inl (Ka1, 360, .inr (.inl f108)))]) (w1 := [(Ad4, .inl (Ka2, 9, .inr (.inl f109)))]) hP hD [2] [0, 1, 3, 4, 5] rfl rfl (by decide) (by decide) hk1 hFc hP1 hD1
  have hK := hK.sub (tys' := [(Ka0, .long), (Ka1, .long), (Ka2, .long)]) [1, 2, 0] rfl
  generalize H1 = H at hP hS ⊢
  have hP : va_P (dC, dI) vwCl [(Ad0, .inr (8, Fs0)), (Ad1, .inr (4, s106)), (Ad5, .inr (10, Fs2)), (Ad2, .inl (Ka0, 360, .inr (.inl f107))), (Ad3, .inl (Ka1, 360, .inr (.inl f108))), (Ad4, .inl (Ka2, 9, .inr (.inl f109)))] H := hP
  have hD : va_D A [(Ad0, .inr (8, Fs0)), (Ad1, .inr (4, s106)), (Ad5, .inr (10, Fs2)), (Ad2, .inl (Ka0, 360, .inr (.inl f107))), (Ad3, .inl (Ka1, 360, .inr (.inl f108))), (Ad4, .inl (Ka2, 9, .inr (.inl f109)))] := hD
  refine lv_aload_n hx hb dX1_workOut_54 rfl (lv_at hl 0 rfl) ?_
  refine lv_aload_n hx hb dX1_workOut_55 rfl (lv_at hl 2 rfl) ?_
  have hPc := hP.sub (ws' := [(Ad1, .inr (4, s106))]) [1] rfl
  have hDc := hD.sub (ws' := [(Ad1, .inr (4, s106))]) [1] (by decide) rfl
  have hKc := hK.sub (tys' := []) [] rfl
  have hFc := va_free (wc := [(Ad1, .inr (4, s106))]) hD hS hA [1] rfl
  refine va_callv (va_runV (As := [.ref Ad0]) (rest := []) ⟨hx, hb, hml, hown, hts⟩ (z_X1_addGiven l dC dI H.size Ad1 s106 Ad0 (fh_sub o_s106.2 [1] rfl) ) (cwV 1 hts g_z_X1_workOut_z_X1_addGiven_61 rfl rfl rfl (by decide +kernel) ⟨Nat.le_of_ble_eq_true rfl, Nat.le_of_ble_eq_true rfl⟩) ⟨fun a U g mk q => by obtain ⟨q0, q1, qP, qK, qD⟩ := q; exact ⟨q0, q1, qP, va_K.moved (u := U) (U := U.calling g mk a) (Vm.Alike.refl U.vm) qK, qD⟩, va_recv hK hP (ci := 4) (q0 := 1) rfl rfl, fun U hU hW => ⟨rfl, by rw [hU], by rw [hU]; exact hPc, va_K.moved hW.alike hKc, hDc.weaken (fun _ _ _ _ => trivial)⟩⟩ rfl rfl hl.1 rfl (lv_room (Nat.le_of_ble_eq_true rfl)) dX1_workOut_56 ⟨Nat.le_of_ble_eq_true rfl, Nat.le_of_ble_eq_true rfl⟩) hS (fun q _ h => hFc q h) hFc (fun u t H1 locs ht hvm hw hB hz1 hk1 hS => ?_)
  obtain ⟨hP1, hK1, hD1⟩ := hB
  rw [ht] at hP1
  try dsimp only at hw
  obtain ⟨hP, hD⟩ := va_join (wr := [(Ad0, .inr (8, Fs0)), (Ad5, .inr (10, Fs2)), (Ad2, .inl (Ka0, 360, .inr (.inl f107))), (Ad3, .inl (Ka1, 360, .inr (.inl f108))), (Ad4, .inl (Ka2, 9, .inr (.inl f109)))]) (w1 := [(Ad1, .inr (4, s106))]) hP hD [1] [0, 2, 3, 4, 5] rfl rfl (by decide) (by decide) hk1 hFc hP1 hD1
  have hK := hK.sub (tys' := [(Ka0, .long), (Ka1, .long), (Ka2, .long)]) [0, 1, 2] rfl
  generalize H1 = H at hP hS ⊢
  have hP : va_P (dC, dI) vwCl [(Ad0, .inr (8, Fs0)), (Ad5, .inr (10, Fs2)), (Ad2, .inl (Ka0, 360, .inr (.inl f107))), (Ad3, .inl (Ka1, 360, .inr (.inl f108))), (Ad4, .inl (Ka2, 9, .inr (.inl f109))), (Ad1, .inr (4, s106))] H := hP
  have hD : va_D A [(Ad0, .inr (8, Fs0)), (Ad5, .inr (10, Fs2)), (Ad2, .inl (Ka0, 360, .inr (.inl f107))), (Ad3, .inl (Ka1, 360, .inr (.inl f108))), (Ad4, .inl (Ka2, 9, .inr (.inl f109))), (Ad1, .inr (4, s106))] := hD
  refine lv_aload_n hx hb dX1_workOut_59 rfl (lv_at hl 0 rfl) ?_
  refine lv_aload_n hx hb dX1_workOut_60 rfl (lv_at hl 2 rfl) ?_
  have hPc := hP.sub (ws' := [(Ad5, .inr (10, Fs2)), (Ad1, .inr (4, s106))]) [1, 5] rfl
  have hDc := hD.sub (ws' := [(Ad5, .inr (10, Fs2)), (Ad1, .inr (4, s106))]) [1, 5] (by decide) rfl
  have hKc := hK.sub (tys' := []) [] rfl
  have hFc := va_free (wc := [(Ad5, .inr (10, Fs2)), (Ad1, .inr (4, s106))]) hD hS hA [1, 5] rfl
  refine va_callv (va_runV (As := [.ref Ad0]) (rest := []) ⟨hx, hb, hml, hown, hts⟩ (z_X1_findClasses l dC dI H.size Ad5 Fs2 Ad1 s106 Ad0 (fh_sub o_Fs2.2 [0] rfl) (fh_sub o_s106.2 [2] rfl) ) (cwV 1 hts g_z_X1_workOut_z_X1_findClasses_65 rfl rfl rfl (by decide +kernel) ⟨Nat.le_of_ble_eq_true rfl, Nat.le_of_ble_eq_true rfl⟩) ⟨fun a U g mk q => by obtain ⟨q0, q1, qP, qK, qD⟩ := q; exact ⟨q0, q1, qP, va_K.moved (u := U) (U := U.calling g mk a) (Vm.Alike.refl U.vm) qK, qD⟩, va_recv hK hP (ci := 4) (q0 := 5) rfl rfl, fun U hU hW => ⟨rfl, by rw [hU], by rw [hU]; exact hPc, va_K.moved hW.alike hKc, hDc.weaken (fun _ _ _ _ => trivial)⟩⟩ rfl rfl hl.1 rfl (lv_room (Nat.le_of_ble_eq_true rfl)) dX1_workOut_61 ⟨Nat.le_of_ble_eq_true rfl, Nat.le_of_ble_eq_true rfl⟩) hS (fun q _ h => hFc q h) hFc (fun u t H1 locs ht hvm hw hB hz1 hk1 hS => ?_)
  obtain ⟨hP1, hK1, hD1⟩ := hB
  rw [ht] at hP1
  try dsimp only at hw
  obtain ⟨hP, hD⟩ := va_join (wr := [(Ad0, .inr (8, Fs0)), (Ad2, .inl (Ka0, 360, .inr (.inl f107))), (Ad3, .inl (Ka1, 360, .inr (.inl f108))), (Ad4, .inl (Ka2, 9, .inr (.inl f109)))]) (w1 := [(Ad5, .inr (10, Fs2)), (Ad1, .inr (4, s106))]) hP hD [1, 5] [0, 2, 3, 4] rfl rfl (by decide) (by decide) hk1 hFc hP1 hD1
  have hK := hK.sub (tys' := [(Ka0, .long), (Ka1, .long), (Ka2, .long)]) [0, 1, 2] rfl
  generalize H1 = H at hP hS ⊢
  have hP : va_P (dC, dI) vwCl [(Ad0, .inr (8, Fs0)), (Ad2, .inl (Ka0, 360, .inr (.inl f107))), (Ad3, .inl (Ka1, 360, .inr (.inl f108))), (Ad4, .inl (Ka2, 9, .inr (.inl f109))), (Ad5, .inr (10, Fs2)), (Ad1, .inr (4, s106))] H := hP
  have hD : va_D A [(Ad0, .inr (8, Fs0)), (Ad2, .inl (Ka0, 360, .inr (.inl f107))), (Ad3, .inl (Ka1, 360, .inr (.inl f108))), (Ad4, .inl (Ka2, 9, .inr (.inl f109))), (Ad5, .inr (10, Fs2)), (Ad1, .inr (4, s106))] := hD
  refine lv_aload_n hx hb dX1_workOut_64 rfl (lv_at hl 0 rfl) ?_
  refine lv_iconst (v := 1) hx hb dX1_workOut_65 (by decide) ?_
  refine va_put (D := (dC, dI)) (ci := 4) (v := .int 1) (ty := .boolean) (C := RX1) (T := TX1) (N := 10) hx hb hts (in_z_X1_workOut_X1) tyX1 tyX1_ok nmX1 hown hK hP hD hS 5 rfl rfl 9 (by decide) (hts (.fieldLink RX1 68 "HeapWorks$FactBook" "changed" "Z") (by decide +kernel)) (fun _ h9 => h9) rfl (by decide +kernel) rfl rfl (by rw [o_s106.2.1]; decide) dX1_workOut_66 (fun H locs hP hD hS => ?_)
  have hP : va_P (dC, dI) vwCl [(Ad0, .inr (8, Fs0)), (Ad2, .inl (Ka0, 360, .inr (.inl f107))), (Ad3, .inl (Ka1, 360, .inr (.inl f108))), (Ad4, .inl (Ka2, 9, .inr (.inl f109))), (Ad5, .inr (10, Fs2)), (Ad1, .inr (4, (s106.set 9 (.int 1))))] H := hP
  have hD : va_D A [(Ad0, .inr (8, Fs0)), (Ad2, .inl (Ka0, 360, .inr (.inl f107))), (Ad3, .inl (Ka1, 360, .inr (.inl f108))), (Ad4, .inl (Ka2, 9, .inr (.inl f109))), (Ad5, .inr (10, Fs2)), (Ad1, .inr (4, (s106.set 9 (.int 1))))] := hD
  have o_s110 := ow_set o_s106 9 (.int 1) (by decide) (l' := [(9, .int 1), (2, .long 0), (1, .int 0), (8, .ref Ad5), (3, .ref Ad2), (4, .ref Ad3), (5, .ref Ad4)]) (w' := [9, 2, 1, 8]) rfl rfl
  generalize (s106.set 9 (.int 1)) = s110 at hP hD o_s110
  refine lv_iconst (v := 0) hx hb dX1_workOut_69 (by decide) ?_
  refine lv_istore_n (lv' := [(3, .int 0), (0, .ref Ad1), (1, .ref Ad5), (2, .ref Ad0)]) hx hb dX1_workOut_70 rfl hl (by decide) rfl (fun ls hl => ?_)
  refine lv_iload_n hx hb dX1_workOut_71 rfl (lv_at hl 0 rfl) ?_
  refine lv_ldc (v := 1000000) hx hb hown (hts (.constant RX1 72 (1000000)) (by decide +kernel)) dX1_workOut_72 ?_
  refine lv_icmp_ge (tgt := 123) hx hb dX1_workOut_74 (by decide) (fun c111 => absurd c111 (by decide)) (fun c111 => ?_)
  refine lv_aload_n hx hb dX1_workOut_77 rfl (lv_at hl 1 rfl) ?_
  refine va_get (D := (dC, dI)) (ci := 4) (v := .int 1) (C := RX1) (T := TX1) (N := 10) hx hb hts (in_z_X1_workOut_X1) hown hK hP 5 rfl rfl 9 (by decide) (hts (.fieldLink RX1 68 "HeapWorks$FactBook" "changed" "Z") (by decide +kernel)) (fun _ h9 => h9) (ow_at o_s110 0 rfl) dX1_workOut_78 ?_
  refine lv_if_eq (tgt := 123) hx hb dX1_workOut_81 (by decide) (fun c112 => absurd c112 (by decide)) (fun c112 => ?_)
  refine lv_aload_n hx hb dX1_workOut_84 rfl (lv_at hl 1 rfl) ?_
  refine lv_iconst (v := 0) hx hb dX1_workOut_85 (by decide) ?_
  refine va_put (D := (dC, dI)) (ci := 4) (v := .int 0) (ty := .boolean) (C := RX1) (T := TX1) (N := 10) hx hb hts (in_z_X1_workOut_X1) tyX1 tyX1_ok nmX1 hown hK hP hD hS 5 rfl rfl 9 (by decide) (hts (.fieldLink RX1 68 "HeapWorks$FactBook" "changed" "Z") (by decide +kernel)) (fun _ h9 => h9) rfl (by decide +kernel) rfl rfl (by rw [o_s110.2.1]; decide) dX1_workOut_86 (fun H locs hP hD hS => ?_)
  have hP : va_P (dC, dI) vwCl [(Ad0, .inr (8, Fs0)), (Ad2, .inl (Ka0, 360, .inr (.inl f107))), (Ad3, .inl (Ka1, 360, .inr (.inl f108))), (Ad4, .inl (Ka2, 9, .inr (.inl f109))), (Ad5, .inr (10, Fs2)), (Ad1, .inr (4, (s110.set 9 (.int 0))))] H := hP
  have hD : va_D A [(Ad0, .inr (8, Fs0)), (Ad2, .inl (Ka0, 360, .inr (.inl f107))), (Ad3, .inl (Ka1, 360, .inr (.inl f108))), (Ad4, .inl (Ka2, 9, .inr (.inl f109))), (Ad5, .inr (10, Fs2)), (Ad1, .inr (4, (s110.set 9 (.int 0))))] := hD
  have o_s113 := ow_set o_s110 9 (.int 0) (by decide) (l' := [(9, .int 0), (2, .long 0), (1, .int 0), (8, .ref Ad5), (3, .ref Ad2), (4, .ref Ad3), (5, .ref Ad4)]) (w' := [9, 2, 1, 8]) rfl rfl
  generalize (s110.set 9 (.int 0)) = s113 at hP hD o_s113
  refine lv_iconst (v := 0) hx hb dX1_workOut_89 (by decide) ?_
  refine lv_istore (lv' := [(4, .int 0), (3, .int 0), (0, .ref Ad1), (1, .ref Ad5), (2, .ref Ad0)]) hx hb dX1_workOut_90 hl (by decide) rfl (fun ls hl => ?_)
  refine lv_iload hx hb dX1_workOut_92 (lv_at hl 0 rfl) ?_
  refine lv_aload_n hx hb dX1_workOut_94 rfl (lv_at hl 2 rfl) ?_
  refine va_get (D := (dC, dI)) (ci := 4) (v := .ref Ad5) (C := RX1) (T := TX1) (N := 10) hx hb hts (in_z_X1_workOut_X1) hown hK hP 5 rfl rfl 8 (by decide) (hts (.fieldLink RX1 34 "HeapWorks$FactBook" "text" "LHeapWorks$RuleText;") (by decide +kernel)) (fun _ h9 => h9) (ow_at o_s113 3 rfl) dX1_workOut_95 ?_
  refine va_get (D := (dC, dI)) (ci := 10) (v := .int 0) (C := RX7) (T := TX7) (N := 21) hx hb hts (in_z_X1_workOut_X7) hown hK hP 4 rfl rfl 3 (by decide) (hts (.fieldLink RX1 73 "HeapWorks$RuleText" "rules" "I") (by decide +kernel)) (fun _ h9 => h9) (ow_at o_Fs2 0 rfl) dX1_workOut_98 ?_
  refine lv_icmp_ge (tgt := 117) hx hb dX1_workOut_101 (by decide) (fun c114 => ?_) (fun c114 => absurd c114 (by decide))
  refine lv_iinc (v := 1) (lv' := [(3, .int 1), (4, .int 0), (0, .ref Ad1), (1, .ref Ad5), (2, .ref Ad0)]) hx hb dX1_workOut_117 hl (k := 1) rfl (by decide) (by decide) rfl (fun ls hl => ?_)
  refine lv_goto (tgt := 71) hx hb dX1_workOut_120 (by decide) ?_
  refine lv_iload_n hx hb dX1_workOut_71 rfl (lv_at hl 0 rfl) ?_
  refine lv_ldc (v := 1000000) hx hb hown (hts (.constant RX1 72 (1000000)) (by decide +kernel)) dX1_workOut_72 ?_
  refine lv_icmp_ge (tgt := 123) hx hb dX1_workOut_74 (by decide) (fun c115 => absurd c115 (by decide)) (fun c115 => ?_)
  refine lv_aload_n hx hb dX1_workOut_77 rfl (lv_at hl 2 rfl) ?_
  refine va_get (D := (dC, dI)) (ci := 4) (v := .int 0) (C := RX1) (T := TX1) (N := 10) hx hb hts (in_z_X1_workOut_X1) hown hK hP 5 rfl rfl 9 (by decide) (hts (.fieldLink RX1 68 "HeapWorks$FactBook" "changed" "Z") (by decide +kernel)) (fun _ h9 => h9) (ow_at o_s113 0 rfl) dX1_workOut_78 ?_
  refine lv_if_eq (tgt := 123) hx hb dX1_workOut_81 (by decide) (fun c116 => ?_) (fun c116 => absurd c116 (by decide))
  have hP9 := hP.sub (ws' := [(Ad0, .inr (8, Fs0)), (Ad1, .inr (4, s113)), (Ad2, .inl (Ka0, 360, .inr (.inl f107))), (Ad3, .inl (Ka1, 360, .inr (.inl f108))), (Ad4, .inl (Ka2, 9, .inr (.inl f109))), (Ad5, .inr (10, Fs2))]) [0, 5, 1, 2, 3, 4] rfl
  have hD9 := hD.sub (ws' := [(Ad0, .inr (8, Fs0)), (Ad1, .inr (4, s113)), (Ad2, .inl (Ka0, 360, .inr (.inl f107))), (Ad3, .inl (Ka1, 360, .inr (.inl f108))), (Ad4, .inl (Ka2, 9, .inr (.inl f109))), (Ad5, .inr (10, Fs2))]) [0, 5, 1, 2, 3, 4] (by decide) rfl
  have hK9 := hK.sub (tys' := [(Ka0, .long), (Ka1, .long), (Ka2, .long)]) [0, 1, 2] rfl
  exact W.vret hx hb hr (fun t ht hW => ⟨⟨(s113, f107, f108, f109), rfl, o_s113, by rw [ht]; exact hP9, va_K.moved hW.alike hK9, hD9⟩, hS.F ht⟩) hS.2.2 dX1_workOut_123

