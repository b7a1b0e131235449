def l_x_growth1 : List Cond := [.methodLink RX11 353 yX11_needPicture, .static yX11_needPicture, .initialized RX11, .classLink RX11 120 "java/lang/IndexOutOfBoundsException", .initialized "java/lang/IndexOutOfBoundsException", .fieldLink RX11 41 "HeapWorks" "pictures" "[LHeapWorks$Picture;", .fieldLink RX11 95 "HeapWorks" "grownThings" "[I", .methodLink RX11 457 yX5_listChanged, .instanceMethod yX5_listChanged, .selects RX5 yX5_listChanged yX5_listChanged, .initialized RX5, .fieldLink RX11 454 "HeapWorks" "grownCount" "I", .methodLink RX11 450 yX5_listMissing, .instanceMethod yX5_listMissing, .selects RX5 yX5_listMissing yX5_listMissing, .code yX11_needPicture cX11_needPicture 1 none, .methodLink RX11 411 yX11_isPicture, .static yX11_isPicture, .code yX11_isPicture cX11_isPicture 1 (some .boolean), .code yX5_listChanged cX5_listChanged 6 (some .int), .fieldLink RX5 82 "HeapWorks$Picture" "things" "I", .code yX5_listMissing cX5_listMissing 5 (some .int)]
def w_x_growth1 : List Cond := .code yX11_growth cX11_growth 4 (some .int) :: (l_x_growth1 ++ ((((vx_at0 RX11 122 "java/lang/IndexOutOfBoundsException" ["java/lang/RuntimeException", "java/lang/Exception"]).filter goodWord) ++ (wsX110 ++ wsX50))))
theorem in_x_growth1_at0_X11_122 : ∀ w ∈ ((vx_at0 RX11 122 "java/lang/IndexOutOfBoundsException" ["java/lang/RuntimeException", "java/lang/Exception"]).filter goodWord), w ∈ w_x_growth1 := fun w h => List.mem_cons_of_mem _ (List.mem_append_right _ (List.mem_append_left _ h))
theorem in_x_growth1_X11 : ∀ w ∈ wsX110, w ∈ w_x_growth1 := fun w h => List.mem_cons_of_mem _ (List.mem_append_right _ (List.mem_append_right _ (List.mem_append_left _ h)))
theorem in_x_growth1_X5 : ∀ w ∈ wsX50, w ∈ w_x_growth1 := fun w h => List.mem_cons_of_mem _ (List.mem_append_right _ (List.mem_append_right _ (List.mem_append_right _ (h))))
theorem g_x_growth1_z_X11_needPicture_353 : GoodIn w_x_growth1 (wsS RX11 353 yX11_needPicture w_z_X11_needPicture) := goodIn_app (goodIn_sub (by decide +kernel) (by decide +kernel)) (goodIn_ca (goodIn_sub (by decide +kernel) (by decide +kernel)) (goodIn_in in_x_growth1_at0_X11_122 gd_at0_X11_122))
theorem g_x_growth1_z_X5_listChanged_1_457 : GoodIn w_x_growth1 (wsV RX11 457 RX5 yX5_listChanged w_z_X5_listChanged_1) := goodIn_app (goodIn_sub (by decide +kernel) (by decide +kernel)) (goodIn_ca (goodIn_sub (by decide +kernel) (by decide +kernel)) (goodIn_in in_x_growth1_X5 gd_X5))
theorem g_x_growth1_z_X5_listMissing_1_450 : GoodIn w_x_growth1 (wsV RX11 450 RX5 yX5_listMissing w_z_X5_listMissing_1) := goodIn_app (goodIn_sub (by decide +kernel) (by decide +kernel)) (goodIn_ca (goodIn_sub (by decide +kernel) (by decide +kernel)) (goodIn_in in_x_growth1_X5 gd_X5))
set_option maxHeartbeats 4000000 in
set_option maxRecDepth 100000 in
theorem x_growth1 (l : Launch) (dC : Nat → ClassId) (dI : Nat → Nat → Nat) (sz : Nat) (aX : Nat) (fsX : List Value) (qP : Nat) (gP : Nat → Option Nat) (kP : ClassId) (ap : Nat) (fsp : List Value) (p0 : Int32) (p1 : Int32) (p2 : Int32) (qW : Nat) (k_fsX : fh fsX 18 [(4, .ref qP), (15, .int 0), (14, .ref qW)]) (k_fsp : fh fsp 21 [(0, .int 0)]) (hst : l.stackTraces = false) (hg1 : gP p1.toNatClampNeg = some ap) (hg : gP p0.toNatClampNeg = some ap) : vx_Met l yX11_growth w_x_growth1 ({ frames := 8, cells := 3, slots := 18, locals := 160 }) (va_Pc [.ref aX, .int p0, .int p1, .int p2] (fun U => U.heap.size = sz ∧ Zz (va_A [(aX, .inr (14, fsX)), (qP, .inl (kP, 4, .inr (.inr (.inr (.inr gP))))), (ap, .inr (8, fsp))] sz) U ∧ Wd dC dI [(kP, .object "HeapWorks$Picture")] (fun _ => True) [(aX, .inr (14, fsX)), (qP, .inl (kP, 4, .inr (.inr (.inr (.inr gP))))), (ap, .inr (8, fsp))] U)) (va_Qi (fun (r : Int32) (u : List Value) => (¬ p0 < 0 ∧ ¬ 4 ≤ p0 ∧ ¬ p1 < 0 ∧ ¬ 4 ≤ p1 ∧ ¬ p2 < 0 ∧ p2 ≤ 2 ∧ ¬ p2 = 0 ∧ ¬ p2 = 1 ∧ r = 0 ∧ ow fsX (u) 18 [15] [(15, .int 0), (4, .ref qP), (14, .ref qW)]) ∨ (¬ p0 < 0 ∧ ¬ 4 ≤ p0 ∧ ¬ p1 < 0 ∧ ¬ 4 ≤ p1 ∧ ¬ p2 < 0 ∧ p2 ≤ 2 ∧ ¬ p2 = 0 ∧ p2 = 1 ∧ r = 0 ∧ ow fsX (u) 18 [15] [(15, .int 0), (4, .ref qP), (14, .ref qW)]) ∨ (¬ p0 < 0 ∧ ¬ 4 ≤ p0 ∧ ¬ p1 < 0 ∧ ¬ 4 ≤ p1 ∧ ¬ p2 < 0 ∧ p2 ≤ 2 ∧ p2 = 0 ∧ r = 0 ∧ ow fsX (u) 18 [15] [(15, .int 0), (4, .ref qP), (14, .ref qW)])) (fun (u : List Value) t => Wd dC dI [(kP, .object "HeapWorks$Picture")] (va_A [(aX, .inr (14, fsX)), (qP, .inl (kP, 4, .inr (.inr (.inr (.inr gP))))), (ap, .inr (8, fsp))] sz) [(aX, .inr (14, (u))), (qP, .inl (kP, 4, .inr (.inr (.inr (.inr gP))))), (ap, .inr (8, fsp))] t) (va_A [(aX, .inr (14, fsX)), (qP, .inl (kP, 4, .inr (.inr (.inr (.inr gP))))), (ap, .inr (8, fsp))] sz)) (vx_X (fun _ : Unit => True) (fun E _ _ => (E = "java/lang/IndexOutOfBoundsException" ∧ p0 < 0) ∨ (E = "java/lang/IndexOutOfBoundsException" ∧ ¬ p0 < 0 ∧ 4 ≤ p0) ∨ (E = "java/lang/IndexOutOfBoundsException" ∧ ¬ p0 < 0 ∧ ¬ 4 ≤ p0 ∧ p1 < 0) ∨ (E = "java/lang/IndexOutOfBoundsException" ∧ ¬ p0 < 0 ∧ ¬ 4 ≤ p0 ∧ ¬ p1 < 0 ∧ 4 ≤ p1) ∨ (E = "java/lang/IndexOutOfBoundsException" ∧ ¬ p0 < 0 ∧ ¬ 4 ≤ p0 ∧ ¬ p1 < 0 ∧ ¬ 4 ≤ p1 ∧ p2 < 0) ∨ (E = "java/lang/IndexOutOfBoundsException" ∧ ¬ p0 < 0 ∧ ¬ 4 ≤ p0 ∧ ¬ p1 < 0 ∧ ¬ 4 ≤ p1 ∧ ¬ p2 < 0 ∧ ¬ p2 ≤ 2)) (va_A [(aX, .inr (14, fsX)), (qP, .inl (kP, 4, .inr (.inr (.inr (.inr gP))))), (ap, .inr (8, fsp))] sz)) 3 18 (va_A [(aX, .inr (14, fsX)), (qP, .inl (kP, 4, .inr (.inr (.inr (.inr gP))))), (ap, .inr (8, fsp))] sz) := by
  refine vx_ofW (cc := cX11_growth) (maxL := 4) (ret := (some .int)) (by decide) rfl ?_
  intro p e s m args below meth c s₁ B hml htab hv
  obtain ⟨rfl, hsz, hZ, hP, hK, hD0⟩ := hv
  have hx := B.exec
  have hb := B.bytes
  have hr := B.returns
  have hts := atoms_spec (ws := w_x_growth1) B.pre
  have hown : s.vm.findClass RX11 = some m.cls := findClass_of_methodNamed B.named
  have hlocks := B.notSynchronized
  subst hsz
  have hD := hD0.self (sz := s.heap.size)
  generalize hAe : va_A [(aX, .inr (14, fsX)), (qP, .inl (kP, 4, .inr (.inr (.inr (.inr gP))))), (ap, .inr (8, fsp))] s.heap.size = A at hD hZ ⊢
  have hA : ∀ q : Nat, s.heap.size ≤ q → A q := fun q h => by rw [← hAe]; exact Or.inr h
  have hS : va_S A s.heap s.heap [] := va_S.rf
  have hl := lv_entry ([.ref aX, .int p0, .int p1, .int p2]) (n := 4) (Nat.le_of_ble_eq_true rfl)
  rw [lg_entry_eq]
  generalize (lg_sl ([.ref aX, .int p0, .int p1, .int p2]) ++ List.replicate (4 - (lg_sl ([.ref aX, .int p0, .int p1, .int p2])).length) Slot.unset).toArray = ls at hl ⊢
  have hl : lv_has ls 4 [(0, .ref aX), (1, .int p0), (2, .int p1), (3, .int p2)] := hl
  have o_fsX := ow_0 k_fsX
  have o_fsp := ow_0 k_fsp
  refine lv_iload_n hx hb dX11_growth_0 rfl (lv_at hl 1 rfl) ?_
  have hPc := hP.sub (ws' := []) [] rfl
  have hDc := hD.sub (ws' := []) [] (by decide) rfl
  have hKc := hK.sub (tys' := []) [] rfl
  have hFc := va_free (wc := []) hD hS hA [] rfl
  refine vx_callv (vx_runS (As := [.int p0]) (rest := []) ⟨hx, hb, hml, hown, hts⟩ (z_X11_needPicture l dC dI s.heap.size p0  hst ) (cwS 1 hts g_x_growth1_z_X11_needPicture_353 rfl rfl rfl (by decide +kernel) ⟨Nat.le_of_ble_eq_true rfl, Nat.le_of_ble_eq_true rfl⟩) ⟨fun a U g mk q => by obtain ⟨q0, q1, qZ, qP, qK, qD⟩ := q; exact ⟨q0, q1, Zz_call qZ, qP, va_K.moved (u := U) (U := U.calling g mk a) (Vm.Alike.refl U.vm) qK, qD⟩, fun U hU hW => ⟨rfl, by rw [hU], Zz_go hZ hS hFc hU hW, by rw [hU]; exact hPc, va_K.moved hW.alike hKc, hDc.weaken (fun _ _ _ _ => trivial)⟩⟩ rfl rfl hl.1 rfl (lv_room (Nat.le_of_ble_eq_true rfl)) dX11_growth_1 ⟨Nat.le_of_ble_eq_true rfl, Nat.le_of_ble_eq_true rfl⟩) hS (fun q _ h => hFc q h) hFc (fun q _ h => hFc q h) (fun E ce q9 u t H1 locs ht hvm hpx hBX hz1 hk1 hS hce hcv hcl => ?_) (fun u t H1 locs ht hvm hw hB hz1 hk1 hS => ?_)
  · rcases hBX with ⟨rfl, c5947⟩ | ⟨rfl, c5948, c5949⟩
    · exact vx_out (fun x h => (htab x h).elim) hlocks hce hcv hcl (fun t9 ht9 _ => ⟨(), trivial, (Or.inl ⟨rfl, c5947⟩), hS.F ht9⟩) hS.2.2 (by decide) (by decide)
    · exact vx_out (fun x h => (htab x h).elim) hlocks hce hcv hcl (fun t9 ht9 _ => ⟨(), trivial, (Or.inr (Or.inl ⟨rfl, c5948, c5949⟩)), hS.F ht9⟩) hS.2.2 (by decide) (by decide)
  · skip
    obtain ⟨hP1, hK1, hD1⟩ := hB
    rw [ht] at hP1
    try dsimp only at hw
    obtain ⟨hP, hD⟩ := va_join (wr := [(aX, .inr (14, fsX)), (qP, .inl (kP, 4, .inr (.inr (.inr (.inr gP))))), (ap, .inr (8, fsp))]) (w1 := []) hP hD [] [0, 1, 2] rfl rfl (by decide) (by decide) hk1 hFc hP1 hD1
    have hK := hK.sub (tys' := [(kP, .object "HeapWorks$Picture")]) [0] rfl
    generalize H1 = H at hP hS ⊢
    refine W.widen (k := 1) (n := 6) (by omega) (by omega) ?_
    have hP : va_P (dC, dI) vwCl [(aX, .inr (14, fsX)), (qP, .inl (kP, 4, .inr (.inr (.inr (.inr gP))))), (ap, .inr (8, fsp))] H := hP
    have hD : va_D A [(aX, .inr (14, fsX)), (qP, .inl (kP, 4, .inr (.inr (.inr (.inr gP))))), (ap, .inr (8, fsp))] := hD
    obtain ⟨c5950, c5951⟩ := hw
    refine lv_iload_n hx hb dX11_growth_4 rfl (lv_at hl 2 rfl) ?_
    have hPc := hP.sub (ws' := []) [] rfl
    have hDc := hD.sub (ws' := []) [] (by decide) rfl
    have hKc := hK.sub (tys' := []) [] rfl
    have hFc := va_free (wc := []) hD hS hA [] rfl
    refine vx_callv (vx_runS (As := [.int p1]) (rest := []) ⟨hx, hb, hml, hown, hts⟩ (z_X11_needPicture l dC dI H.size p1  hst ) (cwS 1 hts g_x_growth1_z_X11_needPicture_353 rfl rfl rfl (by decide +kernel) ⟨Nat.le_of_ble_eq_true rfl, Nat.le_of_ble_eq_true rfl⟩) ⟨fun a U g mk q => by obtain ⟨q0, q1, qZ, qP, qK, qD⟩ := q; exact ⟨q0, q1, Zz_call qZ, qP, va_K.moved (u := U) (U := U.calling g mk a) (Vm.Alike.refl U.vm) qK, qD⟩, fun U hU hW => ⟨rfl, by rw [hU], Zz_go hZ hS hFc hU hW, by rw [hU]; exact hPc, va_K.moved hW.alike hKc, hDc.weaken (fun _ _ _ _ => trivial)⟩⟩ rfl rfl hl.1 rfl (lv_room (Nat.le_of_ble_eq_true rfl)) dX11_growth_5 ⟨Nat.le_of_ble_eq_true rfl, Nat.le_of_ble_eq_true rfl⟩) hS (fun q _ h => hFc q h) hFc (fun q _ h => hFc q h) (fun E ce q9 u t H1 locs ht hvm hpx hBX hz1 hk1 hS hce hcv hcl => ?_) (fun u t H1 locs ht hvm hw hB hz1 hk1 hS => ?_)
    · rcases hBX with ⟨rfl, c5966⟩ | ⟨rfl, c5967, c5968⟩
      · exact vx_out (fun x h => (htab x h).elim) hlocks hce hcv hcl (fun t9 ht9 _ => ⟨(), trivial, (Or.inr (Or.inr (Or.inl ⟨rfl, c5950, c5951, c5966⟩))), hS.F ht9⟩) hS.2.2 (by decide) (by decide)
      · exact vx_out (fun x h => (htab x h).elim) hlocks hce hcv hcl (fun t9 ht9 _ => ⟨(), trivial, (Or.inr (Or.inr (Or.inr (Or.inl ⟨rfl, c5950, c5951, c5967, c5968⟩)))), hS.F ht9⟩) hS.2.2 (by decide) (by decide)
    · skip
      obtain ⟨hP1, hK1, hD1⟩ := hB
      rw [ht] at hP1
      try dsimp only at hw
      obtain ⟨hP, hD⟩ := va_join (wr := [(aX, .inr (14, fsX)), (qP, .inl (kP, 4, .inr (.inr (.inr (.inr gP))))), (ap, .inr (8, fsp))]) (w1 := []) hP hD [] [0, 1, 2] rfl rfl (by decide) (by decide) hk1 hFc hP1 hD1
      have hK := hK.sub (tys' := [(kP, .object "HeapWorks$Picture")]) [0] rfl
      generalize H1 = H at hP hS ⊢
      refine W.widen (k := 2) (n := 12) (by omega) (by omega) ?_
      have hP : va_P (dC, dI) vwCl [(aX, .inr (14, fsX)), (qP, .inl (kP, 4, .inr (.inr (.inr (.inr gP))))), (ap, .inr (8, fsp))] H := hP
      have hD : va_D A [(aX, .inr (14, fsX)), (qP, .inl (kP, 4, .inr (.inr (.inr (.inr gP))))), (ap, .inr (8, fsp))] := hD
      obtain ⟨c5969, c5970⟩ := hw
      refine lv_iload_n hx hb dX11_growth_8 rfl (lv_at hl 3 rfl) ?_
      refine lv_if_lt (tgt := 17) hx hb dX11_growth_9 (by decide) (fun c5971 => ?_) (fun c5971 => ?_)
      · skip
        exact vx_throw0 (names := ["java/lang/RuntimeException", "java/lang/Exception"]) hx hb hst hown (by decide +kernel) (by decide +kernel) (hts (.classLink RX11 120 "java/lang/IndexOutOfBoundsException") (by decide +kernel)) (hts (.initialized "java/lang/IndexOutOfBoundsException") (by decide +kernel)) (vx_hat (B := xB "java/lang/IndexOutOfBoundsException") (fun w h => hts w (in_x_growth1_at0_X11_122 w h)) (by decide +kernel) (Zz_xB hZ (by decide))) (by decide +kernel) hZ.1 hZ.2.1 hS (hl.1.trans hml.symm) dX11_growth_17 dX11_growth_20 dX11_growth_21 dX11_growth_24 (fun x h => (htab x h).elim) (by decide) (Nat.le_of_ble_eq_true rfl) (Nat.le_of_ble_eq_true rfl) (Nat.le_of_ble_eq_true rfl) hlocks (fun t _ h1 h2 => ⟨(), trivial, (Or.inr (Or.inr (Or.inr (Or.inr (Or.inl ⟨rfl, c5950, c5951, c5969, c5970, c5971⟩))))), xx_F hS h1 h2⟩) hS.2.2 (by decide) (by decide)
      · skip
        refine lv_iload_n hx hb dX11_growth_12 rfl (lv_at hl 3 rfl) ?_
        refine lv_iconst (v := 2) hx hb dX11_growth_13 (by decide) ?_
        refine lv_icmp_le (tgt := 25) hx hb dX11_growth_14 (by decide) (fun c5972 => ?_) (fun c5972 => ?_)
        · skip
          refine lv_iload_n hx hb dX11_growth_25 rfl (lv_at hl 3 rfl) ?_
          refine lv_if_ne (tgt := 55) hx hb dX11_growth_26 (by decide) (fun c5973 => ?_) (fun c5973 => ?_)
          · skip
            refine lv_iload_n hx hb dX11_growth_55 rfl (lv_at hl 3 rfl) ?_
            refine lv_iconst (v := 1) hx hb dX11_growth_56 (by decide) ?_
            refine lv_icmp_ne (tgt := 86) hx hb dX11_growth_57 (by decide) (fun c5974 => ?_) (fun c5974 => ?_)
            · skip
              refine lv_aload_n hx hb dX11_growth_86 rfl (lv_at hl 0 rfl) ?_
              refine lv_aload_n hx hb dX11_growth_87 rfl (lv_at hl 0 rfl) ?_
              refine va_get (D := (dC, dI)) (ci := 14) (v := .ref qP) (C := RX11) (T := TX11) (N := 18) hx hb hts (in_x_growth1_X11) hown hK hP 0 rfl rfl 4 (by decide) (hts (.fieldLink RX11 41 "HeapWorks" "pictures" "[LHeapWorks$Picture;") (by decide +kernel)) (fun _ h9 => h9) (ow_at o_fsX 0 rfl) dX11_growth_88 ?_
              refine lv_iload_n hx hb dX11_growth_91 rfl (lv_at hl 2 rfl) ?_
              refine va_aldq hx hb hK hP 1 0 rfl rfl (by rw [vp_in_iff]; (try simp only [i_lt, i_le, i_eq, kc_0, kc_4] at c5969 c5970); omega) dX11_growth_92 ?_
              refine W.eq (g2 := F0 m 93 ls (.ref ap :: [.ref aX])) (by rw [hg1]; rfl) ?_
              refine lv_aload_n hx hb dX11_growth_93 rfl (lv_at hl 0 rfl) ?_
              refine va_get (D := (dC, dI)) (ci := 14) (v := .ref qP) (C := RX11) (T := TX11) (N := 18) hx hb hts (in_x_growth1_X11) hown hK hP 0 rfl rfl 4 (by decide) (hts (.fieldLink RX11 41 "HeapWorks" "pictures" "[LHeapWorks$Picture;") (by decide +kernel)) (fun _ h9 => h9) (ow_at o_fsX 0 rfl) dX11_growth_94 ?_
              refine lv_iload_n hx hb dX11_growth_97 rfl (lv_at hl 1 rfl) ?_
              refine va_aldq hx hb hK hP 1 0 rfl rfl (by rw [vp_in_iff]; (try simp only [i_lt, i_le, i_eq, kc_0, kc_4] at c5950 c5951); omega) dX11_growth_98 ?_
              refine W.eq (g2 := F0 m 99 ls (.ref ap :: [.ref ap, .ref aX])) (by rw [hg]; rfl) ?_
              refine lv_aload_n hx hb dX11_growth_99 rfl (lv_at hl 0 rfl) ?_
              refine va_get (D := (dC, dI)) (ci := 14) (v := .ref qW) (C := RX11) (T := TX11) (N := 18) hx hb hts (in_x_growth1_X11) hown hK hP 0 rfl rfl 14 (by decide) (hts (.fieldLink RX11 95 "HeapWorks" "grownThings" "[I") (by decide +kernel)) (fun _ h9 => h9) (ow_at o_fsX 2 rfl) dX11_growth_100 ?_
              have hPc := hP.sub (ws' := [(ap, .inr (8, fsp))]) [2] rfl
              have hDc := hD.sub (ws' := [(ap, .inr (8, fsp))]) [2] (by decide) rfl
              have hKc := hK.sub (tys' := []) [] rfl
              have hFc := va_free (wc := [(ap, .inr (8, fsp))]) hD hS hA [2] rfl
              refine va_calli (va_runV (As := [.ref ap, .ref qW]) (rest := [.ref aX]) ⟨hx, hb, hml, hown, hts⟩ (z_X5_listChanged_1 l dC dI H.size ap fsp qW (fh_sub o_fsp.2 [0] rfl) ) (cwV 2 hts g_x_growth1_z_X5_listChanged_1_457 rfl rfl rfl (by decide +kernel) ⟨Nat.le_of_ble_eq_true rfl, Nat.le_of_ble_eq_true rfl⟩) ⟨fun a U g mk q => by obtain ⟨q0, q1, qP, qK, qD⟩ := q; exact ⟨q0, q1, qP, va_K.moved (u := U) (U := U.calling g mk a) (Vm.Alike.refl U.vm) qK, qD⟩, va_recv hK hP (ci := 8) (q0 := 2) rfl rfl, fun U hU hW => ⟨rfl, by rw [hU], by rw [hU]; exact hPc, va_K.moved hW.alike hKc, hDc.weaken (fun _ _ _ _ => trivial)⟩⟩ rfl rfl hl.1 rfl (lv_room (Nat.le_of_ble_eq_true rfl)) dX11_growth_103 ⟨Nat.le_of_ble_eq_true rfl, Nat.le_of_ble_eq_true rfl⟩) hS (fun q _ h => hFc q h) hFc (fun r5976 u t H1 locs ht hvm hw hB hz1 hk1 hS => ?_)
              obtain ⟨hP1, hK1, hD1⟩ := hB
              rw [ht] at hP1
              try dsimp only at hw
              obtain ⟨hP, hD⟩ := va_join (wr := [(aX, .inr (14, fsX)), (qP, .inl (kP, 4, .inr (.inr (.inr (.inr gP)))))]) (w1 := [(ap, .inr (8, fsp))]) hP hD [2] [0, 1] rfl rfl (by decide) (by decide) hk1 hFc hP1 hD1
              have hK := hK.sub (tys' := [(kP, .object "HeapWorks$Picture")]) [0] rfl
              generalize H1 = H at hP hS ⊢
              have hP : va_P (dC, dI) vwCl [(aX, .inr (14, fsX)), (qP, .inl (kP, 4, .inr (.inr (.inr (.inr gP))))), (ap, .inr (8, fsp))] H := hP
              have hD : va_D A [(aX, .inr (14, fsX)), (qP, .inl (kP, 4, .inr (.inr (.inr (.inr gP))))), (ap, .inr (8, fsp))] := hD
              have er5977 := hw
              subst er5977
              refine va_put (D := (dC, dI)) (ci := 14) (v := .int 0) (ty := .int) (C := RX11) (T := TX11) (N := 18) hx hb hts (in_x_growth1_X11) tyX11 tyX11_ok nmX11 hown hK hP hD hS 0 rfl rfl 15 (by decide) (hts (.fieldLink RX11 454 "HeapWorks" "grownCount" "I") (by decide +kernel)) (fun _ h9 => h9) rfl (by decide +kernel) rfl rfl (by rw [o_fsX.2.1]; decide) dX11_growth_106 (fun H locs hP hD hS => ?_)
              have hP : va_P (dC, dI) vwCl [(aX, .inr (14, (fsX.set 15 (.int 0)))), (qP, .inl (kP, 4, .inr (.inr (.inr (.inr gP))))), (ap, .inr (8, fsp))] H := hP
              have hD : va_D A [(aX, .inr (14, (fsX.set 15 (.int 0)))), (qP, .inl (kP, 4, .inr (.inr (.inr (.inr gP))))), (ap, .inr (8, fsp))] := hD
              have o_s5978 := ow_set o_fsX 15 (.int 0) (by decide) (l' := [(15, .int 0), (4, .ref qP), (14, .ref qW)]) (w' := [15]) rfl rfl
              generalize (fsX.set 15 (.int 0)) = s5978 at hP hD o_s5978
              refine lv_aload_n hx hb dX11_growth_109 rfl (lv_at hl 0 rfl) ?_
              refine va_get (D := (dC, dI)) (ci := 14) (v := .int 0) (C := RX11) (T := TX11) (N := 18) hx hb hts (in_x_growth1_X11) hown hK hP 0 rfl rfl 15 (by decide) (hts (.fieldLink RX11 454 "HeapWorks" "grownCount" "I") (by decide +kernel)) (fun _ h9 => h9) (ow_at o_s5978 0 rfl) dX11_growth_110 ?_
              have hP9 := hP.sub (ws' := [(aX, .inr (14, s5978)), (qP, .inl (kP, 4, .inr (.inr (.inr (.inr gP))))), (ap, .inr (8, fsp))]) [0, 1, 2] rfl
              have hD9 := hD.sub (ws' := [(aX, .inr (14, s5978)), (qP, .inl (kP, 4, .inr (.inr (.inr (.inr gP))))), (ap, .inr (8, fsp))]) [0, 1, 2] (by decide) rfl
              have hK9 := hK.sub (tys' := [(kP, .object "HeapWorks$Picture")]) [0] rfl
              refine vx_ret ?_
              refine W.widen (k := 3) (n := 18) (by decide) (by decide) ?_
              exact W.iret (v := 0) hx hb hr (fun t ht hW => ⟨⟨0, s5978, rfl, (Or.inl ⟨c5950, c5951, c5969, c5970, c5971, c5972, c5973, c5974, rfl, o_s5978⟩), by rw [ht]; exact hP9, va_K.moved hW.alike hK9, hD9⟩, hS.F ht⟩) hS.2.2 dX11_growth_113
            · skip
              refine lv_aload_n hx hb dX11_growth_60 rfl (lv_at hl 0 rfl) ?_
              refine lv_aload_n hx hb dX11_growth_61 rfl (lv_at hl 0 rfl) ?_
              refine va_get (D := (dC, dI)) (ci := 14) (v := .ref qP) (C := RX11) (T := TX11) (N := 18) hx hb hts (in_x_growth1_X11) hown hK hP 0 rfl rfl 4 (by decide) (hts (.fieldLink RX11 41 "HeapWorks" "pictures" "[LHeapWorks$Picture;") (by decide +kernel)) (fun _ h9 => h9) (ow_at o_fsX 0 rfl) dX11_growth_62 ?_
              refine lv_iload_n hx hb dX11_growth_65 rfl (lv_at hl 1 rfl) ?_
              refine va_aldq hx hb hK hP 1 0 rfl rfl (by rw [vp_in_iff]; (try simp only [i_lt, i_le, i_eq, kc_0, kc_4] at c5950 c5951); omega) dX11_growth_66 ?_
              refine W.eq (g2 := F0 m 67 ls (.ref ap :: [.ref aX])) (by rw [hg]; rfl) ?_
              refine lv_aload_n hx hb dX11_growth_67 rfl (lv_at hl 0 rfl) ?_
              refine va_get (D := (dC, dI)) (ci := 14) (v := .ref qP) (C := RX11) (T := TX11) (N := 18) hx hb hts (in_x_growth1_X11) hown hK hP 0 rfl rfl 4 (by decide) (hts (.fieldLink RX11 41 "HeapWorks" "pictures" "[LHeapWorks$Picture;") (by decide +kernel)) (fun _ h9 => h9) (ow_at o_fsX 0 rfl) dX11_growth_68 ?_
              refine lv_iload_n hx hb dX11_growth_71 rfl (lv_at hl 2 rfl) ?_
              refine va_aldq hx hb hK hP 1 0 rfl rfl (by rw [vp_in_iff]; (try simp only [i_lt, i_le, i_eq, kc_0, kc_4] at c5969 c5970); omega) dX11_growth_72 ?_
              refine W.eq (g2 := F0 m 73 ls (.ref ap :: [.ref ap, .ref aX])) (by rw [hg1]; rfl) ?_
              refine lv_aload_n hx hb dX11_growth_73 rfl (lv_at hl 0 rfl) ?_
              refine va_get (D := (dC, dI)) (ci := 14) (v := .ref qW) (C := RX11) (T := TX11) (N := 18) hx hb hts (in_x_growth1_X11) hown hK hP 0 rfl rfl 14 (by decide) (hts (.fieldLink RX11 95 "HeapWorks" "grownThings" "[I") (by decide +kernel)) (fun _ h9 => h9) (ow_at o_fsX 2 rfl) dX11_growth_74 ?_
              have hPc := hP.sub (ws' := [(ap, .inr (8, fsp))]) [2] rfl
              have hDc := hD.sub (ws' := [(ap, .inr (8, fsp))]) [2] (by decide) rfl
              have hKc := hK.sub (tys' := []) [] rfl
              have hFc := va_free (wc := [(ap, .inr (8, fsp))]) hD hS hA [2] rfl
              refine va_calli (va_runV (As := [.ref ap, .ref qW]) (rest := [.ref aX]) ⟨hx, hb, hml, hown, hts⟩ (z_X5_listMissing_1 l dC dI H.size ap fsp qW (fh_sub o_fsp.2 [0] rfl) ) (cwV 2 hts g_x_growth1_z_X5_listMissing_1_450 rfl rfl rfl (by decide +kernel) ⟨Nat.le_of_ble_eq_true rfl, Nat.le_of_ble_eq_true rfl⟩) ⟨fun a U g mk q => by obtain ⟨q0, q1, qP, qK, qD⟩ := q; exact ⟨q0, q1, qP, va_K.moved (u := U) (U := U.calling g mk a) (Vm.Alike.refl U.vm) qK, qD⟩, va_recv hK hP (ci := 8) (q0 := 2) rfl rfl, fun U hU hW => ⟨rfl, by rw [hU], by rw [hU]; exact hPc, va_K.moved hW.alike hKc, hDc.weaken (fun _ _ _ _ => trivial)⟩⟩ rfl rfl hl.1 rfl (lv_room (Nat.le_of_ble_eq_true rfl)) dX11_growth_77 ⟨Nat.le_of_ble_eq_true rfl, Nat.le_of_ble_eq_true rfl⟩) hS (fun q _ h => hFc q h) hFc (fun r5980 u t H1 locs ht hvm hw hB hz1 hk1 hS => ?_)
              obtain ⟨hP1, hK1, hD1⟩ := hB
              rw [ht] at hP1
              try dsimp only at hw
              obtain ⟨hP, hD⟩ := va_join (wr := [(aX, .inr (14, fsX)), (qP, .inl (kP, 4, .inr (.inr (.inr (.inr gP)))))]) (w1 := [(ap, .inr (8, fsp))]) hP hD [2] [0, 1] rfl rfl (by decide) (by decide) hk1 hFc hP1 hD1
              have hK := hK.sub (tys' := [(kP, .object "HeapWorks$Picture")]) [0] rfl
              generalize H1 = H at hP hS ⊢
              have hP : va_P (dC, dI) vwCl [(aX, .inr (14, fsX)), (qP, .inl (kP, 4, .inr (.inr (.inr (.inr gP))))), (ap, .inr (8, fsp))] H := hP
              have hD : va_D A [(aX, .inr (14, fsX)), (qP, .inl (kP, 4, .inr (.inr (.inr (.inr gP))))), (ap, .inr (8, fsp))] := hD
              have er5981 := hw
              subst er5981
              refine va_put (D := (dC, dI)) (ci := 14) (v := .int 0) (ty := .int) (C := RX11) (T := TX11) (N := 18) hx hb hts (in_x_growth1_X11) tyX11 tyX11_ok nmX11 hown hK hP hD hS 0 rfl rfl 15 (by decide) (hts (.fieldLink RX11 454 "HeapWorks" "grownCount" "I") (by decide +kernel)) (fun _ h9 => h9) rfl (by decide +kernel) rfl rfl (by rw [o_fsX.2.1]; decide) dX11_growth_80 (fun H locs hP hD hS => ?_)
              have hP : va_P (dC, dI) vwCl [(aX, .inr (14, (fsX.set 15 (.int 0)))), (qP, .inl (kP, 4, .inr (.inr (.inr (.inr gP))))), (ap, .inr (8, fsp))] H := hP
              have hD : va_D A [(aX, .inr (14, (fsX.set 15 (.int 0)))), (qP, .inl (kP, 4, .inr (.inr (.inr (.inr gP))))), (ap, .inr (8, fsp))] := hD
              have o_s5982 := ow_set o_fsX 15 (.int 0) (by decide) (l' := [(15, .int 0), (4, .ref qP), (14, .ref qW)]) (w' := [15]) rfl rfl
              generalize (fsX.set 15 (.int 0)) = s5982 at hP hD o_s5982
              refine lv_goto (tgt := 109) hx hb dX11_growth_83 (by decide) ?_
              refine lv_aload_n hx hb dX11_growth_109 rfl (lv_at hl 0 rfl) ?_
              refine va_get (D := (dC, dI)) (ci := 14) (v := .int 0) (C := RX11) (T := TX11) (N := 18) hx hb hts (in_x_growth1_X11) hown hK hP 0 rfl rfl 15 (by decide) (hts (.fieldLink RX11 454 "HeapWorks" "grownCount" "I") (by decide +kernel)) (fun _ h9 => h9) (ow_at o_s5982 0 rfl) dX11_growth_110 ?_
              have hP9 := hP.sub (ws' := [(aX, .inr (14, s5982)), (qP, .inl (kP, 4, .inr (.inr (.inr (.inr gP))))), (ap, .inr (8, fsp))]) [0, 1, 2] rfl
              have hD9 := hD.sub (ws' := [(aX, .inr (14, s5982)), (qP, .inl (kP, 4, .inr (.inr (.inr (.inr gP))))), (ap, .inr (8, fsp))]) [0, 1, 2] (by decide) rfl
              have hK9 := hK.sub (tys' := [(kP, .object "HeapWorks$Picture")]) [0] rfl
              refine vx_ret ?_
              refine W.widen (k := 3) (n := 18) (by decide) (by decide) ?_
              exact W.iret (v := 0) hx hb hr (fun t ht hW => ⟨⟨0, s5982, rfl, (Or.inr (Or.inl ⟨c5950, c5951, c5969, c5970, c5971, c5972, c5973, c5974, rfl, o_s5982⟩)), by rw [ht]; exact hP9, va_K.moved hW.alike hK9, hD9⟩, hS.F ht⟩) hS.2.2 dX11_growth_113
          · skip
            refine lv_aload_n hx hb dX11_growth_29 rfl (lv_at hl 0 rfl) ?_
            refine lv_aload_n hx hb dX11_growth_30 rfl (lv_at hl 0 rfl) ?_
            refine va_get (D := (dC, dI)) (ci := 14) (v := .ref qP) (C := RX11) (T := TX11) (N := 18) hx hb hts (in_x_growth1_X11) hown hK hP 0 rfl rfl 4 (by decide) (hts (.fieldLink RX11 41 "HeapWorks" "pictures" "[LHeapWorks$Picture;") (by decide +kernel)) (fun _ h9 => h9) (ow_at o_fsX 0 rfl) dX11_growth_31 ?_
            refine lv_iload_n hx hb dX11_growth_34 rfl (lv_at hl 2 rfl) ?_
            refine va_aldq hx hb hK hP 1 0 rfl rfl (by rw [vp_in_iff]; (try simp only [i_lt, i_le, i_eq, kc_0, kc_4] at c5969 c5970); omega) dX11_growth_35 ?_
            refine W.eq (g2 := F0 m 36 ls (.ref ap :: [.ref aX])) (by rw [hg1]; rfl) ?_
            refine lv_aload_n hx hb dX11_growth_36 rfl (lv_at hl 0 rfl) ?_
            refine va_get (D := (dC, dI)) (ci := 14) (v := .ref qP) (C := RX11) (T := TX11) (N := 18) hx hb hts (in_x_growth1_X11) hown hK hP 0 rfl rfl 4 (by decide) (hts (.fieldLink RX11 41 "HeapWorks" "pictures" "[LHeapWorks$Picture;") (by decide +kernel)) (fun _ h9 => h9) (ow_at o_fsX 0 rfl) dX11_growth_37 ?_
            refine lv_iload_n hx hb dX11_growth_40 rfl (lv_at hl 1 rfl) ?_
            refine va_aldq hx hb hK hP 1 0 rfl rfl (by rw [vp_in_iff]; (try simp only [i_lt, i_le, i_eq, kc_0, kc_4] at c5950 c5951); omega) dX11_growth_41 ?_
            refine W.eq (g2 := F0 m 42 ls (.ref ap :: [.ref ap, .ref aX])) (by rw [hg]; rfl) ?_
            refine lv_aload_n hx hb dX11_growth_42 rfl (lv_at hl 0 rfl) ?_
            refine va_get (D := (dC, dI)) (ci := 14) (v := .ref qW) (C := RX11) (T := TX11) (N := 18) hx hb hts (in_x_growth1_X11) hown hK hP 0 rfl rfl 14 (by decide) (hts (.fieldLink RX11 95 "HeapWorks" "grownThings" "[I") (by decide +kernel)) (fun _ h9 => h9) (ow_at o_fsX 2 rfl) dX11_growth_43 ?_
            have hPc := hP.sub (ws' := [(ap, .inr (8, fsp))]) [2] rfl
            have hDc := hD.sub (ws' := [(ap, .inr (8, fsp))]) [2] (by decide) rfl
            have hKc := hK.sub (tys' := []) [] rfl
            have hFc := va_free (wc := [(ap, .inr (8, fsp))]) hD hS hA [2] rfl
            refine va_calli (va_runV (As := [.ref ap, .ref qW]) (rest := [.ref aX]) ⟨hx, hb, hml, hown, hts⟩ (z_X5_listMissing_1 l dC dI H.size ap fsp qW (fh_sub o_fsp.2 [0] rfl) ) (cwV 2 hts g_x_growth1_z_X5_listMissing_1_450 rfl rfl rfl (by decide +kernel) ⟨Nat.le_of_ble_eq_true rfl, Nat.le_of_ble_eq_true rfl⟩) ⟨fun a U g mk q => by obtain ⟨q0, q1, qP, qK, qD⟩ := q; exact ⟨q0, q1, qP, va_K.moved (u := U) (U := U.calling g mk a) (Vm.Alike.refl U.vm) qK, qD⟩, va_recv hK hP (ci := 8) (q0 := 2) rfl rfl, fun U hU hW => ⟨rfl, by rw [hU], by rw [hU]; exact hPc, va_K.moved hW.alike hKc, hDc.weaken (fun _ _ _ _ => trivial)⟩⟩ rfl rfl hl.1 rfl (lv_room (Nat.le_of_ble_eq_true rfl)) dX11_growth_46 ⟨Nat.le_of_ble_eq_true rfl, Nat.le_of_ble_eq_true rfl⟩) hS (fun q _ h => hFc q h) hFc (fun r5984 u t H1 locs ht hvm hw hB hz1 hk1 hS => ?_)
            obtain ⟨hP1, hK1, hD1⟩ := hB
            rw [ht] at hP1
            try dsimp only at hw
            obtain ⟨hP, hD⟩ := va_join (wr := [(aX, .inr (14, fsX)), (qP, .inl (kP, 4, .inr (.inr (.inr (.inr gP)))))]) (w1 := [(ap, .inr (8, fsp))]) hP hD [2] [0, 1] rfl rfl (by decide) (by decide) hk1 hFc hP1 hD1
            have hK := hK.sub (tys' := [(kP, .object "HeapWorks$Picture")]) [0] rfl
            generalize H1 = H at hP hS ⊢
            have hP : va_P (dC, dI) vwCl [(aX, .inr (14, fsX)), (qP, .inl (kP, 4, .inr (.inr (.inr (.inr gP))))), (ap, .inr (8, fsp))] H := hP
            have hD : va_D A [(aX, .inr (14, fsX)), (qP, .inl (kP, 4, .inr (.inr (.inr (.inr gP))))), (ap, .inr (8, fsp))] := hD
            have er5985 := hw
            subst er5985
            refine va_put (D := (dC, dI)) (ci := 14) (v := .int 0) (ty := .int) (C := RX11) (T := TX11) (N := 18) hx hb hts (in_x_growth1_X11) tyX11 tyX11_ok nmX11 hown hK hP hD hS 0 rfl rfl 15 (by decide) (hts (.fieldLink RX11 454 "HeapWorks" "grownCount" "I") (by decide +kernel)) (fun _ h9 => h9) rfl (by decide +kernel) rfl rfl (by rw [o_fsX.2.1]; decide) dX11_growth_49 (fun H locs hP hD hS => ?_)
            have hP : va_P (dC, dI) vwCl [(aX, .inr (14, (fsX.set 15 (.int 0)))), (qP, .inl (kP, 4, .inr (.inr (.inr (.inr gP))))), (ap, .inr (8, fsp))] H := hP
            have hD : va_D A [(aX, .inr (14, (fsX.set 15 (.int 0)))), (qP, .inl (kP, 4, .inr (.inr (.inr (.inr gP))))), (ap, .inr (8, fsp))] := hD
            have o_s5986 := ow_set o_fsX 15 (.int 0) (by decide) (l' := [(15, .int 0), (4, .ref qP), (14, .ref qW)]) (w' := [15]) rfl rfl
            generalize (fsX.set 15 (.int 0)) = s5986 at hP hD o_s5986
            refine lv_goto (tgt := 109) hx hb dX11_growth_52 (by decide) ?_
            refine lv_aload_n hx hb dX11_growth_109 rfl (lv_at hl 0 rfl) ?_
            refine va_get (D := (dC, dI)) (ci := 14) (v := .int 0) (C := RX11) (T := TX11) (N := 18) hx hb hts (in_x_growth1_X11) hown hK hP 0 rfl rfl 15 (by decide) (hts (.fieldLink RX11 454 "HeapWorks" "grownCount" "I") (by decide +kernel)) (fun _ h9 => h9) (ow_at o_s5986 0 rfl) dX11_growth_110 ?_
            have hP9 := hP.sub (ws' := [(aX, .inr (14, s5986)), (qP, .inl (kP, 4, .inr (.inr (.inr (.inr gP))))), (ap, .inr (8, fsp))]) [0, 1, 2] rfl
            have hD9 := hD.sub (ws' := [(aX, .inr (14, s5986)), (qP, .inl (kP, 4, .inr (.inr (.inr (.inr gP))))), (ap, .inr (8, fsp))]) [0, 1, 2] (by decide) rfl
            have hK9 := hK.sub (tys' := [(kP, .object "HeapWorks$Picture")]) [0] rfl
            refine vx_ret ?_
            refine W.widen (k := 3) (n := 18) (by decide) (by decide) ?_
            exact W.iret (v := 0) hx hb hr (fun t ht hW => ⟨⟨0, s5986, rfl, (Or.inr (Or.inr (⟨c5950, c5951, c5969, c5970, c5971, c5972, c5973, rfl, o_s5986⟩))), by rw [ht]; exact hP9, va_K.moved hW.alike hK9, hD9⟩, hS.F ht⟩) hS.2.2 dX11_growth_113
        · skip
          exact vx_throw0 (names := ["java/lang/RuntimeException", "java/lang/Exception"]) hx hb hst hown (by decide +kernel) (by decide +kernel) (hts (.classLink RX11 120 "java/lang/IndexOutOfBoundsException") (by decide +kernel)) (hts (.initialized "java/lang/IndexOutOfBoundsException") (by decide +kernel)) (vx_hat (B := xB "java/lang/IndexOutOfBoundsException") (fun w h => hts w (in_x_growth1_at0_X11_122 w h)) (by decide +kernel) (Zz_xB hZ (by decide))) (by decide +kernel) hZ.1 hZ.2.1 hS (hl.1.trans hml.symm) dX11_growth_17 dX11_growth_20 dX11_growth_21 dX11_growth_24 (fun x h => (htab x h).elim) (by decide) (Nat.le_of_ble_eq_true rfl) (Nat.le_of_ble_eq_true rfl) (Nat.le_of_ble_eq_true rfl) hlocks (fun t _ h1 h2 => ⟨(), trivial, (Or.inr (Or.inr (Or.inr (Or.inr (Or.inr (⟨rfl, c5950, c5951, c5969, c5970, c5971, c5972⟩)))))), xx_F hS h1 h2⟩) hS.2.2 (by decide) (by decide)

def l_x_grown : List Cond := [.fieldLink RX11 454 "HeapWorks" "grownCount" "I"]
def w_x_grown : List Cond := .code yX11_grown cX11_grown 2 (some .int) :: (l_x_grown ++ (wsX110))
theorem in_x_grown_X11 : ∀ w ∈ wsX110, w ∈ w_x_grown := fun w h => List.mem_cons_of_mem _ (List.mem_append_right _ (h))
set_option maxHeartbeats 4000000 in
set_option maxRecDepth 100000 in
theorem x_grown (l : Launch) (dC : Nat → ClassId) (dI : Nat → Nat → Nat) (sz : Nat) (aX : Nat) (fsX : List Value) (p0 : Int32) (k_fsX : fh fsX 18 [(15, .int 0)])  : Met l yX11_grown w_x_grown ({ frames := 0, cells := 0, slots := 0, locals := 0 }) (va_Pc [.ref aX, .int p0] (fun U => U.heap.size = sz ∧ Wd dC dI [] (fun _ => True) [(aX, .inr (14, fsX))] U)) (va_Qi (fun (r : Int32) (u : Unit) => (p0 < 0 ∧ r = (-1)) ∨ (¬ p0 < 0 ∧ 0 ≤ p0 ∧ r = (-1))) (fun (u : Unit) t => Wd dC dI [] (va_A [(aX, .inr (14, fsX))] sz) [(aX, .inr (14, fsX))] t) (va_A [(aX, .inr (14, fsX))] sz))  0 0 (va_A [(aX, .inr (14, fsX))] sz) := by
  refine Met.ofW (cc := cX11_grown) (maxL := 2) (ret := (some .int)) (by decide) rfl ?_
  intro p e s m args below meth c s₁ B hml hv
  obtain ⟨rfl, hsz, hP, hK, hD0⟩ := hv
  have hx := B.exec
  have hb := B.bytes
  have hr := B.returns
  have hts := atoms_spec (ws := w_x_grown) B.pre
  have hown : s.vm.findClass RX11 = some m.cls := findClass_of_methodNamed B.named
  have hlocks := B.notSynchronized
  subst hsz
  have hD := hD0.self (sz := s.heap.size)
  generalize hAe : va_A [(aX, .inr (14, fsX))] s.heap.size = A at hD ⊢
  have hA : ∀ q : Nat, s.heap.size ≤ q → A q := fun q h => by rw [← hAe]; exact Or.inr h
  have hS : va_S A s.heap s.heap [] := va_S.rf
  have hl := lv_entry ([.ref aX, .int p0]) (n := 2) (Nat.le_of_ble_eq_true rfl)
  rw [lg_entry_eq]
  generalize (lg_sl ([.ref aX, .int p0]) ++ List.replicate (2 - (lg_sl ([.ref aX, .int p0])).length) Slot.unset).toArray = ls at hl ⊢
  have hl : lv_has ls 2 [(0, .ref aX), (1, .int p0)] := hl
  have o_fsX := ow_0 k_fsX
  refine lv_iload_n hx hb dX11_grown_0 rfl (lv_at hl 1 rfl) ?_
  refine lv_if_lt (tgt := 21) hx hb dX11_grown_1 (by decide) (fun c5989 => ?_) (fun c5989 => ?_)
  · skip
    refine lv_iconst (v := (-1)) hx hb dX11_grown_21 (by decide) ?_
    have hP9 := hP.sub (ws' := [(aX, .inr (14, fsX))]) [0] rfl
    have hD9 := hD.sub (ws' := [(aX, .inr (14, fsX))]) [0] (by decide) rfl
    have hK9 := hK.sub (tys' := []) [] rfl
    exact W.iret (v := (-1)) hx hb hr (fun t ht hW => ⟨⟨(-1), (), rfl, (Or.inl ⟨c5989, rfl⟩), by rw [ht]; exact hP9, va_K.moved hW.alike hK9, hD9⟩, hS.F ht⟩) hS.2.2 dX11_grown_22
  · skip
    refine lv_iload_n hx hb dX11_grown_4 rfl (lv_at hl 1 rfl) ?_
    refine lv_aload_n hx hb dX11_grown_5 rfl (lv_at hl 0 rfl) ?_
    refine va_get (D := (dC, dI)) (ci := 14) (v := .int 0) (C := RX11) (T := TX11) (N := 18) hx hb hts (in_x_grown_X11) hown hK hP 0 rfl rfl 15 (by decide) (hts (.fieldLink RX11 454 "HeapWorks" "grownCount" "I") (by decide +kernel)) (fun _ h9 => h9) (ow_at o_fsX 0 rfl) dX11_grown_6 ?_
    refine lv_icmp_ge (tgt := 21) hx hb dX11_grown_9 (by decide) (fun c5990 => ?_) (fun c5990 => (by exfalso; have bd_p0 := i_bd p0; (try simp only [i_lt, i_le, i_eq, kc_0] at c5989 c5990); omega))
    refine lv_iconst (v := (-1)) hx hb dX11_grown_21 (by decide) ?_
    have hP9 := hP.sub (ws' := [(aX, .inr (14, fsX))]) [0] rfl
    have hD9 := hD.sub (ws' := [(aX, .inr (14, fsX))]) [0] (by decide) rfl
    have hK9 := hK.sub (tys' := []) [] rfl
    exact W.iret (v := (-1)) hx hb hr (fun t ht hW => ⟨⟨(-1), (), rfl, (Or.inr (⟨c5989, c5990, rfl⟩)), by rw [ht]; exact hP9, va_K.moved hW.alike hK9, hD9⟩, hS.F ht⟩) hS.2.2 dX11_grown_22

def l_x_like : List Cond := [.methodLink RX11 359 yX11_isThing, .instanceMethod yX11_isThing, .selects RX11 yX11_isThing yX11_isThing, .initialized RX11, .classLink RX11 221 "java/util/NoSuchElementException", .initialized "java/util/NoSuchElementException", .code yX11_isThing cX11_isThing 3 (some .boolean), .methodLink RX11 411 yX11_isPicture, .static yX11_isPicture, .fieldLink RX11 41 "HeapWorks" "pictures" "[LHeapWorks$Picture;", .fieldLink RX11 356 "HeapWorks$Picture" "things" "I", .code yX11_isPicture cX11_isPicture 1 (some .boolean)]
def w_x_like : List Cond := .code yX11_like cX11_like 5 (some .boolean) :: (l_x_like ++ ((((vx_at0 RX11 223 "java/util/NoSuchElementException" ["java/lang/RuntimeException", "java/lang/Exception"]).filter goodWord) ++ (wsX110 ++ wsX50))))
theorem in_x_like_at0_X11_223 : ∀ w ∈ ((vx_at0 RX11 223 "java/util/NoSuchElementException" ["java/lang/RuntimeException", "java/lang/Exception"]).filter goodWord), w ∈ w_x_like := fun w h => List.mem_cons_of_mem _ (List.mem_append_right _ (List.mem_append_left _ h))
theorem in_x_like_X11 : ∀ w ∈ wsX110, w ∈ w_x_like := fun w h => List.mem_cons_of_mem _ (List.mem_append_right _ (List.mem_append_right _ (List.mem_append_left _ h)))
theorem in_x_like_X5 : ∀ w ∈ wsX50, w ∈ w_x_like := fun w h => List.mem_cons_of_mem _ (List.mem_append_right _ (List.mem_append_right _ (List.mem_append_right _ (h))))
theorem g_x_like_z_X11_isThing_359 : GoodIn w_x_like (wsV RX11 359 RX11 yX11_isThing w_z_X11_isThing) := goodIn_app (goodIn_sub (by decide +kernel) (by decide +kernel)) (goodIn_ca (goodIn_sub (by decide +kernel) (by decide +kernel)) (goodIn_app (goodIn_in in_x_like_X11 gd_X11) (goodIn_in in_x_like_X5 gd_X5)))
set_option maxHeartbeats 4000000 in
set_option maxRecDepth 100000 in
theorem x_like (l : Launch) (dC : Nat → ClassId) (dI : Nat → Nat → Nat) (sz : Nat) (aX : Nat) (fsX : List Value) (qP : Nat) (gP : Nat → Option Nat) (kP : ClassId) (ap : Nat) (fsp : List Value) (p0 : Int32) (p1 : Int32) (p2 : Int32) (p3 : Int32) (k_fsX : fh fsX 18 [(4, .ref qP)]) (k_fsp : fh fsp 21 [(0, .int 0)]) (hst : l.stackTraces = false) (hg : gP p0.toNatClampNeg = some ap) : vx_Met l yX11_like w_x_like ({ frames := 7, cells := 1, slots := 6, locals := 140 }) (va_Pc [.ref aX, .int p0, .int p1, .int p2, .int p3] (fun U => U.heap.size = sz ∧ Zz (va_A [(aX, .inr (14, fsX)), (qP, .inl (kP, 4, .inr (.inr (.inr (.inr gP))))), (ap, .inr (8, fsp))] sz) U ∧ Wd dC dI [(kP, .object "HeapWorks$Picture")] (fun _ => True) [(aX, .inr (14, fsX)), (qP, .inl (kP, 4, .inr (.inr (.inr (.inr gP))))), (ap, .inr (8, fsp))] U)) (va_Qi (fun (r : Int32) (u : Unit) => False) (fun (u : Unit) t => Wd dC dI [(kP, .object "HeapWorks$Picture")] (va_A [(aX, .inr (14, fsX)), (qP, .inl (kP, 4, .inr (.inr (.inr (.inr gP))))), (ap, .inr (8, fsp))] sz) [(aX, .inr (14, fsX)), (qP, .inl (kP, 4, .inr (.inr (.inr (.inr gP))))), (ap, .inr (8, fsp))] t) (va_A [(aX, .inr (14, fsX)), (qP, .inl (kP, 4, .inr (.inr (.inr (.inr gP))))), (ap, .inr (8, fsp))] sz)) (vx_X (fun _ : Unit => True) (fun E _ _ => (E = "java/util/NoSuchElementException" ∧ p0 < 0) ∨ (E = "java/util/NoSuchElementException" ∧ ¬ p0 < 0 ∧ 4 ≤ p0) ∨ (E = "java/util/NoSuchElementException" ∧ ¬ p0 < 0 ∧ ¬ 4 ≤ p0 ∧ p1 < 0) ∨ (E = "java/util/NoSuchElementException" ∧ ¬ p0 < 0 ∧ ¬ 4 ≤ p0 ∧ ¬ p1 < 0 ∧ 0 ≤ p1)) (va_A [(aX, .inr (14, fsX)), (qP, .inl (kP, 4, .inr (.inr (.inr (.inr gP))))), (ap, .inr (8, fsp))] sz)) 1 6 (va_A [(aX, .inr (14, fsX)), (qP, .inl (kP, 4, .inr (.inr (.inr (.inr gP))))), (ap, .inr (8, fsp))] sz) := by
  refine vx_ofW (cc := cX11_like) (maxL := 5) (ret := (some .boolean)) (by decide) rfl ?_
  intro p e s m args below meth c s₁ B hml htab hv
  obtain ⟨rfl, hsz, hZ, hP, hK, hD0⟩ := hv
  have hx := B.exec
  have hb := B.bytes
  have hr := B.returns
  have hts := atoms_spec (ws := w_x_like) B.pre
  have hown : s.vm.findClass RX11 = some m.cls := findClass_of_methodNamed B.named
  have hlocks := B.notSynchronized
  subst hsz
  have hD := hD0.self (sz := s.heap.size)
  generalize hAe : va_A [(aX, .inr (14, fsX)), (qP, .inl (kP, 4, .inr (.inr (.inr (.inr gP))))), (ap, .inr (8, fsp))] s.heap.size = A at hD hZ ⊢
  have hA : ∀ q : Nat, s.heap.size ≤ q → A q := fun q h => by rw [← hAe]; exact Or.inr h
  have hS : va_S A s.heap s.heap [] := va_S.rf
  have hl := lv_entry ([.ref aX, .int p0, .int p1, .int p2, .int p3]) (n := 5) (Nat.le_of_ble_eq_true rfl)
  rw [lg_entry_eq]
  generalize (lg_sl ([.ref aX, .int p0, .int p1, .int p2, .int p3]) ++ List.replicate (5 - (lg_sl ([.ref aX, .int p0, .int p1, .int p2, .int p3])).length) Slot.unset).toArray = ls at hl ⊢
  have hl : lv_has ls 5 [(0, .ref aX), (1, .int p0), (2, .int p1), (3, .int p2), (4, .int p3)] := hl
  have o_fsX := ow_0 k_fsX
  have o_fsp := ow_0 k_fsp
  refine lv_aload_n hx hb dX11_like_0 rfl (lv_at hl 0 rfl) ?_
  refine lv_iload_n hx hb dX11_like_1 rfl (lv_at hl 1 rfl) ?_
  refine lv_iload_n hx hb dX11_like_2 rfl (lv_at hl 2 rfl) ?_
  have hPc := hP.sub (ws' := [(aX, .inr (14, fsX)), (qP, .inl (kP, 4, .inr (.inr (.inr (.inr gP))))), (ap, .inr (8, fsp))]) [0, 1, 2] rfl
  have hDc := hD.sub (ws' := [(aX, .inr (14, fsX)), (qP, .inl (kP, 4, .inr (.inr (.inr (.inr gP))))), (ap, .inr (8, fsp))]) [0, 1, 2] (by decide) rfl
  have hKc := hK.sub (tys' := [(kP, .object "HeapWorks$Picture")]) [0] rfl
  have hFc := va_free (wc := [(aX, .inr (14, fsX)), (qP, .inl (kP, 4, .inr (.inr (.inr (.inr gP))))), (ap, .inr (8, fsp))]) hD hS hA [0, 1, 2] rfl
  refine va_calli (va_runV (As := [.int p0, .int p1]) (rest := []) ⟨hx, hb, hml, hown, hts⟩ (z_X11_isThing l dC dI s.heap.size aX fsX qP gP kP ap fsp p0 p1 (fh_sub o_fsX.2 [0] rfl) (fh_sub o_fsp.2 [0] rfl) hg) (cwV 2 hts g_x_like_z_X11_isThing_359 rfl rfl rfl (by decide +kernel) ⟨Nat.le_of_ble_eq_true rfl, Nat.le_of_ble_eq_true rfl⟩) ⟨fun a U g mk q => by obtain ⟨q0, q1, qP, qK, qD⟩ := q; exact ⟨q0, q1, qP, va_K.moved (u := U) (U := U.calling g mk a) (Vm.Alike.refl U.vm) qK, qD⟩, va_recv hK hP (ci := 14) (q0 := 0) rfl rfl, fun U hU hW => ⟨rfl, by rw [hU], by rw [hU]; exact hPc, va_K.moved hW.alike hKc, hDc.weaken (fun _ _ _ _ => trivial)⟩⟩ rfl rfl hl.1 rfl (lv_room (Nat.le_of_ble_eq_true rfl)) dX11_like_3 ⟨Nat.le_of_ble_eq_true rfl, Nat.le_of_ble_eq_true rfl⟩) hS (fun q _ h => hFc q h) hFc (fun r6042 u t H1 locs ht hvm hw hB hz1 hk1 hS => ?_)
  obtain ⟨hP1, hK1, hD1⟩ := hB
  rw [ht] at hP1
  try dsimp only at hw
  obtain ⟨hP, hD⟩ := va_join (wr := []) (w1 := [(aX, .inr (14, fsX)), (qP, .inl (kP, 4, .inr (.inr (.inr (.inr gP))))), (ap, .inr (8, fsp))]) hP hD [0, 1, 2] [] rfl rfl (by decide) (by decide) hk1 hFc hP1 hD1
  have hK := hK.sub (tys' := [(kP, .object "HeapWorks$Picture")]) [0] rfl
  generalize H1 = H at hP hS ⊢
  have hP : va_P (dC, dI) vwCl [(aX, .inr (14, fsX)), (qP, .inl (kP, 4, .inr (.inr (.inr (.inr gP))))), (ap, .inr (8, fsp))] H := hP
  have hD : va_D A [(aX, .inr (14, fsX)), (qP, .inl (kP, 4, .inr (.inr (.inr (.inr gP))))), (ap, .inr (8, fsp))] := hD
  rcases hw with ⟨c6043, er6044⟩ | ⟨c6045, c6046, er6047⟩ | ⟨c6048, c6049, c6050, er6051⟩ | ⟨c6052, c6053, c6054, c6055, er6056⟩
  · skip
    subst er6044
    refine lv_if_eq (tgt := 19) hx hb dX11_like_6 (by decide) (fun c6057 => ?_) (fun c6057 => absurd c6057 (by decide))
    exact vx_throw0 (names := ["java/lang/RuntimeException", "java/lang/Exception"]) hx hb hst hown (by decide +kernel) (by decide +kernel) (hts (.classLink RX11 221 "java/util/NoSuchElementException") (by decide +kernel)) (hts (.initialized "java/util/NoSuchElementException") (by decide +kernel)) (vx_hat (B := xB "java/util/NoSuchElementException") (fun w h => hts w (in_x_like_at0_X11_223 w h)) (by decide +kernel) (Zz_xB hZ (by decide))) (by decide +kernel) hZ.1 hZ.2.1 hS (hl.1.trans hml.symm) dX11_like_19 dX11_like_22 dX11_like_23 dX11_like_26 (fun x h => (htab x h).elim) (by decide) (Nat.le_of_ble_eq_true rfl) (Nat.le_of_ble_eq_true rfl) (Nat.le_of_ble_eq_true rfl) hlocks (fun t _ h1 h2 => ⟨(), trivial, (Or.inl ⟨rfl, c6043⟩), xx_F hS h1 h2⟩) hS.2.2 (by decide) (by decide)
  · skip
    subst er6047
    refine lv_if_eq (tgt := 19) hx hb dX11_like_6 (by decide) (fun c6058 => ?_) (fun c6058 => absurd c6058 (by decide))
    exact vx_throw0 (names := ["java/lang/RuntimeException", "java/lang/Exception"]) hx hb hst hown (by decide +kernel) (by decide +kernel) (hts (.classLink RX11 221 "java/util/NoSuchElementException") (by decide +kernel)) (hts (.initialized "java/util/NoSuchElementException") (by decide +kernel)) (vx_hat (B := xB "java/util/NoSuchElementException") (fun w h => hts w (in_x_like_at0_X11_223 w h)) (by decide +kernel) (Zz_xB hZ (by decide))) (by decide +kernel) hZ.1 hZ.2.1 hS (hl.1.trans hml.symm) dX11_like_19 dX11_like_22 dX11_like_23 dX11_like_26 (fun x h => (htab x h).elim) (by decide) (Nat.le_of_ble_eq_true rfl) (Nat.le_of_ble_eq_true rfl) (Nat.le_of_ble_eq_true rfl) hlocks (fun t _ h1 h2 => ⟨(), trivial, (Or.inr (Or.inl ⟨rfl, c6045, c6046⟩)), xx_F hS h1 h2⟩) hS.2.2 (by decide) (by decide)
  · skip
    subst er6051
    refine lv_if_eq (tgt := 19) hx hb dX11_like_6 (by decide) (fun c6059 => ?_) (fun c6059 => absurd c6059 (by decide))
    exact vx_throw0 (names := ["java/lang/RuntimeException", "java/lang/Exception"]) hx hb hst hown (by decide +kernel) (by decide +kernel) (hts (.classLink RX11 221 "java/util/NoSuchElementException") (by decide +kernel)) (hts (.initialized "java/util/NoSuchElementException") (by decide +kernel)) (vx_hat (B := xB "java/util/NoSuchElementException") (fun w h => hts w (in_x_like_at0_X11_223 w h)) (by decide +kernel) (Zz_xB hZ (by decide))) (by decide +kernel) hZ.1 hZ.2.1 hS (hl.1.trans hml.symm) dX11_like_19 dX11_like_22 dX11_like_23 dX11_like_26 (fun x h => (htab x h).elim) (by decide) (Nat.le_of_ble_eq_true rfl) (Nat.le_of_ble_eq_true rfl) (Nat.le_of_ble_eq_true rfl) hlocks (fun t _ h1 h2 => ⟨(), trivial, (Or.inr (Or.inr (Or.inl ⟨rfl, c6048, c6049, c6050⟩))), xx_F hS h1 h2⟩) hS.2.2 (by decide) (by decide)
  · skip
    subst er6056
    refine lv_if_eq (tgt := 19) hx hb dX11_like_6 (by decide) (fun c6060 => ?_) (fun c6060 => absurd c6060 (by decide))
    exact vx_throw0 (names := ["java/lang/RuntimeException", "java/lang/Exception"]) hx hb hst hown (by decide +kernel) (by decide +kernel) (hts (.classLink RX11 221 "java/util/NoSuchElementException") (by decide +kernel)) (hts (.initialized "java/util/NoSuchElementException") (by decide +kernel)) (vx_hat (B := xB "java/util/NoSuchElementException") (fun w h => hts w (in_x_like_at0_X11_223 w h)) (by decide +kernel) (Zz_xB hZ (by decide))) (by decide +kernel) hZ.1 hZ.2.1 hS (hl.1.trans hml.symm) dX11_like_19 dX11_like_22 dX11_like_23 dX11_like_26 (fun x h => (htab x h).elim) (by decide) (Nat.le_of_ble_eq_true rfl) (Nat.le_of_ble_eq_true rfl) (Nat.le_of_ble_eq_true rfl) hlocks (fun t _ h1 h2 => ⟨(), trivial, (Or.inr (Or.inr (Or.inr (⟨rfl, c6052, c6053, c6054, c6055⟩)))), xx_F hS h1 h2⟩) hS.2.2 (by decide) (by decide)

def l_z_X6_readSet : List Cond := [.fieldLink RX6 9 "HeapWorks$Program" "tape" "LHeapWorks$Tape;", .fieldLink RX6 45 "HeapWorks$Tape" "word" "I", .methodLink RX6 51 yX6_refuse, .instanceMethod yX6_refuse, .selects RX6 yX6_refuse yX6_refuse, .initialized RX6, .code yX6_refuse cX6_refuse 1 (some .boolean), .methodLink RX6 112 yX6_fail, .instanceMethod yX6_fail, .selects RX6 yX6_fail yX6_fail, .code yX6_fail cX6_fail 2 (some .boolean), .fieldLink RX6 75 "HeapWorks$Program" "fault" "I", .fieldLink RX6 111 "HeapWorks$Tape" "place" "I", .fieldLink RX6 78 "HeapWorks$Program" "place" "I"]
def w_z_X6_readSet : List Cond := .code yX6_readSet cX6_readSet 3 (some .boolean) :: (l_z_X6_readSet ++ ((wsX60 ++ wsX90)))
theorem in_z_X6_readSet_X6 : ∀ w ∈ wsX60, w ∈ w_z_X6_readSet := fun w h => List.mem_cons_of_mem _ (List.mem_append_right _ (List.mem_append_left _ h))
theorem in_z_X6_readSet_X9 : ∀ w ∈ wsX90, w ∈ w_z_X6_readSet := fun w h => List.mem_cons_of_mem _ (List.mem_append_right _ (List.mem_append_right _ (h)))
theorem g_z_X6_readSet_z_X6_refuse_51 : GoodIn w_z_X6_readSet (wsV RX6 51 RX6 yX6_refuse w_z_X6_refuse) := goodIn_app (goodIn_sub (by decide +kernel) (by decide +kernel)) (goodIn_ca (goodIn_sub (by decide +kernel) (by decide +kernel)) (goodIn_app (goodIn_in in_z_X6_readSet_X6 gd_X6) (goodIn_in in_z_X6_readSet_X9 gd_X9)))
set_option maxHeartbeats 4000000 in
set_option maxRecDepth 100000 in
theorem z_X6_readSet (l : Launch) (dC : Nat → ClassId) (dI : Nat → Nat → Nat) (sz : Nat) (Ad0 : Nat) (Fs0 : List Value) (Ad1 : Nat) (Fs1 : List Value) (k_Fs0 : fh Fs0 12 [(10, .int 0), (9, .int 0)]) (k_Fs1 : fh Fs1 19 [(0, .ref Ad0), (0, .ref Ad0)])  : Met l yX6_readSet w_z_X6_readSet ({ frames := 2, cells := 0, slots := 0, locals := 41 }) (va_Pc [.ref Ad1, .int 0] (fun U => U.heap.size = sz ∧ Wd dC dI [] (fun _ => True) [(Ad0, .inr (12, Fs0)), (Ad1, .inr (9, Fs1))] U)) (va_Qi (fun (r : Int32) (u : List Value) => (r = 0 ∧ ow Fs1 (u) 19 [7, 6] [(7, .int 0), (6, .int 1), (0, .ref Ad0), (0, .ref Ad0), (0, .ref Ad0), (0, .ref Ad0), (0, .ref Ad0), (0, .ref Ad0)])) (fun (u : List Value) t => Wd dC dI [] (va_A [(Ad0, .inr (12, Fs0)), (Ad1, .inr (9, Fs1))] sz) [(Ad0, .inr (12, Fs0)), (Ad1, .inr (9, (u)))] t) (va_A [(Ad0, .inr (12, Fs0)), (Ad1, .inr (9, Fs1))] sz))  0 0 (va_A [(Ad0, .inr (12, Fs0)), (Ad1, .inr (9, Fs1))] sz) := by
  refine Met.ofW (cc := cX6_readSet) (maxL := 3) (ret := (some .boolean)) (by decide) rfl ?_
  intro p e s m args below meth c s₁ B hml hv
  obtain ⟨rfl, hsz, hP, hK, hD0⟩ := hv
  have hx := B.exec
  have hb := B.bytes
  have hr := B.returns
  have hts := atoms_spec (ws := w_z_X6_readSet) B.pre
  have hown : s.vm.findClass RX6 = some m.cls := findClass_of_methodNamed B.named
  have hlocks := B.notSynchronized
  subst hsz
  have hD := hD0.self (sz := s.heap.size)
  generalize hAe : va_A [(Ad0, .inr (12, Fs0)), (Ad1, .inr (9, Fs1))] s.heap.size = A at hD ⊢
  have hA : ∀ q : Nat, s.heap.size ≤ q → A q := fun q h => by rw [← hAe]; exact Or.inr h
  have hS : va_S A s.heap s.heap [] := va_S.rf
  have hl := lv_entry ([.ref Ad1, .int 0]) (n := 3) (Nat.le_of_ble_eq_true rfl)
  rw [lg_entry_eq]
  generalize (lg_sl ([.ref Ad1, .int 0]) ++ List.replicate (3 - (lg_sl ([.ref Ad1, .int 0])).length) Slot.unset).toArray = ls at hl ⊢
  have hl : lv_has ls 3 [(0, .ref Ad1), (1, .int 0)] := hl
  have o_Fs0 := ow_0 k_Fs0
  have o_Fs1 := ow_0 k_Fs1
  refine lv_aload_n hx hb dX6_readSet_0 rfl (lv_at hl 0 rfl) ?_
  refine va_get (D := (dC, dI)) (ci := 9) (v := .ref Ad0) (C := RX6) (T := TX6) (N := 19) hx hb hts (in_z_X6_readSet_X6) hown hK hP 1 rfl rfl 0 (by decide) (hts (.fieldLink RX6 9 "HeapWorks$Program" "tape" "LHeapWorks$Tape;") (by decide +kernel)) (fun _ h9 => h9) (ow_at o_Fs1 0 rfl) dX6_readSet_1 ?_
  refine va_get (D := (dC, dI)) (ci := 12) (v := .int 0) (C := RX9) (T := TX9) (N := 12) hx hb hts (in_z_X6_readSet_X9) hown hK hP 0 rfl rfl 9 (by decide) (hts (.fieldLink RX6 45 "HeapWorks$Tape" "word" "I") (by decide +kernel)) (fun _ h9 => h9) (ow_at o_Fs0 1 rfl) dX6_readSet_4 ?_
  refine lv_istore_n (lv' := [(2, .int 0), (0, .ref Ad1), (1, .int 0)]) hx hb dX6_readSet_7 rfl hl (by decide) rfl (fun ls hl => ?_)
  refine lv_iload_n hx hb dX6_readSet_8 rfl (lv_at hl 0 rfl) ?_
  refine lv_bipush (v := 30) hx hb dX6_readSet_9 (by decide) ?_
  refine lv_icmp_eq (tgt := 49) hx hb dX6_readSet_11 (by decide) (fun c6145 => absurd c6145 (by decide)) (fun c6145 => ?_)
  refine lv_iload_n hx hb dX6_readSet_14 rfl (lv_at hl 0 rfl) ?_
  refine lv_bipush (v := 31) hx hb dX6_readSet_15 (by decide) ?_
  refine lv_icmp_eq (tgt := 49) hx hb dX6_readSet_17 (by decide) (fun c6146 => absurd c6146 (by decide)) (fun c6146 => ?_)
  refine lv_iload_n hx hb dX6_readSet_20 rfl (lv_at hl 0 rfl) ?_
  refine lv_bipush (v := 32) hx hb dX6_readSet_21 (by decide) ?_
  refine lv_icmp_eq (tgt := 49) hx hb dX6_readSet_23 (by decide) (fun c6147 => absurd c6147 (by decide)) (fun c6147 => ?_)
  refine lv_iload_n hx hb dX6_readSet_26 rfl (lv_at hl 0 rfl) ?_
  refine lv_bipush (v := 55) hx hb dX6_readSet_27 (by decide) ?_
  refine lv_icmp_eq (tgt := 49) hx hb dX6_readSet_29 (by decide) (fun c6148 => absurd c6148 (by decide)) (fun c6148 => ?_)
  refine lv_iload_n hx hb dX6_readSet_32 rfl (lv_at hl 0 rfl) ?_
  refine lv_bipush (v := 56) hx hb dX6_readSet_33 (by decide) ?_
  refine lv_icmp_eq (tgt := 49) hx hb dX6_readSet_35 (by decide) (fun c6149 => absurd c6149 (by decide)) (fun c6149 => ?_)
  refine lv_iload_n hx hb dX6_readSet_38 rfl (lv_at hl 0 rfl) ?_
  refine lv_bipush (v := 57) hx hb dX6_readSet_39 (by decide) ?_
  refine lv_icmp_eq (tgt := 49) hx hb dX6_readSet_41 (by decide) (fun c6150 => absurd c6150 (by decide)) (fun c6150 => ?_)
  refine lv_aload_n hx hb dX6_readSet_44 rfl (lv_at hl 1 rfl) ?_
  have hPc := hP.sub (ws' := [(Ad0, .inr (12, Fs0)), (Ad1, .inr (9, Fs1))]) [0, 1] rfl
  have hDc := hD.sub (ws' := [(Ad0, .inr (12, Fs0)), (Ad1, .inr (9, Fs1))]) [0, 1] (by decide) rfl
  have hKc := hK.sub (tys' := []) [] rfl
  have hFc := va_free (wc := [(Ad0, .inr (12, Fs0)), (Ad1, .inr (9, Fs1))]) hD hS hA [0, 1] rfl
  refine va_calli (va_runV (As := []) (rest := []) ⟨hx, hb, hml, hown, hts⟩ (z_X6_refuse l dC dI s.heap.size Ad0 Fs0 Ad1 Fs1 (fh_sub o_Fs0.2 [0, 1] rfl) (fh_sub o_Fs1.2 [0, 0] rfl) ) (cwV 0 hts g_z_X6_readSet_z_X6_refuse_51 rfl rfl rfl (by decide +kernel) ⟨Nat.le_of_ble_eq_true rfl, Nat.le_of_ble_eq_true rfl⟩) ⟨fun a U g mk q => by obtain ⟨q0, q1, qP, qK, qD⟩ := q; exact ⟨q0, q1, qP, va_K.moved (u := U) (U := U.calling g mk a) (Vm.Alike.refl U.vm) qK, qD⟩, va_recv hK hP (ci := 9) (q0 := 1) rfl rfl, fun U hU hW => ⟨rfl, by rw [hU], by rw [hU]; exact hPc, va_K.moved hW.alike hKc, hDc.weaken (fun _ _ _ _ => trivial)⟩⟩ rfl rfl hl.1 rfl (lv_room (Nat.le_of_ble_eq_true rfl)) dX6_readSet_45 ⟨Nat.le_of_ble_eq_true rfl, Nat.le_of_ble_eq_true rfl⟩) hS (fun q _ h => hFc q h) hFc (fun r6157 u t H1 locs ht hvm hw hB hz1 hk1 hS => ?_)
  obtain ⟨s6158, rfl⟩ : ∃ z, z = u := ⟨_, rfl⟩
  obtain ⟨hP1, hK1, hD1⟩ := hB
  rw [ht] at hP1
  try dsimp only at hw
  obtain ⟨hP, hD⟩ := va_join (wr := []) (w1 := [(Ad0, .inr (12, Fs0)), (Ad1, .inr (9, s6158))]) hP hD [0, 1] [] rfl rfl (by decide) (by decide) hk1 hFc hP1 hD1
  have hK := hK.sub (tys' := []) [] rfl
  generalize H1 = H at hP hS ⊢
  have hP : va_P (dC, dI) vwCl [(Ad0, .inr (12, Fs0)), (Ad1, .inr (9, s6158))] H := hP
  have hD : va_D A [(Ad0, .inr (12, Fs0)), (Ad1, .inr (9, s6158))] := hD
  obtain ⟨er6159, o_s6158⟩ := hw
  subst er6159
  have o_s6158 := ow_on o_Fs1 o_s6158 (l' := [(7, .int 0), (6, .int 1), (0, .ref Ad0), (0, .ref Ad0), (0, .ref Ad0), (0, .ref Ad0), (0, .ref Ad0), (0, .ref Ad0)]) (w' := [7, 6]) rfl rfl
  have hP9 := hP.sub (ws' := [(Ad0, .inr (12, Fs0)), (Ad1, .inr (9, s6158))]) [0, 1] rfl
  have hD9 := hD.sub (ws' := [(Ad0, .inr (12, Fs0)), (Ad1, .inr (9, s6158))]) [0, 1] (by decide) rfl
  have hK9 := hK.sub (tys' := []) [] rfl
  exact W.zret (v := 0) hx hb hr rfl (fun t ht hW => ⟨⟨0, s6158, rfl, ⟨rfl, o_s6158⟩, by rw [ht]; exact hP9, va_K.moved hW.alike hK9, hD9⟩, hS.F ht⟩) hS.2.2 dX6_readSet_48

def l_z_X6_readQuestion : List Cond := [.methodLink RX6 38 yX6_start, .instanceMethod yX6_start, .selects RX6 yX6_start yX6_start, .initialized RX6, .methodLink RX6 54 yX6_readSet, .instanceMethod yX6_readSet, .selects RX6 yX6_readSet yX6_readSet, .code yX6_start cX6_start 1 none, .fieldLink RX6 72 "HeapWorks$Program" "steps" "I", .fieldLink RX6 75 "HeapWorks$Program" "fault" "I", .fieldLink RX6 78 "HeapWorks$Program" "place" "I", .fieldLink RX6 81 "HeapWorks$Program" "usesHolders" "Z", .fieldLink RX6 84 "HeapWorks$Program" "usesKept" "Z", .fieldLink RX6 87 "HeapWorks$Program" "nodes" "I", .fieldLink RX6 90 "HeapWorks$Program" "nest" "I", .fieldLink RX6 93 "HeapWorks$Program" "folds" "I", .fieldLink RX6 62 "HeapWorks$Program" "itKnown" "Z", .fieldLink RX6 96 "HeapWorks$Program" "scopes" "I", .fieldLink RX6 99 "HeapWorks$Program" "waits" "I", .fieldLink RX6 9 "HeapWorks$Program" "tape" "LHeapWorks$Tape;", .methodLink RX6 102 yX9_startWords, .instanceMethod yX9_startWords, .selects RX9 yX9_startWords yX9_startWords, .initialized RX9, .code yX9_startWords cX9_startWords 2 none, .fieldLink RX9 69 "HeapWorks$Tape" "at" "I", .methodLink RX9 72 yX9_scanWord, .instanceMethod yX9_scanWord, .selects RX9 yX9_scanWord yX9_scanWord, .fieldLink RX9 18 "HeapWorks$Tape" "words" "[I", .fieldLink RX9 75 "HeapWorks$Tape" "word" "I", .fieldLink RX9 21 "HeapWorks$Tape" "places" "[I", .fieldLink RX9 78 "HeapWorks$Tape" "place" "I", .fieldLink RX9 24 "HeapWorks$Tape" "codes" "[J", .fieldLink RX9 81 "HeapWorks$Tape" "code" "J", .fieldLink RX9 85 "HeapWorks$Tape" "next" "I", .methodLink RX9 88 yX9_nextWord, .instanceMethod yX9_nextWord, .selects RX9 yX9_nextWord yX9_nextWord, .code yX9_scanWord cX9_scanWord 1 none, .fieldLink RX9 49 "HeapWorks$Tape" "size" "I", .code yX9_nextWord cX9_nextWord 1 none, .code yX6_readSet cX6_readSet 3 (some .boolean), .fieldLink RX6 45 "HeapWorks$Tape" "word" "I", .methodLink RX6 51 yX6_refuse, .instanceMethod yX6_refuse, .selects RX6 yX6_refuse yX6_refuse, .code yX6_refuse cX6_refuse 1 (some .boolean), .methodLink RX6 112 yX6_fail, .instanceMethod yX6_fail, .selects RX6 yX6_fail yX6_fail, .code yX6_fail cX6_fail 2 (some .boolean), .fieldLink RX6 111 "HeapWorks$Tape" "place" "I"]
def w_z_X6_readQuestion : List Cond := .code yX6_readQuestion cX6_readQuestion 2 (some .boolean) :: (l_z_X6_readQuestion ++ ((wsX60 ++ wsX90)))
theorem in_z_X6_readQuestion_X6 : ∀ w ∈ wsX60, w ∈ w_z_X6_readQuestion := fun w h => List.mem_cons_of_mem _ (List.mem_append_right _ (List.mem_append_left _ h))
theorem in_z_X6_readQuestion_X9 : ∀ w ∈ wsX90, w ∈ w_z_X6_readQuestion := fun w h => List.mem_cons_of_mem _ (List.mem_append_right _ (List.mem_append_right _ (h)))
theorem g_z_X6_readQuestion_z_X6_start_38 : GoodIn w_z_X6_readQuestion (wsV RX6 38 RX6 yX6_start w_z_X6_start) := goodIn_app (goodIn_sub (by decide +kernel) (by decide +kernel)) (goodIn_ca (goodIn_sub (by decide +kernel) (by decide +kernel)) (goodIn_app (goodIn_in in_z_X6_readQuestion_X6 gd_X6) (goodIn_in in_z_X6_readQuestion_X9 gd_X9)))
theorem g_z_X6_readQuestion_z_X6_readSet_54 : GoodIn w_z_X6_readQuestion (wsV RX6 54 RX6 yX6_readSet w_z_X6_readSet) := goodIn_app (goodIn_sub (by decide +kernel) (by decide +kernel)) (goodIn_ca (goodIn_sub (by decide +kernel) (by decide +kernel)) (goodIn_app (goodIn_in in_z_X6_readQuestion_X6 gd_X6) (goodIn_in in_z_X6_readQuestion_X9 gd_X9)))
set_option maxHeartbeats 4000000 in
set_option maxRecDepth 100000 in
theorem z_X6_readQuestion (l : Launch) (dC : Nat → ClassId) (dI : Nat → Nat → Nat) (sz : Nat) (Ad0 : Nat) (Fs0 : List Value) (Ad1 : Nat) (Fa0 : Nat → Int32) (Ka0 : ClassId) (Ad2 : Nat) (Fa1 : Nat → Int32) (Ka1 : ClassId) (Ad3 : Nat) (Fa2 : Nat → Int64) (Ka2 : ClassId) (Ad4 : Nat) (Fs1 : List Value) (k_Fs0 : fh Fs0 12 [(1, .int 0), (5, .ref Ad1), (6, .ref Ad2), (7, .ref Ad3)]) (k_Fs1 : fh Fs1 19 [(0, .ref Ad0)])  : Met l yX6_readQuestion w_z_X6_readQuestion ({ frames := 3, cells := 0, slots := 0, locals := 63 }) (va_Pc [.ref Ad4] (fun U => U.heap.size = sz ∧ Wd dC dI [(Ka0, .int), (Ka1, .int), (Ka2, .long)] (fun _ => True) [(Ad0, .inr (12, Fs0)), (Ad1, .inl (Ka0, 4001, .inl Fa0)), (Ad2, .inl (Ka1, 4001, .inl Fa1)), (Ad3, .inl (Ka2, 4001, .inr (.inl Fa2))), (Ad4, .inr (9, Fs1))] U)) (va_Qi (fun (r : Int32) (u : List Value × (Nat → Int32) × (Nat → Int32) × (Nat → Int64) × List Value) => (r = 0 ∧ ow Fs0 (u.1) 12 [11, 10, 9, 8, 4] [(11, .long 0), (10, .int 0), (9, .int 0), (8, .int 0), (5, .ref Ad1), (6, .ref Ad2), (7, .ref Ad3), (8, .int 0), (4, .int 0), (1, .int 0), (4, .int 0), (1, .int 0), (5, .ref Ad1), (6, .ref Ad2), (7, .ref Ad3), (1, .int 0), (5, .ref Ad1), (6, .ref Ad2), (7, .ref Ad3), (1, .int 0), (5, .ref Ad1), (6, .ref Ad2), (7, .ref Ad3)] ∧ ow Fs1 (u.2.2.2.2) 19 [7, 6, 18, 16, 13, 12, 11, 10, 9, 8, 5] [(7, .int 0), (6, .int 1), (0, .ref Ad0), (0, .ref Ad0), (0, .ref Ad0), (0, .ref Ad0), (0, .ref Ad0), (0, .ref Ad0), (18, .int 0), (16, .int 0), (13, .int 0), (12, .int 0), (11, .int 0), (10, .int 0), (9, .int 0), (8, .int 0), (5, .int 0), (0, .ref Ad0), (0, .ref Ad0)] ∧ (u.2.1) (0 : Int32).toNatClampNeg = 0 ∧ (u.2.2.1) (0 : Int32).toNatClampNeg = 0 ∧ (u.2.2.2.1) (0 : Int32).toNatClampNeg = 0)) (fun (u : List Value × (Nat → Int32) × (Nat → Int32) × (Nat → Int64) × List Value) t => Wd dC dI [(Ka0, .int), (Ka1, .int), (Ka2, .long)] (va_A [(Ad0, .inr (12, Fs0)), (Ad1, .inl (Ka0, 4001, .inl Fa0)), (Ad2, .inl (Ka1, 4001, .inl Fa1)), (Ad3, .inl (Ka2, 4001, .inr (.inl Fa2))), (Ad4, .inr (9, Fs1))] sz) [(Ad0, .inr (12, (u.1))), (Ad1, .inl (Ka0, 4001, .inl ((u.2.1)))), (Ad2, .inl (Ka1, 4001, .inl ((u.2.2.1)))), (Ad3, .inl (Ka2, 4001, .inr (.inl ((u.2.2.2.1))))), (Ad4, .inr (9, (u.2.2.2.2)))] t) (va_A [(Ad0, .inr (12, Fs0)), (Ad1, .inl (Ka0, 4001, .inl Fa0)), (Ad2, .inl (Ka1, 4001, .inl Fa1)), (Ad3, .inl (Ka2, 4001, .inr (.inl Fa2))), (Ad4, .inr (9, Fs1))] sz))  0 0 (va_A [(Ad0, .inr (12, Fs0)), (Ad1, .inl (Ka0, 4001, .inl Fa0)), (Ad2, .inl (Ka1, 4001, .inl Fa1)), (Ad3, .inl (Ka2, 4001, .inr (.inl Fa2))), (Ad4, .inr (9, Fs1))] sz) := by
  refine Met.ofW (cc := cX6_readQuestion) (maxL := 2) (ret := (some .boolean)) (by decide) rfl ?_
  intro p e s m args below meth c s₁ B hml hv
  obtain ⟨rfl, hsz, hP, hK, hD0⟩ := hv
  have hx := B.exec
  have hb := B.bytes
  have hr := B.returns
  have hts := atoms_spec (ws := w_z_X6_readQuestion) B.pre
  have hown : s.vm.findClass RX6 = some m.cls := findClass_of_methodNamed B.named
  have hlocks := B.notSynchronized
  subst hsz
  have hD := hD0.self (sz := s.heap.size)
  generalize hAe : va_A [(Ad0, .inr (12, Fs0)), (Ad1, .inl (Ka0, 4001, .inl Fa0)), (Ad2, .inl (Ka1, 4001, .inl Fa1)), (Ad3, .inl (Ka2, 4001, .inr (.inl Fa2))), (Ad4, .inr (9, Fs1))] s.heap.size = A at hD ⊢
  have hA : ∀ q : Nat, s.heap.size ≤ q → A q := fun q h => by rw [← hAe]; exact Or.inr h
  have hS : va_S A s.heap s.heap [] := va_S.rf
  have hl := lv_entry ([.ref Ad4]) (n := 2) (Nat.le_of_ble_eq_true rfl)
  rw [lg_entry_eq]
  generalize (lg_sl ([.ref Ad4]) ++ List.replicate (2 - (lg_sl ([.ref Ad4])).length) Slot.unset).toArray = ls at hl ⊢
  have hl : lv_has ls 2 [(0, .ref Ad4)] := hl
  have o_Fs0 := ow_0 k_Fs0
  have o_Fs1 := ow_0 k_Fs1
  refine lv_aload_n hx hb dX6_readQuestion_0 rfl (lv_at hl 0 rfl) ?_
  have hPc := hP.sub (ws' := [(Ad0, .inr (12, Fs0)), (Ad1, .inl (Ka0, 4001, .inl Fa0)), (Ad2, .inl (Ka1, 4001, .inl Fa1)), (Ad3, .inl (Ka2, 4001, .inr (.inl Fa2))), (Ad4, .inr (9, Fs1))]) [0, 1, 2, 3, 4] rfl
  have hDc := hD.sub (ws' := [(Ad0, .inr (12, Fs0)), (Ad1, .inl (Ka0, 4001, .inl Fa0)), (Ad2, .inl (Ka1, 4001, .inl Fa1)), (Ad3, .inl (Ka2, 4001, .inr (.inl Fa2))), (Ad4, .inr (9, Fs1))]) [0, 1, 2, 3, 4] (by decide) rfl
  have hKc := hK.sub (tys' := [(Ka0, .int), (Ka1, .int), (Ka2, .long)]) [0, 1, 2] rfl
  have hFc := va_free (wc := [(Ad0, .inr (12, Fs0)), (Ad1, .inl (Ka0, 4001, .inl Fa0)), (Ad2, .inl (Ka1, 4001, .inl Fa1)), (Ad3, .inl (Ka2, 4001, .inr (.inl Fa2))), (Ad4, .inr (9, Fs1))]) hD hS hA [0, 1, 2, 3, 4] rfl
  refine va_callv (va_runV (As := []) (rest := []) ⟨hx, hb, hml, hown, hts⟩ (z_X6_start l dC dI s.heap.size Ad0 Fs0 Ad1 Fa0 Ka0 Ad2 Fa1 Ka1 Ad3 Fa2 Ka2 Ad4 Fs1 (fh_sub o_Fs0.2 [0, 1, 2, 3] rfl) (fh_sub o_Fs1.2 [0] rfl) ) (cwV 0 hts g_z_X6_readQuestion_z_X6_start_38 rfl rfl rfl (by decide +kernel) ⟨Nat.le_of_ble_eq_true rfl, Nat.le_of_ble_eq_true rfl⟩) ⟨fun a U g mk q => by obtain ⟨q0, q1, qP, qK, qD⟩ := q; exact ⟨q0, q1, qP, va_K.moved (u := U) (U := U.calling g mk a) (Vm.Alike.refl U.vm) qK, qD⟩, va_recv hK hP (ci := 9) (q0 := 4) rfl rfl, fun U hU hW => ⟨rfl, by rw [hU], by rw [hU]; exact hPc, va_K.moved hW.alike hKc, hDc.weaken (fun _ _ _ _ => trivial)⟩⟩ rfl rfl hl.1 rfl (lv_room (Nat.le_of_ble_eq_true rfl)) dX6_readQuestion_1 ⟨Nat.le_of_ble_eq_true rfl, Nat.le_of_ble_eq_true rfl⟩) hS (fun q _ h => hFc q h) hFc (fun u t H1 locs ht hvm hw hB hz1 hk1 hS => ?_)
  obtain ⟨s6205, f6206, f6207, f6208, s6209⟩ := u
  obtain ⟨hP1, hK1, hD1⟩ := hB
  rw [ht] at hP1
  try dsimp only at hw
  obtain ⟨hP, hD⟩ := va_join (wr := []) (w1 := [(Ad0, .inr (12, s6205)), (Ad1, .inl (Ka0, 4001, .inl f6206)), (Ad2, .inl (Ka1, 4001, .inl f6207)), (Ad3, .inl (Ka2, 4001, .inr (.inl f6208))), (Ad4, .inr (9, s6209))]) hP hD [0, 1, 2, 3, 4] [] rfl rfl (by decide) (by decide) hk1 hFc hP1 hD1
  have hK := hK.sub (tys' := [(Ka0, .int), (Ka1, .int), (Ka2, .long)]) [0, 1, 2] rfl
  generalize H1 = H at hP hS ⊢
  have hP : va_P (dC, dI) vwCl [(Ad0, .inr (12, s6205)), (Ad1, .inl (Ka0, 4001, .inl f6206)), (Ad2, .inl (Ka1, 4001, .inl f6207)), (Ad3, .inl (Ka2, 4001, .inr (.inl f6208))), (Ad4, .inr (9, s6209))] H := hP
  have hD : va_D A [(Ad0, .inr (12, s6205)), (Ad1, .inl (Ka0, 4001, .inl f6206)), (Ad2, .inl (Ka1, 4001, .inl f6207)), (Ad3, .inl (Ka2, 4001, .inr (.inl f6208))), (Ad4, .inr (9, s6209))] := hD
  obtain ⟨o_s6205, o_s6209, q6210, q6211, q6212⟩ := hw
  have o_s6205 := ow_on o_Fs0 o_s6205 (l' := [(11, .long 0), (10, .int 0), (9, .int 0), (8, .int 0), (5, .ref Ad1), (6, .ref Ad2), (7, .ref Ad3), (8, .int 0), (4, .int 0), (1, .int 0), (4, .int 0), (1, .int 0), (5, .ref Ad1), (6, .ref Ad2), (7, .ref Ad3), (1, .int 0), (5, .ref Ad1), (6, .ref Ad2), (7, .ref Ad3), (1, .int 0), (5, .ref Ad1), (6, .ref Ad2), (7, .ref Ad3)]) (w' := [11, 10, 9, 8, 4]) rfl rfl
  have o_s6209 := ow_on o_Fs1 o_s6209 (l' := [(18, .int 0), (16, .int 0), (13, .int 0), (12, .int 0), (11, .int 0), (10, .int 0), (9, .int 0), (8, .int 0), (7, .int (-1)), (6, .int 0), (5, .int 0), (0, .ref Ad0), (0, .ref Ad0)]) (w' := [18, 16, 13, 12, 11, 10, 9, 8, 7, 6, 5]) rfl rfl
  refine lv_aload_n hx hb dX6_readQuestion_4 rfl (lv_at hl 0 rfl) ?_
  refine lv_iconst (v := 0) hx hb dX6_readQuestion_5 (by decide) ?_
  have hPc := hP.sub (ws' := [(Ad0, .inr (12, s6205)), (Ad4, .inr (9, s6209))]) [0, 4] rfl
  have hDc := hD.sub (ws' := [(Ad0, .inr (12, s6205)), (Ad4, .inr (9, s6209))]) [0, 4] (by decide) rfl
  have hKc := hK.sub (tys' := []) [] rfl
  have hFc := va_free (wc := [(Ad0, .inr (12, s6205)), (Ad4, .inr (9, s6209))]) hD hS hA [0, 4] rfl
  refine va_calli (va_runV (As := [.int 0]) (rest := []) ⟨hx, hb, hml, hown, hts⟩ (z_X6_readSet l dC dI H.size Ad0 s6205 Ad4 s6209 (fh_sub o_s6205.2 [1, 2] rfl) (fh_sub o_s6209.2 [11, 11] rfl) ) (cwV 1 hts g_z_X6_readQuestion_z_X6_readSet_54 rfl rfl rfl (by decide +kernel) ⟨Nat.le_of_ble_eq_true rfl, Nat.le_of_ble_eq_true rfl⟩) ⟨fun a U g mk q => by obtain ⟨q0, q1, qP, qK, qD⟩ := q; exact ⟨q0, q1, qP, va_K.moved (u := U) (U := U.calling g mk a) (Vm.Alike.refl U.vm) qK, qD⟩, va_recv hK hP (ci := 9) (q0 := 4) rfl rfl, fun U hU hW => ⟨rfl, by rw [hU], by rw [hU]; exact hPc, va_K.moved hW.alike hKc, hDc.weaken (fun _ _ _ _ => trivial)⟩⟩ rfl rfl hl.1 rfl (lv_room (Nat.le_of_ble_eq_true rfl)) dX6_readQuestion_6 ⟨Nat.le_of_ble_eq_true rfl, Nat.le_of_ble_eq_true rfl⟩) hS (fun q _ h => hFc q h) hFc (fun r6228 u t H1 locs ht hvm hw hB hz1 hk1 hS => ?_)
  obtain ⟨s6229, rfl⟩ : ∃ z, z = u := ⟨_, rfl⟩
  obtain ⟨hP1, hK1, hD1⟩ := hB
  rw [ht] at hP1
  try dsimp only at hw
  obtain ⟨hP, hD⟩ := va_join (wr := [(Ad1, .inl (Ka0, 4001, .inl f6206)), (Ad2, .inl (Ka1, 4001, .inl f6207)), (Ad3, .inl (Ka2, 4001, .inr (.inl f6208)))]) (w1 := [(Ad0, .inr (12, s6205)), (Ad4, .inr (9, s6229))]) hP hD [0, 4] [1, 2, 3] rfl rfl (by decide) (by decide) hk1 hFc hP1 hD1
  have hK := hK.sub (tys' := [(Ka0, .int), (Ka1, .int), (Ka2, .long)]) [0, 1, 2] rfl
  generalize H1 = H at hP hS ⊢
  have hP : va_P (dC, dI) vwCl [(Ad1, .inl (Ka0, 4001, .inl f6206)), (Ad2, .inl (Ka1, 4001, .inl f6207)), (Ad3, .inl (Ka2, 4001, .inr (.inl f6208))), (Ad0, .inr (12, s6205)), (Ad4, .inr (9, s6229))] H := hP
  have hD : va_D A [(Ad1, .inl (Ka0, 4001, .inl f6206)), (Ad2, .inl (Ka1, 4001, .inl f6207)), (Ad3, .inl (Ka2, 4001, .inr (.inl f6208))), (Ad0, .inr (12, s6205)), (Ad4, .inr (9, s6229))] := hD
  obtain ⟨er6230, o_s6229⟩ := hw
  subst er6230
  have o_s6229 := ow_on o_s6209 o_s6229 (l' := [(7, .int 0), (6, .int 1), (0, .ref Ad0), (0, .ref Ad0), (0, .ref Ad0), (0, .ref Ad0), (0, .ref Ad0), (0, .ref Ad0), (18, .int 0), (16, .int 0), (13, .int 0), (12, .int 0), (11, .int 0), (10, .int 0), (9, .int 0), (8, .int 0), (5, .int 0), (0, .ref Ad0), (0, .ref Ad0)]) (w' := [7, 6, 18, 16, 13, 12, 11, 10, 9, 8, 5]) rfl rfl
  refine lv_if_ne (tgt := 14) hx hb dX6_readQuestion_9 (by decide) (fun c6231 => absurd c6231 (by decide)) (fun c6231 => ?_)
  refine lv_iconst (v := 0) hx hb dX6_readQuestion_12 (by decide) ?_
  have hP9 := hP.sub (ws' := [(Ad0, .inr (12, s6205)), (Ad1, .inl (Ka0, 4001, .inl f6206)), (Ad2, .inl (Ka1, 4001, .inl f6207)), (Ad3, .inl (Ka2, 4001, .inr (.inl f6208))), (Ad4, .inr (9, s6229))]) [3, 0, 1, 2, 4] rfl
  have hD9 := hD.sub (ws' := [(Ad0, .inr (12, s6205)), (Ad1, .inl (Ka0, 4001, .inl f6206)), (Ad2, .inl (Ka1, 4001, .inl f6207)), (Ad3, .inl (Ka2, 4001, .inr (.inl f6208))), (Ad4, .inr (9, s6229))]) [3, 0, 1, 2, 4] (by decide) rfl
  have hK9 := hK.sub (tys' := [(Ka0, .int), (Ka1, .int), (Ka2, .long)]) [0, 1, 2] rfl
  exact W.zret (v := 0) hx hb hr rfl (fun t ht hW => ⟨⟨0, (s6205, f6206, f6207, f6208, s6229), rfl, ⟨rfl, o_s6205, o_s6229, q6210, q6211, q6212⟩, by rw [ht]; exact hP9, va_K.moved hW.alike hK9, hD9⟩, hS.F ht⟩) hS.2.2 dX6_readQuestion_13

def l_x_ask : List Cond := [.methodLink RX11 353 yX11_needPicture, .static yX11_needPicture, .initialized RX11, .fieldLink RX11 62 "HeapWorks" "machine" "LHeapWorks$Machine;", .fieldLink RX11 464 "HeapWorks$Machine" "rowCount" "I", .fieldLink RX11 55 "HeapWorks" "question" "LHeapWorks$Program;", .methodLink RX11 466 yX6_readQuestion, .instanceMethod yX6_readQuestion, .selects RX6 yX6_readQuestion yX6_readQuestion, .initialized RX6, .fieldLink RX11 333 "HeapWorks$Program" "fault" "I", .fieldLink RX11 336 "HeapWorks$Program" "place" "I", .methodLink RX11 339 yX11_tellFault, .instanceMethod yX11_tellFault, .selects RX11 yX11_tellFault yX11_tellFault, .fieldLink RX11 469 "HeapWorks" "faultCode" "I", .classLink RX11 127 "java/lang/IllegalArgumentException", .initialized "java/lang/IllegalArgumentException", .code yX11_needPicture cX11_needPicture 1 none, .methodLink RX11 411 yX11_isPicture, .static yX11_isPicture, .classLink RX11 120 "java/lang/IndexOutOfBoundsException", .initialized "java/lang/IndexOutOfBoundsException", .code yX11_isPicture cX11_isPicture 1 (some .boolean), .code yX6_readQuestion cX6_readQuestion 2 (some .boolean), .methodLink RX6 38 yX6_start, .instanceMethod yX6_start, .selects RX6 yX6_start yX6_start, .methodLink RX6 54 yX6_readSet, .instanceMethod yX6_readSet, .selects RX6 yX6_readSet yX6_readSet, .code yX6_start cX6_start 1 none, .fieldLink RX6 72 "HeapWorks$Program" "steps" "I", .fieldLink RX6 75 "HeapWorks$Program" "fault" "I", .fieldLink RX6 78 "HeapWorks$Program" "place" "I", .fieldLink RX6 81 "HeapWorks$Program" "usesHolders" "Z", .fieldLink RX6 84 "HeapWorks$Program" "usesKept" "Z", .fieldLink RX6 87 "HeapWorks$Program" "nodes" "I", .fieldLink RX6 90 "HeapWorks$Program" "nest" "I", .fieldLink RX6 93 "HeapWorks$Program" "folds" "I", .fieldLink RX6 62 "HeapWorks$Program" "itKnown" "Z", .fieldLink RX6 96 "HeapWorks$Program" "scopes" "I", .fieldLink RX6 99 "HeapWorks$Program" "waits" "I", .fieldLink RX6 9 "HeapWorks$Program" "tape" "LHeapWorks$Tape;", .methodLink RX6 102 yX9_startWords, .instanceMethod yX9_startWords, .selects RX9 yX9_startWords yX9_startWords, .initialized RX9, .code yX9_startWords cX9_startWords 2 none, .fieldLink RX9 69 "HeapWorks$Tape" "at" "I", .methodLink RX9 72 yX9_scanWord, .instanceMethod yX9_scanWord, .selects RX9 yX9_scanWord yX9_scanWord, .fieldLink RX9 18 "HeapWorks$Tape" "words" "[I", .fieldLink RX9 75 "HeapWorks$Tape" "word" "I", .fieldLink RX9 21 "HeapWorks$Tape" "places" "[I", .fieldLink RX9 78 "HeapWorks$Tape" "place" "I", .fieldLink RX9 24 "HeapWorks$Tape" "codes" "[J", .fieldLink RX9 81 "HeapWorks$Tape" "code" "J", .fieldLink RX9 85 "HeapWorks$Tape" "next" "I", .methodLink RX9 88 yX9_nextWord, .instanceMethod yX9_nextWord, .selects RX9 yX9_nextWord yX9_nextWord, .code yX9_scanWord cX9_scanWord 1 none, .fieldLink RX9 49 "HeapWorks$Tape" "size" "I", .code yX9_nextWord cX9_nextWord 1 none, .code yX6_readSet cX6_readSet 3 (some .boolean), .fieldLink RX6 45 "HeapWorks$Tape" "word" "I", .methodLink RX6 51 yX6_refuse, .instanceMethod yX6_refuse, .selects RX6 yX6_refuse yX6_refuse, .code yX6_refuse cX6_refuse 1 (some .boolean), .methodLink RX6 112 yX6_fail, .instanceMethod yX6_fail, .selects RX6 yX6_fail yX6_fail, .code yX6_fail cX6_fail 2 (some .boolean), .fieldLink RX6 111 "HeapWorks$Tape" "place" "I", .code yX11_tellFault cX11_tellFault 3 none, .fieldLink RX11 98 "HeapWorks" "faultPlace" "I"]
def w_x_ask : List Cond := .code yX11_ask cX11_ask 3 (some .int) :: (l_x_ask ++ ((wsX110 ++ (wsX40 ++ (wsX60 ++ (((vx_at0 RX11 129 "java/lang/IllegalArgumentException" ["java/lang/RuntimeException", "java/lang/Exception"]).filter goodWord) ++ (((vx_at0 RX11 122 "java/lang/IndexOutOfBoundsException" ["java/lang/RuntimeException", "java/lang/Exception"]).filter goodWord) ++ wsX90)))))))
theorem in_x_ask_X11 : ∀ w ∈ wsX110, w ∈ w_x_ask := fun w h => List.mem_cons_of_mem _ (List.mem_append_right _ (List.mem_append_left _ h))
theorem in_x_ask_X4 : ∀ w ∈ wsX40, w ∈ w_x_ask := fun w h => List.mem_cons_of_mem _ (List.mem_append_right _ (List.mem_append_right _ (List.mem_append_left _ h)))
theorem in_x_ask_X6 : ∀ w ∈ wsX60, w ∈ w_x_ask := fun w h => List.mem_cons_of_mem _ (List.mem_append_right _ (List.mem_append_right _ (List.mem_append_right _ (List.mem_append_left _ h))))
theorem in_x_ask_at0_X11_129 : ∀ w ∈ ((vx_at0 RX11 129 "java/lang/IllegalArgumentException" ["java/lang/RuntimeException", "java/lang/Exception"]).filter goodWord), w ∈ w_x_ask := fun w h => List.mem_cons_of_mem _ (List.mem_append_right _ (List.mem_append_right _ (List.mem_append_right _ (List.mem_append_right _ (List.mem_append_left _ h)))))
theorem in_x_ask_at0_X11_122 : ∀ w ∈ ((vx_at0 RX11 122 "java/lang/IndexOutOfBoundsException" ["java/lang/RuntimeException", "java/lang/Exception"]).filter goodWord), w ∈ w_x_ask := fun w h => List.mem_cons_of_mem _ (List.mem_append_right _ (List.mem_append_right _ (List.mem_append_right _ (List.mem_append_right _ (List.mem_append_right _ (List.mem_append_left _ h))))))
theorem in_x_ask_X9 : ∀ w ∈ wsX90, w ∈ w_x_ask := fun w h => List.mem_cons_of_mem _ (List.mem_append_right _ (List.mem_append_right _ (List.mem_append_right _ (List.mem_append_right _ (List.mem_append_right _ (List.mem_append_right _ (h)))))))
theorem g_x_ask_z_X11_needPicture_353 : GoodIn w_x_ask (wsS RX11 353 yX11_needPicture w_z_X11_needPicture) := goodIn_app (goodIn_sub (by decide +kernel) (by decide +kernel)) (goodIn_ca (goodIn_sub (by decide +kernel) (by decide +kernel)) (goodIn_in in_x_ask_at0_X11_122 gd_at0_X11_122))
theorem g_x_ask_z_X6_readQuestion_466 : GoodIn w_x_ask (wsV RX11 466 RX6 yX6_readQuestion w_z_X6_readQuestion) := goodIn_app (goodIn_sub (by decide +kernel) (by decide +kernel)) (goodIn_ca (goodIn_sub (by decide +kernel) (by decide +kernel)) (goodIn_app (goodIn_in in_x_ask_X6 gd_X6) (goodIn_in in_x_ask_X9 gd_X9)))
theorem g_x_ask_z_X11_tellFault_339 : GoodIn w_x_ask (wsV RX11 339 RX11 yX11_tellFault w_z_X11_tellFault) := goodIn_app (goodIn_sub (by decide +kernel) (by decide +kernel)) (goodIn_ca (goodIn_sub (by decide +kernel) (by decide +kernel)) (goodIn_in in_x_ask_X11 gd_X11))
set_option maxHeartbeats 4000000 in
set_option maxRecDepth 100000 in
theorem x_ask (l : Launch) (dC : Nat → ClassId) (dI : Nat → Nat → Nat) (sz : Nat) (aX : Nat) (fsX : List Value) (aT : Nat) (fsT : List Value) (qw : Nat) (fw : Nat → Int32) (kw : ClassId) (qp : Nat) (fp : Nat → Int32) (kp : ClassId) (qc : Nat) (fc : Nat → Int64) (kcc : ClassId) (aQ : Nat) (fsQ : List Value) (aM : Nat) (fsM : List Value) (p0 : Int32) (k_fsX : fh fsX 18 [(6, .ref aQ), (7, .ref aM), (16, .int 0)]) (k_fsT : fh fsT 12 [(1, .int 0), (5, .ref qw), (6, .ref qp), (7, .ref qc)]) (k_fsQ : fh fsQ 19 [(0, .ref aT)]) (k_fsM : fh fsM 21 []) (hst : l.stackTraces = false)  : vx_Met l yX11_ask w_x_ask ({ frames := 8, cells := 2, slots := 12, locals := 160 }) (va_Pc [.ref aX, .int p0] (fun U => U.heap.size = sz ∧ Zz (va_A [(aX, .inr (14, fsX)), (aT, .inr (12, fsT)), (qw, .inl (kw, 4001, .inl fw)), (qp, .inl (kp, 4001, .inl fp)), (qc, .inl (kcc, 4001, .inr (.inl fc))), (aQ, .inr (9, fsQ)), (aM, .inr (7, fsM))] sz) U ∧ Wd dC dI [(kw, .int), (kp, .int), (kcc, .long)] (fun _ => True) [(aX, .inr (14, fsX)), (aT, .inr (12, fsT)), (qw, .inl (kw, 4001, .inl fw)), (qp, .inl (kp, 4001, .inl fp)), (qc, .inl (kcc, 4001, .inr (.inl fc))), (aQ, .inr (9, fsQ)), (aM, .inr (7, fsM))] U)) (va_Qi (fun (r : Int32) (u : Unit) => False) (fun (u : Unit) t => Wd dC dI [(kw, .int), (kp, .int), (kcc, .long)] (va_A [(aX, .inr (14, fsX)), (aT, .inr (12, fsT)), (qw, .inl (kw, 4001, .inl fw)), (qp, .inl (kp, 4001, .inl fp)), (qc, .inl (kcc, 4001, .inr (.inl fc))), (aQ, .inr (9, fsQ)), (aM, .inr (7, fsM))] sz) [(aX, .inr (14, fsX)), (aT, .inr (12, fsT)), (qw, .inl (kw, 4001, .inl fw)), (qp, .inl (kp, 4001, .inl fp)), (qc, .inl (kcc, 4001, .inr (.inl fc))), (aQ, .inr (9, fsQ)), (aM, .inr (7, fsM))] t) (va_A [(aX, .inr (14, fsX)), (aT, .inr (12, fsT)), (qw, .inl (kw, 4001, .inl fw)), (qp, .inl (kp, 4001, .inl fp)), (qc, .inl (kcc, 4001, .inr (.inl fc))), (aQ, .inr (9, fsQ)), (aM, .inr (7, fsM))] sz)) (vx_X (fun _ : Unit => True) (fun E _ _ => (E = "java/lang/IndexOutOfBoundsException" ∧ p0 < 0) ∨ (E = "java/lang/IndexOutOfBoundsException" ∧ ¬ p0 < 0 ∧ 4 ≤ p0) ∨ (E = "java/lang/IllegalArgumentException" ∧ ¬ p0 < 0 ∧ ¬ 4 ≤ p0)) (va_A [(aX, .inr (14, fsX)), (aT, .inr (12, fsT)), (qw, .inl (kw, 4001, .inl fw)), (qp, .inl (kp, 4001, .inl fp)), (qc, .inl (kcc, 4001, .inr (.inl fc))), (aQ, .inr (9, fsQ)), (aM, .inr (7, fsM))] sz)) 2 12 (va_A [(aX, .inr (14, fsX)), (aT, .inr (12, fsT)), (qw, .inl (kw, 4001, .inl fw)), (qp, .inl (kp, 4001, .inl fp)), (qc, .inl (kcc, 4001, .inr (.inl fc))), (aQ, .inr (9, fsQ)), (aM, .inr (7, fsM))] sz) := by
  refine vx_ofW (cc := cX11_ask) (maxL := 3) (ret := (some .int)) (by decide) rfl ?_
  intro p e s m args below meth c s₁ B hml htab hv
  obtain ⟨rfl, hsz, hZ, hP, hK, hD0⟩ := hv
  have hx := B.exec
  have hb := B.bytes
  have hr := B.returns
  have hts := atoms_spec (ws := w_x_ask) B.pre
  have hown : s.vm.findClass RX11 = some m.cls := findClass_of_methodNamed B.named
  have hlocks := B.notSynchronized
  subst hsz
  have hD := hD0.self (sz := s.heap.size)
  generalize hAe : va_A [(aX, .inr (14, fsX)), (aT, .inr (12, fsT)), (qw, .inl (kw, 4001, .inl fw)), (qp, .inl (kp, 4001, .inl fp)), (qc, .inl (kcc, 4001, .inr (.inl fc))), (aQ, .inr (9, fsQ)), (aM, .inr (7, fsM))] s.heap.size = A at hD hZ ⊢
  have hA : ∀ q : Nat, s.heap.size ≤ q → A q := fun q h => by rw [← hAe]; exact Or.inr h
  have hS : va_S A s.heap s.heap [] := va_S.rf
  have hl := lv_entry ([.ref aX, .int p0]) (n := 3) (Nat.le_of_ble_eq_true rfl)
  rw [lg_entry_eq]
  generalize (lg_sl ([.ref aX, .int p0]) ++ List.replicate (3 - (lg_sl ([.ref aX, .int p0])).length) Slot.unset).toArray = ls at hl ⊢
  have hl : lv_has ls 3 [(0, .ref aX), (1, .int p0)] := hl
  have o_fsX := ow_0 k_fsX
  have o_fsT := ow_0 k_fsT
  have o_fsQ := ow_0 k_fsQ
  have o_fsM := ow_0 k_fsM
  refine lv_iload_n hx hb dX11_ask_0 rfl (lv_at hl 1 rfl) ?_
  have hPc := hP.sub (ws' := []) [] rfl
  have hDc := hD.sub (ws' := []) [] (by decide) rfl
  have hKc := hK.sub (tys' := []) [] rfl
  have hFc := va_free (wc := []) hD hS hA [] rfl
  refine vx_callv (vx_runS (As := [.int p0]) (rest := []) ⟨hx, hb, hml, hown, hts⟩ (z_X11_needPicture l dC dI s.heap.size p0  hst ) (cwS 1 hts g_x_ask_z_X11_needPicture_353 rfl rfl rfl (by decide +kernel) ⟨Nat.le_of_ble_eq_true rfl, Nat.le_of_ble_eq_true rfl⟩) ⟨fun a U g mk q => by obtain ⟨q0, q1, qZ, qP, qK, qD⟩ := q; exact ⟨q0, q1, Zz_call qZ, qP, va_K.moved (u := U) (U := U.calling g mk a) (Vm.Alike.refl U.vm) qK, qD⟩, fun U hU hW => ⟨rfl, by rw [hU], Zz_go hZ hS hFc hU hW, by rw [hU]; exact hPc, va_K.moved hW.alike hKc, hDc.weaken (fun _ _ _ _ => trivial)⟩⟩ rfl rfl hl.1 rfl (lv_room (Nat.le_of_ble_eq_true rfl)) dX11_ask_1 ⟨Nat.le_of_ble_eq_true rfl, Nat.le_of_ble_eq_true rfl⟩) hS (fun q _ h => hFc q h) hFc (fun q _ h => hFc q h) (fun E ce q9 u t H1 locs ht hvm hpx hBX hz1 hk1 hS hce hcv hcl => ?_) (fun u t H1 locs ht hvm hw hB hz1 hk1 hS => ?_)
  · rcases hBX with ⟨rfl, c6262⟩ | ⟨rfl, c6263, c6264⟩
    · exact vx_out (fun x h => (htab x h).elim) hlocks hce hcv hcl (fun t9 ht9 _ => ⟨(), trivial, (Or.inl ⟨rfl, c6262⟩), hS.F ht9⟩) hS.2.2 (by decide) (by decide)
    · exact vx_out (fun x h => (htab x h).elim) hlocks hce hcv hcl (fun t9 ht9 _ => ⟨(), trivial, (Or.inr (Or.inl ⟨rfl, c6263, c6264⟩)), hS.F ht9⟩) hS.2.2 (by decide) (by decide)
  · skip
    obtain ⟨hP1, hK1, hD1⟩ := hB
    rw [ht] at hP1
    try dsimp only at hw
    obtain ⟨hP, hD⟩ := va_join (wr := [(aX, .inr (14, fsX)), (aT, .inr (12, fsT)), (qw, .inl (kw, 4001, .inl fw)), (qp, .inl (kp, 4001, .inl fp)), (qc, .inl (kcc, 4001, .inr (.inl fc))), (aQ, .inr (9, fsQ)), (aM, .inr (7, fsM))]) (w1 := []) hP hD [] [0, 1, 2, 3, 4, 5, 6] rfl rfl (by decide) (by decide) hk1 hFc hP1 hD1
    have hK := hK.sub (tys' := [(kw, .int), (kp, .int), (kcc, .long)]) [0, 1, 2] rfl
    generalize H1 = H at hP hS ⊢
    refine W.widen (k := 1) (n := 6) (by omega) (by omega) ?_
    have hP : va_P (dC, dI) vwCl [(aX, .inr (14, fsX)), (aT, .inr (12, fsT)), (qw, .inl (kw, 4001, .inl fw)), (qp, .inl (kp, 4001, .inl fp)), (qc, .inl (kcc, 4001, .inr (.inl fc))), (aQ, .inr (9, fsQ)), (aM, .inr (7, fsM))] H := hP
    have hD : va_D A [(aX, .inr (14, fsX)), (aT, .inr (12, fsT)), (qw, .inl (kw, 4001, .inl fw)), (qp, .inl (kp, 4001, .inl fp)), (qc, .inl (kcc, 4001, .inr (.inl fc))), (aQ, .inr (9, fsQ)), (aM, .inr (7, fsM))] := hD
    obtain ⟨c6265, c6266⟩ := hw
    refine lv_aload_n hx hb dX11_ask_4 rfl (lv_at hl 0 rfl) ?_
    refine va_get (D := (dC, dI)) (ci := 14) (v := .ref aM) (C := RX11) (T := TX11) (N := 18) hx hb hts (in_x_ask_X11) hown hK hP 0 rfl rfl 7 (by decide) (hts (.fieldLink RX11 62 "HeapWorks" "machine" "LHeapWorks$Machine;") (by decide +kernel)) (fun _ h9 => h9) (ow_at o_fsX 1 rfl) dX11_ask_5 ?_
    refine lv_iconst (v := 0) hx hb dX11_ask_8 (by decide) ?_
    refine va_put (D := (dC, dI)) (ci := 7) (v := .int 0) (ty := .int) (C := RX4) (T := TX4) (N := 21) hx hb hts (in_x_ask_X4) tyX4 tyX4_ok nmX4 hown hK hP hD hS 6 rfl rfl 20 (by decide) (hts (.fieldLink RX11 464 "HeapWorks$Machine" "rowCount" "I") (by decide +kernel)) (fun _ h9 => h9) rfl (by decide +kernel) rfl rfl (by rw [o_fsM.2.1]; decide) dX11_ask_9 (fun H locs hP hD hS => ?_)
    have hP : va_P (dC, dI) vwCl [(aX, .inr (14, fsX)), (aT, .inr (12, fsT)), (qw, .inl (kw, 4001, .inl fw)), (qp, .inl (kp, 4001, .inl fp)), (qc, .inl (kcc, 4001, .inr (.inl fc))), (aQ, .inr (9, fsQ)), (aM, .inr (7, (fsM.set 20 (.int 0))))] H := hP
    have hD : va_D A [(aX, .inr (14, fsX)), (aT, .inr (12, fsT)), (qw, .inl (kw, 4001, .inl fw)), (qp, .inl (kp, 4001, .inl fp)), (qc, .inl (kcc, 4001, .inr (.inl fc))), (aQ, .inr (9, fsQ)), (aM, .inr (7, (fsM.set 20 (.int 0))))] := hD
    have o_s6267 := ow_set o_fsM 20 (.int 0) (by decide) (l' := [(20, .int 0)]) (w' := [20]) rfl rfl
    generalize (fsM.set 20 (.int 0)) = s6267 at hP hD o_s6267
    refine lv_aload_n hx hb dX11_ask_12 rfl (lv_at hl 0 rfl) ?_
    refine va_get (D := (dC, dI)) (ci := 14) (v := .ref aQ) (C := RX11) (T := TX11) (N := 18) hx hb hts (in_x_ask_X11) hown hK hP 0 rfl rfl 6 (by decide) (hts (.fieldLink RX11 55 "HeapWorks" "question" "LHeapWorks$Program;") (by decide +kernel)) (fun _ h9 => h9) (ow_at o_fsX 0 rfl) dX11_ask_13 ?_
    have hPc := hP.sub (ws' := [(aT, .inr (12, fsT)), (qw, .inl (kw, 4001, .inl fw)), (qp, .inl (kp, 4001, .inl fp)), (qc, .inl (kcc, 4001, .inr (.inl fc))), (aQ, .inr (9, fsQ))]) [1, 2, 3, 4, 5] rfl
    have hDc := hD.sub (ws' := [(aT, .inr (12, fsT)), (qw, .inl (kw, 4001, .inl fw)), (qp, .inl (kp, 4001, .inl fp)), (qc, .inl (kcc, 4001, .inr (.inl fc))), (aQ, .inr (9, fsQ))]) [1, 2, 3, 4, 5] (by decide) rfl
    have hKc := hK.sub (tys' := [(kw, .int), (kp, .int), (kcc, .long)]) [0, 1, 2] rfl
    have hFc := va_free (wc := [(aT, .inr (12, fsT)), (qw, .inl (kw, 4001, .inl fw)), (qp, .inl (kp, 4001, .inl fp)), (qc, .inl (kcc, 4001, .inr (.inl fc))), (aQ, .inr (9, fsQ))]) hD hS hA [1, 2, 3, 4, 5] rfl
    refine va_calli (va_runV (As := []) (rest := []) ⟨hx, hb, hml, hown, hts⟩ (z_X6_readQuestion l dC dI H.size aT fsT qw fw kw qp fp kp qc fc kcc aQ fsQ (fh_sub o_fsT.2 [0, 1, 2, 3] rfl) (fh_sub o_fsQ.2 [0] rfl) ) (cwV 0 hts g_x_ask_z_X6_readQuestion_466 rfl rfl rfl (by decide +kernel) ⟨Nat.le_of_ble_eq_true rfl, Nat.le_of_ble_eq_true rfl⟩) ⟨fun a U g mk q => by obtain ⟨q0, q1, qP, qK, qD⟩ := q; exact ⟨q0, q1, qP, va_K.moved (u := U) (U := U.calling g mk a) (Vm.Alike.refl U.vm) qK, qD⟩, va_recv hK hP (ci := 9) (q0 := 5) rfl rfl, fun U hU hW => ⟨rfl, by rw [hU], by rw [hU]; exact hPc, va_K.moved hW.alike hKc, hDc.weaken (fun _ _ _ _ => trivial)⟩⟩ rfl rfl hl.1 rfl (lv_room (Nat.le_of_ble_eq_true rfl)) dX11_ask_16 ⟨Nat.le_of_ble_eq_true rfl, Nat.le_of_ble_eq_true rfl⟩) hS (fun q _ h => hFc q h) hFc (fun r6336 u t H1 locs ht hvm hw hB hz1 hk1 hS => ?_)
    obtain ⟨s6337, f6338, f6339, f6340, s6341⟩ := u
    obtain ⟨hP1, hK1, hD1⟩ := hB
    rw [ht] at hP1
    try dsimp only at hw
    obtain ⟨hP, hD⟩ := va_join (wr := [(aX, .inr (14, fsX)), (aM, .inr (7, s6267))]) (w1 := [(aT, .inr (12, s6337)), (qw, .inl (kw, 4001, .inl f6338)), (qp, .inl (kp, 4001, .inl f6339)), (qc, .inl (kcc, 4001, .inr (.inl f6340))), (aQ, .inr (9, s6341))]) hP hD [1, 2, 3, 4, 5] [0, 6] rfl rfl (by decide) (by decide) hk1 hFc hP1 hD1
    have hK := hK.sub (tys' := [(kw, .int), (kp, .int), (kcc, .long)]) [0, 1, 2] rfl
    generalize H1 = H at hP hS ⊢
    have hP : va_P (dC, dI) vwCl [(aX, .inr (14, fsX)), (aM, .inr (7, s6267)), (aT, .inr (12, s6337)), (qw, .inl (kw, 4001, .inl f6338)), (qp, .inl (kp, 4001, .inl f6339)), (qc, .inl (kcc, 4001, .inr (.inl f6340))), (aQ, .inr (9, s6341))] H := hP
    have hD : va_D A [(aX, .inr (14, fsX)), (aM, .inr (7, s6267)), (aT, .inr (12, s6337)), (qw, .inl (kw, 4001, .inl f6338)), (qp, .inl (kp, 4001, .inl f6339)), (qc, .inl (kcc, 4001, .inr (.inl f6340))), (aQ, .inr (9, s6341))] := hD
    obtain ⟨er6342, o_s6337, o_s6341, q6343, q6344, q6345⟩ := hw
    subst er6342
    have o_s6337 := ow_on o_fsT o_s6337 (l' := [(11, .long 0), (10, .int 0), (9, .int 0), (8, .int 0), (5, .ref qw), (6, .ref qp), (7, .ref qc), (8, .int 0), (4, .int 0), (1, .int 0), (4, .int 0), (1, .int 0), (5, .ref qw), (6, .ref qp), (7, .ref qc), (1, .int 0), (5, .ref qw), (6, .ref qp), (7, .ref qc), (1, .int 0), (5, .ref qw), (6, .ref qp), (7, .ref qc), (1, .int 0), (5, .ref qw), (6, .ref qp), (7, .ref qc)]) (w' := [11, 10, 9, 8, 4]) rfl rfl
    have o_s6341 := ow_on o_fsQ o_s6341 (l' := [(7, .int 0), (6, .int 1), (0, .ref aT), (0, .ref aT), (0, .ref aT), (0, .ref aT), (0, .ref aT), (0, .ref aT), (18, .int 0), (16, .int 0), (13, .int 0), (12, .int 0), (11, .int 0), (10, .int 0), (9, .int 0), (8, .int 0), (5, .int 0), (0, .ref aT), (0, .ref aT), (0, .ref aT)]) (w' := [7, 6, 18, 16, 13, 12, 11, 10, 9, 8, 5]) rfl rfl
    refine lv_istore_n (lv' := [(2, .int 0), (0, .ref aX), (1, .int p0)]) hx hb dX11_ask_19 rfl hl (by decide) rfl (fun ls hl => ?_)
    refine lv_aload_n hx hb dX11_ask_20 rfl (lv_at hl 1 rfl) ?_
    refine lv_aload_n hx hb dX11_ask_21 rfl (lv_at hl 1 rfl) ?_
    refine va_get (D := (dC, dI)) (ci := 14) (v := .ref aQ) (C := RX11) (T := TX11) (N := 18) hx hb hts (in_x_ask_X11) hown hK hP 0 rfl rfl 6 (by decide) (hts (.fieldLink RX11 55 "HeapWorks" "question" "LHeapWorks$Program;") (by decide +kernel)) (fun _ h9 => h9) (ow_at o_fsX 0 rfl) dX11_ask_22 ?_
    refine va_get (D := (dC, dI)) (ci := 9) (v := .int 1) (C := RX6) (T := TX6) (N := 19) hx hb hts (in_x_ask_X6) hown hK hP 6 rfl rfl 6 (by decide) (hts (.fieldLink RX11 333 "HeapWorks$Program" "fault" "I") (by decide +kernel)) (fun _ h9 => h9) (ow_at o_s6341 1 rfl) dX11_ask_25 ?_
    refine lv_aload_n hx hb dX11_ask_28 rfl (lv_at hl 1 rfl) ?_
    refine va_get (D := (dC, dI)) (ci := 14) (v := .ref aQ) (C := RX11) (T := TX11) (N := 18) hx hb hts (in_x_ask_X11) hown hK hP 0 rfl rfl 6 (by decide) (hts (.fieldLink RX11 55 "HeapWorks" "question" "LHeapWorks$Program;") (by decide +kernel)) (fun _ h9 => h9) (ow_at o_fsX 0 rfl) dX11_ask_29 ?_
    refine va_get (D := (dC, dI)) (ci := 9) (v := .int 0) (C := RX6) (T := TX6) (N := 19) hx hb hts (in_x_ask_X6) hown hK hP 6 rfl rfl 7 (by decide) (hts (.fieldLink RX11 336 "HeapWorks$Program" "place" "I") (by decide +kernel)) (fun _ h9 => h9) (ow_at o_s6341 0 rfl) dX11_ask_32 ?_
    have hPc := hP.sub (ws' := [(aX, .inr (14, fsX))]) [0] rfl
    have hDc := hD.sub (ws' := [(aX, .inr (14, fsX))]) [0] (by decide) rfl
    have hKc := hK.sub (tys' := []) [] rfl
    have hFc := va_free (wc := [(aX, .inr (14, fsX))]) hD hS hA [0] rfl
    refine va_callv (va_runV (As := [.int 1, .int 0]) (rest := []) ⟨hx, hb, hml, hown, hts⟩ (z_X11_tellFault l dC dI H.size aX fsX (fh_sub o_fsX.2 [] rfl) ) (cwV 2 hts g_x_ask_z_X11_tellFault_339 rfl rfl rfl (by decide +kernel) ⟨Nat.le_of_ble_eq_true rfl, Nat.le_of_ble_eq_true rfl⟩) ⟨fun a U g mk q => by obtain ⟨q0, q1, qP, qK, qD⟩ := q; exact ⟨q0, q1, qP, va_K.moved (u := U) (U := U.calling g mk a) (Vm.Alike.refl U.vm) qK, qD⟩, va_recv hK hP (ci := 14) (q0 := 0) rfl rfl, fun U hU hW => ⟨rfl, by rw [hU], by rw [hU]; exact hPc, va_K.moved hW.alike hKc, hDc.weaken (fun _ _ _ _ => trivial)⟩⟩ rfl rfl hl.1 rfl (lv_room (Nat.le_of_ble_eq_true rfl)) dX11_ask_35 ⟨Nat.le_of_ble_eq_true rfl, Nat.le_of_ble_eq_true rfl⟩) hS (fun q _ h => hFc q h) hFc (fun u t H1 locs ht hvm hw hB hz1 hk1 hS => ?_)
    obtain ⟨s6349, rfl⟩ : ∃ z, z = u := ⟨_, rfl⟩
    obtain ⟨hP1, hK1, hD1⟩ := hB
    rw [ht] at hP1
    try dsimp only at hw
    obtain ⟨hP, hD⟩ := va_join (wr := [(aM, .inr (7, s6267)), (aT, .inr (12, s6337)), (qw, .inl (kw, 4001, .inl f6338)), (qp, .inl (kp, 4001, .inl f6339)), (qc, .inl (kcc, 4001, .inr (.inl f6340))), (aQ, .inr (9, s6341))]) (w1 := [(aX, .inr (14, s6349))]) hP hD [0] [1, 2, 3, 4, 5, 6] rfl rfl (by decide) (by decide) hk1 hFc hP1 hD1
    have hK := hK.sub (tys' := [(kw, .int), (kp, .int), (kcc, .long)]) [0, 1, 2] rfl
    generalize H1 = H at hP hS ⊢
    have hP : va_P (dC, dI) vwCl [(aM, .inr (7, s6267)), (aT, .inr (12, s6337)), (qw, .inl (kw, 4001, .inl f6338)), (qp, .inl (kp, 4001, .inl f6339)), (qc, .inl (kcc, 4001, .inr (.inl f6340))), (aQ, .inr (9, s6341)), (aX, .inr (14, s6349))] H := hP
    have hD : va_D A [(aM, .inr (7, s6267)), (aT, .inr (12, s6337)), (qw, .inl (kw, 4001, .inl f6338)), (qp, .inl (kp, 4001, .inl f6339)), (qc, .inl (kcc, 4001, .inr (.inl f6340))), (aQ, .inr (9, s6341)), (aX, .inr (14, s6349))] := hD
    have o_s6349 := hw
    have o_s6349 := ow_on o_fsX o_s6349 (l' := [(17, .int 0), (16, .int 1), (6, .ref aQ), (7, .ref aM)]) (w' := [17, 16]) rfl rfl
    refine lv_iload_n hx hb dX11_ask_38 rfl (lv_at hl 0 rfl) ?_
    refine lv_if_eq (tgt := 76) hx hb dX11_ask_39 (by decide) (fun c6350 => ?_) (fun c6350 => absurd c6350 (by decide))
    refine lv_aload_n hx hb dX11_ask_76 rfl (lv_at hl 1 rfl) ?_
    refine va_get (D := (dC, dI)) (ci := 14) (v := .int 1) (C := RX11) (T := TX11) (N := 18) hx hb hts (in_x_ask_X11) hown hK hP 6 rfl rfl 16 (by decide) (hts (.fieldLink RX11 469 "HeapWorks" "faultCode" "I") (by decide +kernel)) (fun _ h9 => h9) (ow_at o_s6349 1 rfl) dX11_ask_77 ?_
    refine lv_if_eq (tgt := 91) hx hb dX11_ask_80 (by decide) (fun c6351 => absurd c6351 (by decide)) (fun c6351 => ?_)
    exact vx_throw0 (names := ["java/lang/RuntimeException", "java/lang/Exception"]) hx hb hst hown (by decide +kernel) (by decide +kernel) (hts (.classLink RX11 127 "java/lang/IllegalArgumentException") (by decide +kernel)) (hts (.initialized "java/lang/IllegalArgumentException") (by decide +kernel)) (vx_hat (B := xB "java/lang/IllegalArgumentException") (fun w h => hts w (in_x_ask_at0_X11_129 w h)) (by decide +kernel) (Zz_xB hZ (by decide))) (by decide +kernel) hZ.1 hZ.2.1 hS (hl.1.trans hml.symm) dX11_ask_83 dX11_ask_86 dX11_ask_87 dX11_ask_90 (fun x h => (htab x h).elim) (by decide) (Nat.le_of_ble_eq_true rfl) (Nat.le_of_ble_eq_true rfl) (Nat.le_of_ble_eq_true rfl) hlocks (fun t _ h1 h2 => ⟨(), trivial, (Or.inr (Or.inr (⟨rfl, c6265, c6266⟩))), xx_F hS h1 h2⟩) hS.2.2 (by decide) (by decide)

def l_x_answer : List Cond := [.classLink RX11 221 "java/util/NoSuchElementException", .initialized "java/util/NoSuchElementException", .fieldLink RX11 62 "HeapWorks" "machine" "LHeapWorks$Machine;", .fieldLink RX11 464 "HeapWorks$Machine" "rowCount" "I"]
def w_x_answer : List Cond := .code yX11_answer cX11_answer 3 (some .long) :: (l_x_answer ++ ((((vx_at0 RX11 223 "java/util/NoSuchElementException" ["java/lang/RuntimeException", "java/lang/Exception"]).filter goodWord) ++ (wsX110 ++ wsX40))))
theorem in_x_answer_at0_X11_223 : ∀ w ∈ ((vx_at0 RX11 223 "java/util/NoSuchElementException" ["java/lang/RuntimeException", "java/lang/Exception"]).filter goodWord), w ∈ w_x_answer := fun w h => List.mem_cons_of_mem _ (List.mem_append_right _ (List.mem_append_left _ h))
theorem in_x_answer_X11 : ∀ w ∈ wsX110, w ∈ w_x_answer := fun w h => List.mem_cons_of_mem _ (List.mem_append_right _ (List.mem_append_right _ (List.mem_append_left _ h)))
theorem in_x_answer_X4 : ∀ w ∈ wsX40, w ∈ w_x_answer := fun w h => List.mem_cons_of_mem _ (List.mem_append_right _ (List.mem_append_right _ (List.mem_append_right _ (h))))
set_option maxHeartbeats 4000000 in
set_option maxRecDepth 100000 in
theorem x_answer (l : Launch) (dC : Nat → ClassId) (dI : Nat → Nat → Nat) (sz : Nat) (aX : Nat) (fsX : List Value) (aM : Nat) (fsM : List Value) (p0 : Int32) (p1 : Int32) (k_fsX : fh fsX 18 [(7, .ref aM)]) (k_fsM : fh fsM 21 [(20, .int 0)]) (hst : l.stackTraces = false)  : vx_Met l yX11_answer w_x_answer ({ frames := 7, cells := 1, slots := 6, locals := 140 }) (va_Pc [.ref aX, .int p0, .int p1] (fun U => U.heap.size = sz ∧ Zz (va_A [(aX, .inr (14, fsX)), (aM, .inr (7, fsM))] sz) U ∧ Wd dC dI [] (fun _ => True) [(aX, .inr (14, fsX)), (aM, .inr (7, fsM))] U)) (va_Ql (fun (r : Int64) (u : Unit) => False) (fun (u : Unit) t => Wd dC dI [] (va_A [(aX, .inr (14, fsX)), (aM, .inr (7, fsM))] sz) [(aX, .inr (14, fsX)), (aM, .inr (7, fsM))] t) (va_A [(aX, .inr (14, fsX)), (aM, .inr (7, fsM))] sz)) (vx_X (fun _ : Unit => True) (fun E _ _ => (E = "java/util/NoSuchElementException" ∧ p0 < 0) ∨ (E = "java/util/NoSuchElementException" ∧ ¬ p0 < 0 ∧ 0 ≤ p0)) (va_A [(aX, .inr (14, fsX)), (aM, .inr (7, fsM))] sz)) 1 6 (va_A [(aX, .inr (14, fsX)), (aM, .inr (7, fsM))] sz) := by
  refine vx_ofW (cc := cX11_answer) (maxL := 3) (ret := (some .long)) (by decide) rfl ?_
  intro p e s m args below meth c s₁ B hml htab hv
  obtain ⟨rfl, hsz, hZ, hP, hK, hD0⟩ := hv
  have hx := B.exec
  have hb := B.bytes
  have hr := B.returns
  have hts := atoms_spec (ws := w_x_answer) B.pre
  have hown : s.vm.findClass RX11 = some m.cls := findClass_of_methodNamed B.named
  have hlocks := B.notSynchronized
  subst hsz
  have hD := hD0.self (sz := s.heap.size)
  generalize hAe : va_A [(aX, .inr (14, fsX)), (aM, .inr (7, fsM))] s.heap.size = A at hD hZ ⊢
  have hA : ∀ q : Nat, s.heap.size ≤ q → A q := fun q h => by rw [← hAe]; exact Or.inr h
  have hS : va_S A s.heap s.heap [] := va_S.rf
  have hl := lv_entry ([.ref aX, .int p0, .int p1]) (n := 3) (Nat.le_of_ble_eq_true rfl)
  rw [lg_entry_eq]
  generalize (lg_sl ([.ref aX, .int p0, .int p1]) ++ List.replicate (3 - (lg_sl ([.ref aX, .int p0, .int p1])).length) Slot.unset).toArray = ls at hl ⊢
  have hl : lv_has ls 3 [(0, .ref aX), (1, .int p0), (2, .int p1)] := hl
  have o_fsX := ow_0 k_fsX
  have o_fsM := ow_0 k_fsM
  refine lv_iload_n hx hb dX11_answer_0 rfl (lv_at hl 1 rfl) ?_
  refine lv_if_lt (tgt := 24) hx hb dX11_answer_1 (by decide) (fun c6354 => ?_) (fun c6354 => ?_)
  · skip
    exact vx_throw0 (names := ["java/lang/RuntimeException", "java/lang/Exception"]) hx hb hst hown (by decide +kernel) (by decide +kernel) (hts (.classLink RX11 221 "java/util/NoSuchElementException") (by decide +kernel)) (hts (.initialized "java/util/NoSuchElementException") (by decide +kernel)) (vx_hat (B := xB "java/util/NoSuchElementException") (fun w h => hts w (in_x_answer_at0_X11_223 w h)) (by decide +kernel) (Zz_xB hZ (by decide))) (by decide +kernel) hZ.1 hZ.2.1 hS (hl.1.trans hml.symm) dX11_answer_24 dX11_answer_27 dX11_answer_28 dX11_answer_31 (fun x h => (htab x h).elim) (by decide) (Nat.le_of_ble_eq_true rfl) (Nat.le_of_ble_eq_true rfl) (Nat.le_of_ble_eq_true rfl) hlocks (fun t _ h1 h2 => ⟨(), trivial, (Or.inl ⟨rfl, c6354⟩), xx_F hS h1 h2⟩) hS.2.2 (by decide) (by decide)
  · skip
    refine lv_iload_n hx hb dX11_answer_4 rfl (lv_at hl 1 rfl) ?_
    refine lv_aload_n hx hb dX11_answer_5 rfl (lv_at hl 0 rfl) ?_
    refine va_get (D := (dC, dI)) (ci := 14) (v := .ref aM) (C := RX11) (T := TX11) (N := 18) hx hb hts (in_x_answer_X11) hown hK hP 0 rfl rfl 7 (by decide) (hts (.fieldLink RX11 62 "HeapWorks" "machine" "LHeapWorks$Machine;") (by decide +kernel)) (fun _ h9 => h9) (ow_at o_fsX 0 rfl) dX11_answer_6 ?_
    refine va_get (D := (dC, dI)) (ci := 7) (v := .int 0) (C := RX4) (T := TX4) (N := 21) hx hb hts (in_x_answer_X4) hown hK hP 1 rfl rfl 20 (by decide) (hts (.fieldLink RX11 464 "HeapWorks$Machine" "rowCount" "I") (by decide +kernel)) (fun _ h9 => h9) (ow_at o_fsM 0 rfl) dX11_answer_9 ?_
    refine lv_icmp_ge (tgt := 24) hx hb dX11_answer_12 (by decide) (fun c6355 => ?_) (fun c6355 => (by exfalso; have bd_p0 := i_bd p0; (try simp only [i_lt, i_le, i_eq, kc_0] at c6354 c6355); omega))
    exact vx_throw0 (names := ["java/lang/RuntimeException", "java/lang/Exception"]) hx hb hst hown (by decide +kernel) (by decide +kernel) (hts (.classLink RX11 221 "java/util/NoSuchElementException") (by decide +kernel)) (hts (.initialized "java/util/NoSuchElementException") (by decide +kernel)) (vx_hat (B := xB "java/util/NoSuchElementException") (fun w h => hts w (in_x_answer_at0_X11_223 w h)) (by decide +kernel) (Zz_xB hZ (by decide))) (by decide +kernel) hZ.1 hZ.2.1 hS (hl.1.trans hml.symm) dX11_answer_24 dX11_answer_27 dX11_answer_28 dX11_answer_31 (fun x h => (htab x h).elim) (by decide) (Nat.le_of_ble_eq_true rfl) (Nat.le_of_ble_eq_true rfl) (Nat.le_of_ble_eq_true rfl) hlocks (fun t _ h1 h2 => ⟨(), trivial, (Or.inr (⟨rfl, c6354, c6355⟩)), xx_F hS h1 h2⟩) hS.2.2 (by decide) (by decide)

def l_z_X7_readAll : List Cond := [.fieldLink RX7 70 "HeapWorks$RuleText" "rules" "I", .fieldLink RX7 74 "HeapWorks$RuleText" "relations" "I", .fieldLink RX7 77 "HeapWorks$RuleText" "fault" "I", .fieldLink RX7 80 "HeapWorks$RuleText" "place" "I", .fieldLink RX7 9 "HeapWorks$RuleText" "tape" "LHeapWorks$Tape;", .methodLink RX7 83 yX9_startWords, .instanceMethod yX9_startWords, .selects RX9 yX9_startWords yX9_startWords, .initialized RX9, .fieldLink RX7 86 "HeapWorks$Tape" "word" "I", .code yX9_startWords cX9_startWords 2 none, .fieldLink RX9 69 "HeapWorks$Tape" "at" "I", .methodLink RX9 72 yX9_scanWord, .instanceMethod yX9_scanWord, .selects RX9 yX9_scanWord yX9_scanWord, .fieldLink RX9 18 "HeapWorks$Tape" "words" "[I", .fieldLink RX9 75 "HeapWorks$Tape" "word" "I", .fieldLink RX9 21 "HeapWorks$Tape" "places" "[I", .fieldLink RX9 78 "HeapWorks$Tape" "place" "I", .fieldLink RX9 24 "HeapWorks$Tape" "codes" "[J", .fieldLink RX9 81 "HeapWorks$Tape" "code" "J", .fieldLink RX9 85 "HeapWorks$Tape" "next" "I", .methodLink RX9 88 yX9_nextWord, .instanceMethod yX9_nextWord, .selects RX9 yX9_nextWord yX9_nextWord, .code yX9_scanWord cX9_scanWord 1 none, .fieldLink RX9 49 "HeapWorks$Tape" "size" "I", .code yX9_nextWord cX9_nextWord 1 none]
def w_z_X7_readAll : List Cond := .code yX7_readAll cX7_readAll 2 (some .boolean) :: (l_z_X7_readAll ++ ((wsX70 ++ wsX90)))
theorem in_z_X7_readAll_X7 : ∀ w ∈ wsX70, w ∈ w_z_X7_readAll := fun w h => List.mem_cons_of_mem _ (List.mem_append_right _ (List.mem_append_left _ h))
theorem in_z_X7_readAll_X9 : ∀ w ∈ wsX90, w ∈ w_z_X7_readAll := fun w h => List.mem_cons_of_mem _ (List.mem_append_right _ (List.mem_append_right _ (h)))
theorem g_z_X7_readAll_z_X9_startWords_83 : GoodIn w_z_X7_readAll (wsV RX7 83 RX9 yX9_startWords w_z_X9_startWords) := goodIn_app (goodIn_sub (by decide +kernel) (by decide +kernel)) (goodIn_ca (goodIn_sub (by decide +kernel) (by decide +kernel)) (goodIn_in in_z_X7_readAll_X9 gd_X9))
set_option maxHeartbeats 4000000 in
set_option maxRecDepth 100000 in
theorem z_X7_readAll (l : Launch) (dC : Nat → ClassId) (dI : Nat → Nat → Nat) (sz : Nat) (Ad0 : Nat) (Fs0 : List Value) (Ad1 : Nat) (Fa0 : Nat → Int32) (Ka0 : ClassId) (Ad2 : Nat) (Fa1 : Nat → Int32) (Ka1 : ClassId) (Ad3 : Nat) (Fa2 : Nat → Int64) (Ka2 : ClassId) (Ad4 : Nat) (Fs1 : List Value) (k_Fs0 : fh Fs0 12 [(1, .int 0), (5, .ref Ad1), (6, .ref Ad2), (7, .ref Ad3)]) (k_Fs1 : fh Fs1 21 [(0, .ref Ad0)])  : Met l yX7_readAll w_z_X7_readAll ({ frames := 2, cells := 0, slots := 0, locals := 41 }) (va_Pc [.ref Ad4] (fun U => U.heap.size = sz ∧ Wd dC dI [(Ka0, .int), (Ka1, .int), (Ka2, .long)] (fun _ => True) [(Ad0, .inr (12, Fs0)), (Ad1, .inl (Ka0, 4001, .inl Fa0)), (Ad2, .inl (Ka1, 4001, .inl Fa1)), (Ad3, .inl (Ka2, 4001, .inr (.inl Fa2))), (Ad4, .inr (10, Fs1))] U)) (va_Qi (fun (r : Int32) (u : List Value × (Nat → Int32) × (Nat → Int32) × (Nat → Int64) × List Value) => (r = 1 ∧ ow Fs0 (u.1) 12 [11, 10, 9, 8, 4] [(11, .long 0), (10, .int 0), (9, .int 0), (8, .int 0), (5, .ref Ad1), (6, .ref Ad2), (7, .ref Ad3), (8, .int 0), (4, .int 0), (1, .int 0), (4, .int 0), (1, .int 0), (5, .ref Ad1), (6, .ref Ad2), (7, .ref Ad3), (1, .int 0), (5, .ref Ad1), (6, .ref Ad2), (7, .ref Ad3)] ∧ ow Fs1 (u.2.2.2.2) 21 [20, 19, 16, 3] [(20, .int (-1)), (19, .int 0), (16, .int 0), (3, .int 0), (0, .ref Ad0)] ∧ (u.2.1) (0 : Int32).toNatClampNeg = 0 ∧ (u.2.2.1) (0 : Int32).toNatClampNeg = 0 ∧ (u.2.2.2.1) (0 : Int32).toNatClampNeg = 0) ∨ (r = 1 ∧ ow Fs0 (u.1) 12 [11, 10, 9, 8, 4] [(11, .long 0), (10, .int 0), (9, .int 0), (8, .int 0), (5, .ref Ad1), (6, .ref Ad2), (7, .ref Ad3), (8, .int 0), (4, .int 0), (1, .int 0), (4, .int 0), (1, .int 0), (5, .ref Ad1), (6, .ref Ad2), (7, .ref Ad3), (1, .int 0), (5, .ref Ad1), (6, .ref Ad2), (7, .ref Ad3)] ∧ ow Fs1 (u.2.2.2.2) 21 [20, 19, 16, 3] [(20, .int (-1)), (19, .int 0), (16, .int 0), (3, .int 0), (0, .ref Ad0)] ∧ (u.2.1) (0 : Int32).toNatClampNeg = 0 ∧ (u.2.2.1) (0 : Int32).toNatClampNeg = 0 ∧ (u.2.2.2.1) (0 : Int32).toNatClampNeg = 0)) (fun (u : List Value × (Nat → Int32) × (Nat → Int32) × (Nat → Int64) × List Value) t => Wd dC dI [(Ka0, .int), (Ka1, .int), (Ka2, .long)] (va_A [(Ad0, .inr (12, Fs0)), (Ad1, .inl (Ka0, 4001, .inl Fa0)), (Ad2, .inl (Ka1, 4001, .inl Fa1)), (Ad3, .inl (Ka2, 4001, .inr (.inl Fa2))), (Ad4, .inr (10, Fs1))] sz) [(Ad0, .inr (12, (u.1))), (Ad1, .inl (Ka0, 4001, .inl ((u.2.1)))), (Ad2, .inl (Ka1, 4001, .inl ((u.2.2.1)))), (Ad3, .inl (Ka2, 4001, .inr (.inl ((u.2.2.2.1))))), (Ad4, .inr (10, (u.2.2.2.2)))] t) (va_A [(Ad0, .inr (12, Fs0)), (Ad1, .inl (Ka0, 4001, .inl Fa0)), (Ad2, .inl (Ka1, 4001, .inl Fa1)), (Ad3, .inl (Ka2, 4001, .inr (.inl Fa2))), (Ad4, .inr (10, Fs1))] sz))  0 0 (va_A [(Ad0, .inr (12, Fs0)), (Ad1, .inl (Ka0, 4001, .inl Fa0)), (Ad2, .inl (Ka1, 4001, .inl Fa1)), (Ad3, .inl (Ka2, 4001, .inr (.inl Fa2))), (Ad4, .inr (10, Fs1))] sz) := by
  refine Met.ofW (cc := cX7_readAll) (maxL := 2) (ret := (some .boolean)) (by decide) rfl ?_
  intro p e s m args below meth c s₁ B hml hv
  obtain ⟨rfl, hsz, hP, hK, hD0⟩ := hv
  have hx := B.exec
  have hb := B.bytes
  have hr := B.returns
  have hts := atoms_spec (ws := w_z_X7_readAll) B.pre
  have hown : s.vm.findClass RX7 = some m.cls := findClass_of_methodNamed B.named
  have hlocks := B.notSynchronized
  subst hsz
  have hD := hD0.self (sz := s.heap.size)
  generalize hAe : va_A [(Ad0, .inr (12, Fs0)), (Ad1, .inl (Ka0, 4001, .inl Fa0)), (Ad2, .inl (Ka1, 4001, .inl Fa1)), (Ad3, .inl (Ka2, 4001, .inr (.inl Fa2))), (Ad4, .inr (10, Fs1))] s.heap.size = A at hD ⊢
  have hA : ∀ q : Nat, s.heap.size ≤ q → A q := fun q h => by rw [← hAe]; exact Or.inr h
  have hS : va_S A s.heap s.heap [] := va_S.rf
  have hl := lv_entry ([.ref Ad4]) (n := 2) (Nat.le_of_ble_eq_true rfl)
  rw [lg_entry_eq]
  generalize (lg_sl ([.ref Ad4]) ++ List.replicate (2 - (lg_sl ([.ref Ad4])).length) Slot.unset).toArray = ls at hl ⊢
  have hl : lv_has ls 2 [(0, .ref Ad4)] := hl
  have o_Fs0 := ow_0 k_Fs0
  have o_Fs1 := ow_0 k_Fs1
  refine lv_aload_n hx hb dX7_readAll_0 rfl (lv_at hl 0 rfl) ?_
  refine lv_iconst (v := 0) hx hb dX7_readAll_1 (by decide) ?_
  refine va_put (D := (dC, dI)) (ci := 10) (v := .int 0) (ty := .int) (C := RX7) (T := TX7) (N := 21) hx hb hts (in_z_X7_readAll_X7) tyX7 tyX7_ok nmX7 hown hK hP hD hS 4 rfl rfl 3 (by decide) (hts (.fieldLink RX7 70 "HeapWorks$RuleText" "rules" "I") (by decide +kernel)) (fun _ h9 => h9) rfl (by decide +kernel) rfl rfl (by rw [o_Fs1.2.1]; decide) dX7_readAll_2 (fun H locs hP hD hS => ?_)
  have hP : va_P (dC, dI) vwCl [(Ad0, .inr (12, Fs0)), (Ad1, .inl (Ka0, 4001, .inl Fa0)), (Ad2, .inl (Ka1, 4001, .inl Fa1)), (Ad3, .inl (Ka2, 4001, .inr (.inl Fa2))), (Ad4, .inr (10, (Fs1.set 3 (.int 0))))] H := hP
  have hD : va_D A [(Ad0, .inr (12, Fs0)), (Ad1, .inl (Ka0, 4001, .inl Fa0)), (Ad2, .inl (Ka1, 4001, .inl Fa1)), (Ad3, .inl (Ka2, 4001, .inr (.inl Fa2))), (Ad4, .inr (10, (Fs1.set 3 (.int 0))))] := hD
  have o_s6428 := ow_set o_Fs1 3 (.int 0) (by decide) (l' := [(3, .int 0), (0, .ref Ad0)]) (w' := [3]) rfl rfl
  generalize (Fs1.set 3 (.int 0)) = s6428 at hP hD o_s6428
  refine lv_aload_n hx hb dX7_readAll_5 rfl (lv_at hl 0 rfl) ?_
  refine lv_iconst (v := 0) hx hb dX7_readAll_6 (by decide) ?_
  refine va_put (D := (dC, dI)) (ci := 10) (v := .int 0) (ty := .int) (C := RX7) (T := TX7) (N := 21) hx hb hts (in_z_X7_readAll_X7) tyX7 tyX7_ok nmX7 hown hK hP hD hS 4 rfl rfl 16 (by decide) (hts (.fieldLink RX7 74 "HeapWorks$RuleText" "relations" "I") (by decide +kernel)) (fun _ h9 => h9) rfl (by decide +kernel) rfl rfl (by rw [o_s6428.2.1]; decide) dX7_readAll_7 (fun H locs hP hD hS => ?_)
  have hP : va_P (dC, dI) vwCl [(Ad0, .inr (12, Fs0)), (Ad1, .inl (Ka0, 4001, .inl Fa0)), (Ad2, .inl (Ka1, 4001, .inl Fa1)), (Ad3, .inl (Ka2, 4001, .inr (.inl Fa2))), (Ad4, .inr (10, (s6428.set 16 (.int 0))))] H := hP
  have hD : va_D A [(Ad0, .inr (12, Fs0)), (Ad1, .inl (Ka0, 4001, .inl Fa0)), (Ad2, .inl (Ka1, 4001, .inl Fa1)), (Ad3, .inl (Ka2, 4001, .inr (.inl Fa2))), (Ad4, .inr (10, (s6428.set 16 (.int 0))))] := hD
  have o_s6429 := ow_set o_s6428 16 (.int 0) (by decide) (l' := [(16, .int 0), (3, .int 0), (0, .ref Ad0)]) (w' := [16, 3]) rfl rfl
  generalize (s6428.set 16 (.int 0)) = s6429 at hP hD o_s6429
  refine lv_aload_n hx hb dX7_readAll_10 rfl (lv_at hl 0 rfl) ?_
  refine lv_iconst (v := 0) hx hb dX7_readAll_11 (by decide) ?_
  refine va_put (D := (dC, dI)) (ci := 10) (v := .int 0) (ty := .int) (C := RX7) (T := TX7) (N := 21) hx hb hts (in_z_X7_readAll_X7) tyX7 tyX7_ok nmX7 hown hK hP hD hS 4 rfl rfl 19 (by decide) (hts (.fieldLink RX7 77 "HeapWorks$RuleText" "fault" "I") (by decide +kernel)) (fun _ h9 => h9) rfl (by decide +kernel) rfl rfl (by rw [o_s6429.2.1]; decide) dX7_readAll_12 (fun H locs hP hD hS => ?_)
  have hP : va_P (dC, dI) vwCl [(Ad0, .inr (12, Fs0)), (Ad1, .inl (Ka0, 4001, .inl Fa0)), (Ad2, .inl (Ka1, 4001, .inl Fa1)), (Ad3, .inl (Ka2, 4001, .inr (.inl Fa2))), (Ad4, .inr (10, (s6429.set 19 (.int 0))))] H := hP
  have hD : va_D A [(Ad0, .inr (12, Fs0)), (Ad1, .inl (Ka0, 4001, .inl Fa0)), (Ad2, .inl (Ka1, 4001, .inl Fa1)), (Ad3, .inl (Ka2, 4001, .inr (.inl Fa2))), (Ad4, .inr (10, (s6429.set 19 (.int 0))))] := hD
  have o_s6430 := ow_set o_s6429 19 (.int 0) (by decide) (l' := [(19, .int 0), (16, .int 0), (3, .int 0), (0, .ref Ad0)]) (w' := [19, 16, 3]) rfl rfl
  generalize (s6429.set 19 (.int 0)) = s6430 at hP hD o_s6430
  refine lv_aload_n hx hb dX7_readAll_15 rfl (lv_at hl 0 rfl) ?_
  refine lv_iconst (v := (-1)) hx hb dX7_readAll_16 (by decide) ?_
  refine va_put (D := (dC, dI)) (ci := 10) (v := .int (-1)) (ty := .int) (C := RX7) (T := TX7) (N := 21) hx hb hts (in_z_X7_readAll_X7) tyX7 tyX7_ok nmX7 hown hK hP hD hS 4 rfl rfl 20 (by decide) (hts (.fieldLink RX7 80 "HeapWorks$RuleText" "place" "I") (by decide +kernel)) (fun _ h9 => h9) rfl (by decide +kernel) rfl rfl (by rw [o_s6430.2.1]; decide) dX7_readAll_17 (fun H locs hP hD hS => ?_)
  have hP : va_P (dC, dI) vwCl [(Ad0, .inr (12, Fs0)), (Ad1, .inl (Ka0, 4001, .inl Fa0)), (Ad2, .inl (Ka1, 4001, .inl Fa1)), (Ad3, .inl (Ka2, 4001, .inr (.inl Fa2))), (Ad4, .inr (10, (s6430.set 20 (.int (-1)))))] H := hP
  have hD : va_D A [(Ad0, .inr (12, Fs0)), (Ad1, .inl (Ka0, 4001, .inl Fa0)), (Ad2, .inl (Ka1, 4001, .inl Fa1)), (Ad3, .inl (Ka2, 4001, .inr (.inl Fa2))), (Ad4, .inr (10, (s6430.set 20 (.int (-1)))))] := hD
  have o_s6431 := ow_set o_s6430 20 (.int (-1)) (by decide) (l' := [(20, .int (-1)), (19, .int 0), (16, .int 0), (3, .int 0), (0, .ref Ad0)]) (w' := [20, 19, 16, 3]) rfl rfl
  generalize (s6430.set 20 (.int (-1))) = s6431 at hP hD o_s6431
  refine lv_aload_n hx hb dX7_readAll_20 rfl (lv_at hl 0 rfl) ?_
  refine va_get (D := (dC, dI)) (ci := 10) (v := .ref Ad0) (C := RX7) (T := TX7) (N := 21) hx hb hts (in_z_X7_readAll_X7) hown hK hP 4 rfl rfl 0 (by decide) (hts (.fieldLink RX7 9 "HeapWorks$RuleText" "tape" "LHeapWorks$Tape;") (by decide +kernel)) (fun _ h9 => h9) (ow_at o_s6431 4 rfl) dX7_readAll_21 ?_
  have hPc := hP.sub (ws' := [(Ad0, .inr (12, Fs0)), (Ad1, .inl (Ka0, 4001, .inl Fa0)), (Ad2, .inl (Ka1, 4001, .inl Fa1)), (Ad3, .inl (Ka2, 4001, .inr (.inl Fa2)))]) [0, 1, 2, 3] rfl
  have hDc := hD.sub (ws' := [(Ad0, .inr (12, Fs0)), (Ad1, .inl (Ka0, 4001, .inl Fa0)), (Ad2, .inl (Ka1, 4001, .inl Fa1)), (Ad3, .inl (Ka2, 4001, .inr (.inl Fa2)))]) [0, 1, 2, 3] (by decide) rfl
  have hKc := hK.sub (tys' := [(Ka0, .int), (Ka1, .int), (Ka2, .long)]) [0, 1, 2] rfl
  have hFc := va_free (wc := [(Ad0, .inr (12, Fs0)), (Ad1, .inl (Ka0, 4001, .inl Fa0)), (Ad2, .inl (Ka1, 4001, .inl Fa1)), (Ad3, .inl (Ka2, 4001, .inr (.inl Fa2)))]) hD hS hA [0, 1, 2, 3] rfl
  refine va_callv (va_runV (As := []) (rest := []) ⟨hx, hb, hml, hown, hts⟩ (z_X9_startWords l dC dI H.size Ad0 Fs0 Ad1 Fa0 Ka0 Ad2 Fa1 Ka1 Ad3 Fa2 Ka2 (fh_sub o_Fs0.2 [0, 1, 2, 3] rfl) ) (cwV 0 hts g_z_X7_readAll_z_X9_startWords_83 rfl rfl rfl (by decide +kernel) ⟨Nat.le_of_ble_eq_true rfl, Nat.le_of_ble_eq_true rfl⟩) ⟨fun a U g mk q => by obtain ⟨q0, q1, qP, qK, qD⟩ := q; exact ⟨q0, q1, qP, va_K.moved (u := U) (U := U.calling g mk a) (Vm.Alike.refl U.vm) qK, qD⟩, va_recv hK hP (ci := 12) (q0 := 0) rfl rfl, fun U hU hW => ⟨rfl, by rw [hU], by rw [hU]; exact hPc, va_K.moved hW.alike hKc, hDc.weaken (fun _ _ _ _ => trivial)⟩⟩ rfl rfl hl.1 rfl (lv_room (Nat.le_of_ble_eq_true rfl)) dX7_readAll_24 ⟨Nat.le_of_ble_eq_true rfl, Nat.le_of_ble_eq_true rfl⟩) hS (fun q _ h => hFc q h) hFc (fun u t H1 locs ht hvm hw hB hz1 hk1 hS => ?_)
  obtain ⟨s6455, f6456, f6457, f6458⟩ := u
  obtain ⟨hP1, hK1, hD1⟩ := hB
  rw [ht] at hP1
  try dsimp only at hw
  obtain ⟨hP, hD⟩ := va_join (wr := [(Ad4, .inr (10, s6431))]) (w1 := [(Ad0, .inr (12, s6455)), (Ad1, .inl (Ka0, 4001, .inl f6456)), (Ad2, .inl (Ka1, 4001, .inl f6457)), (Ad3, .inl (Ka2, 4001, .inr (.inl f6458)))]) hP hD [0, 1, 2, 3] [4] rfl rfl (by decide) (by decide) hk1 hFc hP1 hD1
  have hK := hK.sub (tys' := [(Ka0, .int), (Ka1, .int), (Ka2, .long)]) [0, 1, 2] rfl
  generalize H1 = H at hP hS ⊢
  have hP : va_P (dC, dI) vwCl [(Ad4, .inr (10, s6431)), (Ad0, .inr (12, s6455)), (Ad1, .inl (Ka0, 4001, .inl f6456)), (Ad2, .inl (Ka1, 4001, .inl f6457)), (Ad3, .inl (Ka2, 4001, .inr (.inl f6458)))] H := hP
  have hD : va_D A [(Ad4, .inr (10, s6431)), (Ad0, .inr (12, s6455)), (Ad1, .inl (Ka0, 4001, .inl f6456)), (Ad2, .inl (Ka1, 4001, .inl f6457)), (Ad3, .inl (Ka2, 4001, .inr (.inl f6458)))] := hD
  obtain ⟨o_s6455, q6459, q6460, q6461⟩ := hw
  have o_s6455 := ow_on o_Fs0 o_s6455 (l' := [(11, .long 0), (10, .int 0), (9, .int 0), (8, .int 0), (5, .ref Ad1), (6, .ref Ad2), (7, .ref Ad3), (8, .int 0), (4, .int 0), (1, .int 0), (4, .int 0), (1, .int 0), (5, .ref Ad1), (6, .ref Ad2), (7, .ref Ad3), (1, .int 0), (5, .ref Ad1), (6, .ref Ad2), (7, .ref Ad3)]) (w' := [11, 10, 9, 8, 4]) rfl rfl
  refine lv_iconst (v := 0) hx hb dX7_readAll_27 (by decide) ?_
  refine lv_istore_n (lv' := [(1, .int 0), (0, .ref Ad4)]) hx hb dX7_readAll_28 rfl hl (by decide) rfl (fun ls hl => ?_)
  have HL1 : ∀ (n j6471 : Nat) (x6472 : Int32), x6472 = nI j6471 → 0 ≤ j6471 → j6471 ≤ 13 → 14 ≤ j6471 + n → ∀ (H : Heap) (locs : List Loc) (ls : Array Slot), va_P (dC, dI) vwCl [(Ad4, .inr (10, s6431)), (Ad0, .inr (12, s6455)), (Ad1, .inl (Ka0, 4001, .inl f6456)), (Ad2, .inl (Ka1, 4001, .inl f6457)), (Ad3, .inl (Ka2, 4001, .inr (.inl f6458)))] H → va_D A [(Ad4, .inr (10, s6431)), (Ad0, .inr (12, s6455)), (Ad1, .inl (Ka0, 4001, .inl f6456)), (Ad2, .inl (Ka1, 4001, .inl f6457)), (Ad3, .inl (Ka2, 4001, .inr (.inl f6458)))] → va_S A s.heap H locs → lv_has ls 2 [(1, .int x6472), (0, .ref Ad4)] → W p l e (headSpec w_z_X7_readAll ({ frames := 2, cells := 0, slots := 0, locals := 41 })).room s m ([.ref Ad4]).toArray below meth c H locs 0 0 (MQ below (va_Qi (fun (r : Int32) (u : List Value × (Nat → Int32) × (Nat → Int32) × (Nat → Int64) × List Value) => (r = 1 ∧ ow Fs0 (u.1) 12 [11, 10, 9, 8, 4] [(11, .long 0), (10, .int 0), (9, .int 0), (8, .int 0), (5, .ref Ad1), (6, .ref Ad2), (7, .ref Ad3), (8, .int 0), (4, .int 0), (1, .int 0), (4, .int 0), (1, .int 0), (5, .ref Ad1), (6, .ref Ad2), (7, .ref Ad3), (1, .int 0), (5, .ref Ad1), (6, .ref Ad2), (7, .ref Ad3)] ∧ ow Fs1 (u.2.2.2.2) 21 [20, 19, 16, 3] [(20, .int (-1)), (19, .int 0), (16, .int 0), (3, .int 0), (0, .ref Ad0)] ∧ (u.2.1) (0 : Int32).toNatClampNeg = 0 ∧ (u.2.2.1) (0 : Int32).toNatClampNeg = 0 ∧ (u.2.2.2.1) (0 : Int32).toNatClampNeg = 0) ∨ (r = 1 ∧ ow Fs0 (u.1) 12 [11, 10, 9, 8, 4] [(11, .long 0), (10, .int 0), (9, .int 0), (8, .int 0), (5, .ref Ad1), (6, .ref Ad2), (7, .ref Ad3), (8, .int 0), (4, .int 0), (1, .int 0), (4, .int 0), (1, .int 0), (5, .ref Ad1), (6, .ref Ad2), (7, .ref Ad3), (1, .int 0), (5, .ref Ad1), (6, .ref Ad2), (7, .ref Ad3)] ∧ ow Fs1 (u.2.2.2.2) 21 [20, 19, 16, 3] [(20, .int (-1)), (19, .int 0), (16, .int 0), (3, .int 0), (0, .ref Ad0)] ∧ (u.2.1) (0 : Int32).toNatClampNeg = 0 ∧ (u.2.2.1) (0 : Int32).toNatClampNeg = 0 ∧ (u.2.2.2.1) (0 : Int32).toNatClampNeg = 0)) (fun (u : List Value × (Nat → Int32) × (Nat → Int32) × (Nat → Int64) × List Value) t => Wd dC dI [(Ka0, .int), (Ka1, .int), (Ka2, .long)] A [(Ad0, .inr (12, (u.1))), (Ad1, .inl (Ka0, 4001, .inl ((u.2.1)))), (Ad2, .inl (Ka1, 4001, .inl ((u.2.2.1)))), (Ad3, .inl (Ka2, 4001, .inr (.inl ((u.2.2.2.1))))), (Ad4, .inr (10, (u.2.2.2.2)))] t) A) ([.ref Ad4]).toArray s 0 0 A) (F0 m 29 ls []) := by
    intro n
    induction n with
    | zero =>
      intro j6471 x6472 e6473 h6475 h6476 h6477
      exact absurd h6477 (by omega)
    | succ n ih =>
      intro j6471 x6472 e6473 h6475 h6476 h6477 H locs ls hP hD hS hl
      have t6474 : x6472.toInt = (j6471 : Int) := by rw [e6473]; exact nI_toInt (by omega)
      refine lv_iload_n hx hb dX7_readAll_29 rfl (lv_at hl 0 rfl) ?_
      refine lv_bipush (v := 12) hx hb dX7_readAll_30 (by decide) ?_
      refine lv_icmp_gt (tgt := 70) hx hb dX7_readAll_32 (by decide) (fun c6478 => ?_) (fun c6478 => ?_)
      · skip
        refine lv_iconst (v := 1) hx hb dX7_readAll_70 (by decide) ?_
        have hP9 := hP.sub (ws' := [(Ad0, .inr (12, s6455)), (Ad1, .inl (Ka0, 4001, .inl f6456)), (Ad2, .inl (Ka1, 4001, .inl f6457)), (Ad3, .inl (Ka2, 4001, .inr (.inl f6458))), (Ad4, .inr (10, s6431))]) [1, 2, 3, 4, 0] rfl
        have hD9 := hD.sub (ws' := [(Ad0, .inr (12, s6455)), (Ad1, .inl (Ka0, 4001, .inl f6456)), (Ad2, .inl (Ka1, 4001, .inl f6457)), (Ad3, .inl (Ka2, 4001, .inr (.inl f6458))), (Ad4, .inr (10, s6431))]) [1, 2, 3, 4, 0] (by decide) rfl
        have hK9 := hK.sub (tys' := [(Ka0, .int), (Ka1, .int), (Ka2, .long)]) [0, 1, 2] rfl
        exact W.zret (v := 1) hx hb hr rfl (fun t ht hW => ⟨⟨1, (s6455, f6456, f6457, f6458, s6431), rfl, (Or.inl ⟨rfl, o_s6455, o_s6431, q6459, q6460, q6461⟩), by rw [ht]; exact hP9, va_K.moved hW.alike hK9, hD9⟩, hS.F ht⟩) hS.2.2 dX7_readAll_71
      · skip
        refine lv_aload_n hx hb dX7_readAll_35 rfl (lv_at hl 1 rfl) ?_
        refine va_get (D := (dC, dI)) (ci := 10) (v := .ref Ad0) (C := RX7) (T := TX7) (N := 21) hx hb hts (in_z_X7_readAll_X7) hown hK hP 0 rfl rfl 0 (by decide) (hts (.fieldLink RX7 9 "HeapWorks$RuleText" "tape" "LHeapWorks$Tape;") (by decide +kernel)) (fun _ h9 => h9) (ow_at o_s6431 4 rfl) dX7_readAll_36 ?_
        refine va_get (D := (dC, dI)) (ci := 12) (v := .int 0) (C := RX9) (T := TX9) (N := 12) hx hb hts (in_z_X7_readAll_X9) hown hK hP 1 rfl rfl 9 (by decide) (hts (.fieldLink RX7 86 "HeapWorks$Tape" "word" "I") (by decide +kernel)) (fun _ h9 => h9) (ow_at o_s6455 2 rfl) dX7_readAll_39 ?_
        refine lv_if_eq (tgt := 70) hx hb dX7_readAll_42 (by decide) (fun c6479 => ?_) (fun c6479 => absurd c6479 (by decide))
        refine lv_iconst (v := 1) hx hb dX7_readAll_70 (by decide) ?_
        have hP9 := hP.sub (ws' := [(Ad0, .inr (12, s6455)), (Ad1, .inl (Ka0, 4001, .inl f6456)), (Ad2, .inl (Ka1, 4001, .inl f6457)), (Ad3, .inl (Ka2, 4001, .inr (.inl f6458))), (Ad4, .inr (10, s6431))]) [1, 2, 3, 4, 0] rfl
        have hD9 := hD.sub (ws' := [(Ad0, .inr (12, s6455)), (Ad1, .inl (Ka0, 4001, .inl f6456)), (Ad2, .inl (Ka1, 4001, .inl f6457)), (Ad3, .inl (Ka2, 4001, .inr (.inl f6458))), (Ad4, .inr (10, s6431))]) [1, 2, 3, 4, 0] (by decide) rfl
        have hK9 := hK.sub (tys' := [(Ka0, .int), (Ka1, .int), (Ka2, .long)]) [0, 1, 2] rfl
        exact W.zret (v := 1) hx hb hr rfl (fun t ht hW => ⟨⟨1, (s6455, f6456, f6457, f6458, s6431), rfl, (Or.inr (⟨rfl, o_s6455, o_s6431, q6459, q6460, q6461⟩)), by rw [ht]; exact hP9, va_K.moved hW.alike hK9, hD9⟩, hS.F ht⟩) hS.2.2 dX7_readAll_71
  exact HL1 14 0 (0)  (by decide) (by omega) (by omega) (by omega) _ _ _ hP hD hS  hl

def l_z_X11_tellFault_1 : List Cond := [.fieldLink RX11 469 "HeapWorks" "faultCode" "I", .fieldLink RX11 98 "HeapWorks" "faultPlace" "I"]
def w_z_X11_tellFault_1 : List Cond := .code yX11_tellFault cX11_tellFault 3 none :: (l_z_X11_tellFault_1 ++ (wsX110))
theorem in_z_X11_tellFault_1_X11 : ∀ w ∈ wsX110, w ∈ w_z_X11_tellFault_1 := fun w h => List.mem_cons_of_mem _ (List.mem_append_right _ (h))
set_option maxHeartbeats 4000000 in
set_option maxRecDepth 100000 in
theorem z_X11_tellFault_1 (l : Launch) (dC : Nat → ClassId) (dI : Nat → Nat → Nat) (sz : Nat) (Ad0 : Nat) (Fs0 : List Value) (k_Fs0 : fh Fs0 18 [])  : Met l yX11_tellFault w_z_X11_tellFault_1 ({ frames := 0, cells := 0, slots := 0, locals := 0 }) (va_Pc [.ref Ad0, .int 0, .int (-1)] (fun U => U.heap.size = sz ∧ Wd dC dI [] (fun _ => True) [(Ad0, .inr (14, Fs0))] U)) (va_Qv (fun (u : List Value) => ow Fs0 (u) 18 [17, 16] [(17, .int (-1)), (16, .int 0)]) (fun (u : List Value) t => Wd dC dI [] (va_A [(Ad0, .inr (14, Fs0))] sz) [(Ad0, .inr (14, (u)))] t) (va_A [(Ad0, .inr (14, Fs0))] sz))  0 0 (va_A [(Ad0, .inr (14, Fs0))] sz) := by
  refine Met.ofW (cc := cX11_tellFault) (maxL := 3) (ret := none) (by decide) rfl ?_
  intro p e s m args below meth c s₁ B hml hv
  obtain ⟨rfl, hsz, hP, hK, hD0⟩ := hv
  have hx := B.exec
  have hb := B.bytes
  have hr := B.returns
  have hts := atoms_spec (ws := w_z_X11_tellFault_1) B.pre
  have hown : s.vm.findClass RX11 = some m.cls := findClass_of_methodNamed B.named
  have hlocks := B.notSynchronized
  subst hsz
  have hD := hD0.self (sz := s.heap.size)
  generalize hAe : va_A [(Ad0, .inr (14, Fs0))] s.heap.size = A at hD ⊢
  have hA : ∀ q : Nat, s.heap.size ≤ q → A q := fun q h => by rw [← hAe]; exact Or.inr h
  have hS : va_S A s.heap s.heap [] := va_S.rf
  have hl := lv_entry ([.ref Ad0, .int 0, .int (-1)]) (n := 3) (Nat.le_of_ble_eq_true rfl)
  rw [lg_entry_eq]
  generalize (lg_sl ([.ref Ad0, .int 0, .int (-1)]) ++ List.replicate (3 - (lg_sl ([.ref Ad0, .int 0, .int (-1)])).length) Slot.unset).toArray = ls at hl ⊢
  have hl : lv_has ls 3 [(0, .ref Ad0), (1, .int 0), (2, .int (-1))] := hl
  have o_Fs0 := ow_0 k_Fs0
  refine lv_aload_n hx hb dX11_tellFault_0 rfl (lv_at hl 0 rfl) ?_
  refine lv_iload_n hx hb dX11_tellFault_1 rfl (lv_at hl 1 rfl) ?_
  refine va_put (D := (dC, dI)) (ci := 14) (v := .int 0) (ty := .int) (C := RX11) (T := TX11) (N := 18) hx hb hts (in_z_X11_tellFault_1_X11) tyX11 tyX11_ok nmX11 hown hK hP hD hS 0 rfl rfl 16 (by decide) (hts (.fieldLink RX11 469 "HeapWorks" "faultCode" "I") (by decide +kernel)) (fun _ h9 => h9) rfl (by decide +kernel) rfl rfl (by rw [o_Fs0.2.1]; decide) dX11_tellFault_2 (fun H locs hP hD hS => ?_)
  have hP : va_P (dC, dI) vwCl [(Ad0, .inr (14, (Fs0.set 16 (.int 0))))] H := hP
  have hD : va_D A [(Ad0, .inr (14, (Fs0.set 16 (.int 0))))] := hD
  have o_s6497 := ow_set o_Fs0 16 (.int 0) (by decide) (l' := [(16, .int 0)]) (w' := [16]) rfl rfl
  generalize (Fs0.set 16 (.int 0)) = s6497 at hP hD o_s6497
  refine lv_aload_n hx hb dX11_tellFault_5 rfl (lv_at hl 0 rfl) ?_
  refine lv_iload_n hx hb dX11_tellFault_6 rfl (lv_at hl 1 rfl) ?_
  refine lv_if_ne (tgt := 14) hx hb dX11_tellFault_7 (by decide) (fun c6498 => absurd c6498 (by decide)) (fun c6498 => ?_)
  refine lv_iconst (v := (-1)) hx hb dX11_tellFault_10 (by decide) ?_
  refine lv_goto (tgt := 15) hx hb dX11_tellFault_11 (by decide) ?_
  refine va_put (D := (dC, dI)) (ci := 14) (v := .int (-1)) (ty := .int) (C := RX11) (T := TX11) (N := 18) hx hb hts (in_z_X11_tellFault_1_X11) tyX11 tyX11_ok nmX11 hown hK hP hD hS 0 rfl rfl 17 (by decide) (hts (.fieldLink RX11 98 "HeapWorks" "faultPlace" "I") (by decide +kernel)) (fun _ h9 => h9) rfl (by decide +kernel) rfl rfl (by rw [o_s6497.2.1]; decide) dX11_tellFault_15 (fun H locs hP hD hS => ?_)
  have hP : va_P (dC, dI) vwCl [(Ad0, .inr (14, (s6497.set 17 (.int (-1)))))] H := hP
  have hD : va_D A [(Ad0, .inr (14, (s6497.set 17 (.int (-1)))))] := hD
  have o_s6499 := ow_set o_s6497 17 (.int (-1)) (by decide) (l' := [(17, .int (-1)), (16, .int 0)]) (w' := [17, 16]) rfl rfl
  generalize (s6497.set 17 (.int (-1))) = s6499 at hP hD o_s6499
  have hP9 := hP.sub (ws' := [(Ad0, .inr (14, s6499))]) [0] rfl
  have hD9 := hD.sub (ws' := [(Ad0, .inr (14, s6499))]) [0] (by decide) rfl
  have hK9 := hK.sub (tys' := []) [] rfl
  exact W.vret hx hb hr (fun t ht hW => ⟨⟨s6499, rfl, o_s6499, by rw [ht]; exact hP9, va_K.moved hW.alike hK9, hD9⟩, hS.F ht⟩) hS.2.2 dX11_tellFault_18

def l_z_J7_fill_d0a16 : List Cond := []
def w_z_J7_fill_d0a16 : List Cond := .code yJ7_fill_d0a16 cJ7_fill_d0a16 5 none :: (l_z_J7_fill_d0a16)
set_option maxHeartbeats 4000000 in
set_option maxRecDepth 100000 in
theorem z_J7_fill_d0a16 (l : Launch) (dC : Nat → ClassId) (dI : Nat → Nat → Nat) (sz : Nat) (Ad0 : Nat) (Fa0 : Nat → Int64) (Ka0 : ClassId)   : Met l yJ7_fill_d0a16 w_z_J7_fill_d0a16 ({ frames := 0, cells := 0, slots := 0, locals := 0 }) (va_Pc [.ref Ad0, .long 0] (fun U => U.heap.size = sz ∧ Wd dC dI [(Ka0, .long)] (fun _ => True) [(Ad0, .inl (Ka0, 360, .inr (.inl Fa0)))] U)) (va_Qv (fun (u : (Nat → Int64)) => True) (fun (u : (Nat → Int64)) t => Wd dC dI [(Ka0, .long)] (va_A [(Ad0, .inl (Ka0, 360, .inr (.inl Fa0)))] sz) [(Ad0, .inl (Ka0, 360, .inr (.inl ((u)))))] t) (va_A [(Ad0, .inl (Ka0, 360, .inr (.inl Fa0)))] sz))  0 0 (va_A [(Ad0, .inl (Ka0, 360, .inr (.inl Fa0)))] sz) := by
  refine Met.ofW (cc := cJ7_fill_d0a16) (maxL := 5) (ret := none) (by decide) rfl ?_
  intro p e s m args below meth c s₁ B hml hv
  obtain ⟨rfl, hsz, hP, hK, hD0⟩ := hv
  have hx := B.exec
  have hb := B.bytes
  have hr := B.returns
  have hts := atoms_spec (ws := w_z_J7_fill_d0a16) B.pre
  have hown : s.vm.findClass RJ7 = some m.cls := findClass_of_methodNamed B.named
  have hlocks := B.notSynchronized
  subst hsz
  have hD := hD0.self (sz := s.heap.size)
  generalize hAe : va_A [(Ad0, .inl (Ka0, 360, .inr (.inl Fa0)))] s.heap.size = A at hD ⊢
  have hA : ∀ q : Nat, s.heap.size ≤ q → A q := fun q h => by rw [← hAe]; exact Or.inr h
  have hS : va_S A s.heap s.heap [] := va_S.rf
  have hl := lv_entry ([.ref Ad0, .long 0]) (n := 5) (Nat.le_of_ble_eq_true rfl)
  rw [lg_entry_eq]
  generalize (lg_sl ([.ref Ad0, .long 0]) ++ List.replicate (5 - (lg_sl ([.ref Ad0, .long 0])).length) Slot.unset).toArray = ls at hl ⊢
  have hl : lv_has ls 5 [(0, .ref Ad0), (1, .long 0)] := hl
  refine lv_iconst (v := 0) hx hb dJ7_fill_d0a16_0 (by decide) ?_
  refine lv_istore_n (lv' := [(3, .int 0), (0, .ref Ad0), (1, .long 0)]) hx hb dJ7_fill_d0a16_1 rfl hl (by decide) rfl (fun ls hl => ?_)
  refine lv_aload_n hx hb dJ7_fill_d0a16_2 rfl (lv_at hl 1 rfl) ?_
  refine va_alen (v := 360) hx hb hK hP 0 0 rfl rfl (show Int32.ofNat 360 = 360 from by decide) dJ7_fill_d0a16_3 ?_
  refine lv_istore (lv' := [(4, .int 360), (3, .int 0), (0, .ref Ad0), (1, .long 0)]) hx hb dJ7_fill_d0a16_4 hl (by decide) rfl (fun ls hl => ?_)
  have HL1 : ∀ (n j6566 : Nat) (x6567 : Int32) (f6568 : Nat → Int64), x6567 = nI j6566 → 0 ≤ j6566 → j6566 ≤ 360 → 361 ≤ j6566 + n → ∀ (H : Heap) (locs : List Loc) (ls : Array Slot), va_P (dC, dI) vwCl [(Ad0, .inl (Ka0, 360, .inr (.inl f6568)))] H → va_D A [(Ad0, .inl (Ka0, 360, .inr (.inl f6568)))] → va_S A s.heap H locs → lv_has ls 5 [(4, .int 360), (3, .int x6567), (0, .ref Ad0), (1, .long 0)] → W p l e (headSpec w_z_J7_fill_d0a16 ({ frames := 0, cells := 0, slots := 0, locals := 0 })).room s m ([.ref Ad0, .long 0]).toArray below meth c H locs 0 0 (MQ below (va_Qv (fun (u : (Nat → Int64)) => True) (fun (u : (Nat → Int64)) t => Wd dC dI [(Ka0, .long)] A [(Ad0, .inl (Ka0, 360, .inr (.inl ((u)))))] t) A) ([.ref Ad0, .long 0]).toArray s 0 0 A) (F0 m 6 ls []) := by
    intro n
    induction n with
    | zero =>
      intro j6566 x6567 f6568 e6569 h6571 h6572 h6573
      exact absurd h6573 (by omega)
    | succ n ih =>
      intro j6566 x6567 f6568 e6569 h6571 h6572 h6573 H locs ls hP hD hS hl
      have t6570 : x6567.toInt = (j6566 : Int) := by rw [e6569]; exact nI_toInt (by omega)
      refine lv_iload_n hx hb dJ7_fill_d0a16_6 rfl (lv_at hl 1 rfl) ?_
      refine lv_iload hx hb dJ7_fill_d0a16_7 (lv_at hl 0 rfl) ?_
      refine lv_icmp_ge (tgt := 22) hx hb dJ7_fill_d0a16_9 (by decide) (fun c6574 => ?_) (fun c6574 => ?_)
      · skip
        have hP9 := hP.sub (ws' := [(Ad0, .inl (Ka0, 360, .inr (.inl f6568)))]) [0] rfl
        have hD9 := hD.sub (ws' := [(Ad0, .inl (Ka0, 360, .inr (.inl f6568)))]) [0] (by decide) rfl
        have hK9 := hK.sub (tys' := [(Ka0, .long)]) [0] rfl
        exact W.vret hx hb hr (fun t ht hW => ⟨⟨f6568, rfl, trivial, by rw [ht]; exact hP9, va_K.moved hW.alike hK9, hD9⟩, hS.F ht⟩) hS.2.2 dJ7_fill_d0a16_22
      · skip
        refine lv_aload_n hx hb dJ7_fill_d0a16_12 rfl (lv_at hl 2 rfl) ?_
        refine lv_iload_n hx hb dJ7_fill_d0a16_13 rfl (lv_at hl 1 rfl) ?_
        refine lv_lload_n hx hb dJ7_fill_d0a16_14 rfl (lv_at hl 3 rfl) ?_
        refine va_last hx hb hK hP hD hS 0 0 rfl rfl (by rw [vp_in_iff]; (try simp only [i_lt, i_le, i_eq, kc_360] at t6570 h6572 h6571 c6574); omega) dJ7_fill_d0a16_15 (fun H locs hP hD hS => ?_)
        have hP : va_P (dC, dI) vwCl [(Ad0, .inl (Ka0, 360, .inr (.inl (vp_updL f6568 (x6567 : Int32).toNatClampNeg 0))))] H := hP
        have hD : va_D A [(Ad0, .inl (Ka0, 360, .inr (.inl (vp_updL f6568 (x6567 : Int32).toNatClampNeg 0))))] := hD
        have q6576 : (vp_updL f6568 (x6567 : Int32).toNatClampNeg 0) (x6567 : Int32).toNatClampNeg = 0 := pk_uLs
        generalize vp_updL f6568 (x6567 : Int32).toNatClampNeg 0 = f6575 at hP hD q6576
        obtain ⟨x6577, ex6577⟩ : ∃ y : Int32, y = x6567 + 1 := ⟨_, rfl⟩
        refine lv_iinc (v := x6577) (lv' := [(3, .int x6577), (4, .int 360), (0, .ref Ad0), (1, .long 0)]) hx hb dJ7_fill_d0a16_16 hl (k := 1) rfl (by rw [ex6577]; rfl) (by decide) rfl (fun ls hl => ?_)
        refine lv_goto (tgt := 6) hx hb dJ7_fill_d0a16_19 (by decide) ?_
        exact ih (j6566 + 1) x6577 f6575 (by rw [ex6577, e6569]; exact nI_1 _) (by omega) (by (try simp only [i_lt, i_le, i_eq, kc_360] at t6570 h6572 h6571 c6574); omega) (by omega) _ _ _ (hP.sub [0] rfl) (hD.sub [0] (by decide) rfl) hS  (lv_sub hl [1, 0, 2, 3] rfl)
  exact HL1 361 0 (0) Fa0 (by decide) (by omega) (by omega) (by omega) _ _ _ hP hD hS  hl

def l_z_J7_fill_d0a16_1 : List Cond := []
def w_z_J7_fill_d0a16_1 : List Cond := .code yJ7_fill_d0a16 cJ7_fill_d0a16 5 none :: (l_z_J7_fill_d0a16_1)
set_option maxHeartbeats 4000000 in
set_option maxRecDepth 100000 in
theorem z_J7_fill_d0a16_1 (l : Launch) (dC : Nat → ClassId) (dI : Nat → Nat → Nat) (sz : Nat) (Ad0 : Nat) (Fa0 : Nat → Int64) (Ka0 : ClassId)   : Met l yJ7_fill_d0a16 w_z_J7_fill_d0a16_1 ({ frames := 0, cells := 0, slots := 0, locals := 0 }) (va_Pc [.ref Ad0, .long 0] (fun U => U.heap.size = sz ∧ Wd dC dI [(Ka0, .long)] (fun _ => True) [(Ad0, .inl (Ka0, 9, .inr (.inl Fa0)))] U)) (va_Qv (fun (u : (Nat → Int64)) => True) (fun (u : (Nat → Int64)) t => Wd dC dI [(Ka0, .long)] (va_A [(Ad0, .inl (Ka0, 9, .inr (.inl Fa0)))] sz) [(Ad0, .inl (Ka0, 9, .inr (.inl ((u)))))] t) (va_A [(Ad0, .inl (Ka0, 9, .inr (.inl Fa0)))] sz))  0 0 (va_A [(Ad0, .inl (Ka0, 9, .inr (.inl Fa0)))] sz) := by
  refine Met.ofW (cc := cJ7_fill_d0a16) (maxL := 5) (ret := none) (by decide) rfl ?_
  intro p e s m args below meth c s₁ B hml hv
  obtain ⟨rfl, hsz, hP, hK, hD0⟩ := hv
  have hx := B.exec
  have hb := B.bytes
  have hr := B.returns
  have hts := atoms_spec (ws := w_z_J7_fill_d0a16_1) B.pre
  have hown : s.vm.findClass RJ7 = some m.cls := findClass_of_methodNamed B.named
  have hlocks := B.notSynchronized
  subst hsz
  have hD := hD0.self (sz := s.heap.size)
  generalize hAe : va_A [(Ad0, .inl (Ka0, 9, .inr (.inl Fa0)))] s.heap.size = A at hD ⊢
  have hA : ∀ q : Nat, s.heap.size ≤ q → A q := fun q h => by rw [← hAe]; exact Or.inr h
  have hS : va_S A s.heap s.heap [] := va_S.rf
  have hl := lv_entry ([.ref Ad0, .long 0]) (n := 5) (Nat.le_of_ble_eq_true rfl)
  rw [lg_entry_eq]
  generalize (lg_sl ([.ref Ad0, .long 0]) ++ List.replicate (5 - (lg_sl ([.ref Ad0, .long 0])).length) Slot.unset).toArray = ls at hl ⊢
  have hl : lv_has ls 5 [(0, .ref Ad0), (1, .long 0)] := hl
  refine lv_iconst (v := 0) hx hb dJ7_fill_d0a16_0 (by decide) ?_
  refine lv_istore_n (lv' := [(3, .int 0), (0, .ref Ad0), (1, .long 0)]) hx hb dJ7_fill_d0a16_1 rfl hl (by decide) rfl (fun ls hl => ?_)
  refine lv_aload_n hx hb dJ7_fill_d0a16_2 rfl (lv_at hl 1 rfl) ?_
  refine va_alen (v := 9) hx hb hK hP 0 0 rfl rfl (show Int32.ofNat 9 = 9 from by decide) dJ7_fill_d0a16_3 ?_
  refine lv_istore (lv' := [(4, .int 9), (3, .int 0), (0, .ref Ad0), (1, .long 0)]) hx hb dJ7_fill_d0a16_4 hl (by decide) rfl (fun ls hl => ?_)
  have HL1 : ∀ (n j6673 : Nat) (x6674 : Int32) (f6675 : Nat → Int64), x6674 = nI j6673 → 0 ≤ j6673 → j6673 ≤ 9 → 10 ≤ j6673 + n → ∀ (H : Heap) (locs : List Loc) (ls : Array Slot), va_P (dC, dI) vwCl [(Ad0, .inl (Ka0, 9, .inr (.inl f6675)))] H → va_D A [(Ad0, .inl (Ka0, 9, .inr (.inl f6675)))] → va_S A s.heap H locs → lv_has ls 5 [(4, .int 9), (3, .int x6674), (0, .ref Ad0), (1, .long 0)] → W p l e (headSpec w_z_J7_fill_d0a16_1 ({ frames := 0, cells := 0, slots := 0, locals := 0 })).room s m ([.ref Ad0, .long 0]).toArray below meth c H locs 0 0 (MQ below (va_Qv (fun (u : (Nat → Int64)) => True) (fun (u : (Nat → Int64)) t => Wd dC dI [(Ka0, .long)] A [(Ad0, .inl (Ka0, 9, .inr (.inl ((u)))))] t) A) ([.ref Ad0, .long 0]).toArray s 0 0 A) (F0 m 6 ls []) := by
    intro n
    induction n with
    | zero =>
      intro j6673 x6674 f6675 e6676 h6678 h6679 h6680
      exact absurd h6680 (by omega)
    | succ n ih =>
      intro j6673 x6674 f6675 e6676 h6678 h6679 h6680 H locs ls hP hD hS hl
      have t6677 : x6674.toInt = (j6673 : Int) := by rw [e6676]; exact nI_toInt (by omega)
      refine lv_iload_n hx hb dJ7_fill_d0a16_6 rfl (lv_at hl 1 rfl) ?_
      refine lv_iload hx hb dJ7_fill_d0a16_7 (lv_at hl 0 rfl) ?_
      refine lv_icmp_ge (tgt := 22) hx hb dJ7_fill_d0a16_9 (by decide) (fun c6681 => ?_) (fun c6681 => ?_)
      · skip
        have hP9 := hP.sub (ws' := [(Ad0, .inl (Ka0, 9, .inr (.inl f6675)))]) [0] rfl
        have hD9 := hD.sub (ws' := [(Ad0, .inl (Ka0, 9, .inr (.inl f6675)))]) [0] (by decide) rfl
        have hK9 := hK.sub (tys' := [(Ka0, .long)]) [0] rfl
        exact W.vret hx hb hr (fun t ht hW => ⟨⟨f6675, rfl, trivial, by rw [ht]; exact hP9, va_K.moved hW.alike hK9, hD9⟩, hS.F ht⟩) hS.2.2 dJ7_fill_d0a16_22
      · skip
        refine lv_aload_n hx hb dJ7_fill_d0a16_12 rfl (lv_at hl 2 rfl) ?_
        refine lv_iload_n hx hb dJ7_fill_d0a16_13 rfl (lv_at hl 1 rfl) ?_
        refine lv_lload_n hx hb dJ7_fill_d0a16_14 rfl (lv_at hl 3 rfl) ?_
        refine va_last hx hb hK hP hD hS 0 0 rfl rfl (by rw [vp_in_iff]; (try simp only [i_lt, i_le, i_eq, kc_9] at t6677 h6679 h6678 c6681); omega) dJ7_fill_d0a16_15 (fun H locs hP hD hS => ?_)
        have hP : va_P (dC, dI) vwCl [(Ad0, .inl (Ka0, 9, .inr (.inl (vp_updL f6675 (x6674 : Int32).toNatClampNeg 0))))] H := hP
        have hD : va_D A [(Ad0, .inl (Ka0, 9, .inr (.inl (vp_updL f6675 (x6674 : Int32).toNatClampNeg 0))))] := hD
        have q6683 : (vp_updL f6675 (x6674 : Int32).toNatClampNeg 0) (x6674 : Int32).toNatClampNeg = 0 := pk_uLs
        generalize vp_updL f6675 (x6674 : Int32).toNatClampNeg 0 = f6682 at hP hD q6683
        obtain ⟨x6684, ex6684⟩ : ∃ y : Int32, y = x6674 + 1 := ⟨_, rfl⟩
        refine lv_iinc (v := x6684) (lv' := [(3, .int x6684), (4, .int 9), (0, .ref Ad0), (1, .long 0)]) hx hb dJ7_fill_d0a16_16 hl (k := 1) rfl (by rw [ex6684]; rfl) (by decide) rfl (fun ls hl => ?_)
        refine lv_goto (tgt := 6) hx hb dJ7_fill_d0a16_19 (by decide) ?_
        exact ih (j6673 + 1) x6684 f6682 (by rw [ex6684, e6676]; exact nI_1 _) (by omega) (by (try simp only [i_lt, i_le, i_eq, kc_9] at t6677 h6679 h6678 c6681); omega) (by omega) _ _ _ (hP.sub [0] rfl) (hD.sub [0] (by decide) rfl) hS  (lv_sub hl [1, 0, 2, 3] rfl)
  exact HL1 10 0 (0) Fa0 (by decide) (by omega) (by omega) (by omega) _ _ _ hP hD hS  hl

def l_z_X1_addGiven : List Cond := [.fieldLink RX1 50 "HeapWorks$FactBook" "things" "I"]
def w_z_X1_addGiven : List Cond := .code yX1_addGiven cX1_addGiven 4 none :: (l_z_X1_addGiven ++ (wsX10))
theorem in_z_X1_addGiven_X1 : ∀ w ∈ wsX10, w ∈ w_z_X1_addGiven := fun w h => List.mem_cons_of_mem _ (List.mem_append_right _ (h))
set_option maxHeartbeats 4000000 in
set_option maxRecDepth 100000 in
theorem z_X1_addGiven (l : Launch) (dC : Nat → ClassId) (dI : Nat → Nat → Nat) (sz : Nat) (Ad0 : Nat) (Fs0 : List Value) (Br0 : Nat) (k_Fs0 : fh Fs0 10 [(1, .int 0)])  : Met l yX1_addGiven w_z_X1_addGiven ({ frames := 0, cells := 0, slots := 0, locals := 0 }) (va_Pc [.ref Ad0, .ref Br0] (fun U => U.heap.size = sz ∧ Wd dC dI [] (fun _ => True) [(Ad0, .inr (4, Fs0))] U)) (va_Qv (fun (u : Unit) => True) (fun (u : Unit) t => Wd dC dI [] (va_A [(Ad0, .inr (4, Fs0))] sz) [(Ad0, .inr (4, Fs0))] t) (va_A [(Ad0, .inr (4, Fs0))] sz))  0 0 (va_A [(Ad0, .inr (4, Fs0))] sz) := by
  refine Met.ofW (cc := cX1_addGiven) (maxL := 4) (ret := none) (by decide) rfl ?_
  intro p e s m args below meth c s₁ B hml hv
  obtain ⟨rfl, hsz, hP, hK, hD0⟩ := hv
  have hx := B.exec
  have hb := B.bytes
  have hr := B.returns
  have hts := atoms_spec (ws := w_z_X1_addGiven) B.pre
  have hown : s.vm.findClass RX1 = some m.cls := findClass_of_methodNamed B.named
  have hlocks := B.notSynchronized
  subst hsz
  have hD := hD0.self (sz := s.heap.size)
  generalize hAe : va_A [(Ad0, .inr (4, Fs0))] s.heap.size = A at hD ⊢
  have hA : ∀ q : Nat, s.heap.size ≤ q → A q := fun q h => by rw [← hAe]; exact Or.inr h
  have hS : va_S A s.heap s.heap [] := va_S.rf
  have hl := lv_entry ([.ref Ad0, .ref Br0]) (n := 4) (Nat.le_of_ble_eq_true rfl)
  rw [lg_entry_eq]
  generalize (lg_sl ([.ref Ad0, .ref Br0]) ++ List.replicate (4 - (lg_sl ([.ref Ad0, .ref Br0])).length) Slot.unset).toArray = ls at hl ⊢
  have hl : lv_has ls 4 [(0, .ref Ad0), (1, .ref Br0)] := hl
  have o_Fs0 := ow_0 k_Fs0
  refine lv_iconst (v := 0) hx hb dX1_addGiven_0 (by decide) ?_
  refine lv_istore_n (lv' := [(2, .int 0), (0, .ref Ad0), (1, .ref Br0)]) hx hb dX1_addGiven_1 rfl hl (by decide) rfl (fun ls hl => ?_)
  refine lv_iload_n hx hb dX1_addGiven_2 rfl (lv_at hl 0 rfl) ?_
  refine lv_aload_n hx hb dX1_addGiven_3 rfl (lv_at hl 1 rfl) ?_
  refine va_get (D := (dC, dI)) (ci := 4) (v := .int 0) (C := RX1) (T := TX1) (N := 10) hx hb hts (in_z_X1_addGiven_X1) hown hK hP 0 rfl rfl 1 (by decide) (hts (.fieldLink RX1 50 "HeapWorks$FactBook" "things" "I") (by decide +kernel)) (fun _ h9 => h9) (ow_at o_Fs0 0 rfl) dX1_addGiven_4 ?_
  refine lv_icmp_ge (tgt := 111) hx hb dX1_addGiven_7 (by decide) (fun c6687 => ?_) (fun c6687 => absurd c6687 (by decide))
  have hP9 := hP.sub (ws' := [(Ad0, .inr (4, Fs0))]) [0] rfl
  have hD9 := hD.sub (ws' := [(Ad0, .inr (4, Fs0))]) [0] (by decide) rfl
  have hK9 := hK.sub (tys' := []) [] rfl
  exact W.vret hx hb hr (fun t ht hW => ⟨⟨(), rfl, trivial, by rw [ht]; exact hP9, va_K.moved hW.alike hK9, hD9⟩, hS.F ht⟩) hS.2.2 dX1_addGiven_111

def l_z_X1_findClasses : List Cond := [.fieldLink RX1 34 "HeapWorks$FactBook" "text" "LHeapWorks$RuleText;", .fieldLink RX1 73 "HeapWorks$RuleText" "rules" "I"]
def w_z_X1_findClasses : List Cond := .code yX1_findClasses cX1_findClasses 6 none :: (l_z_X1_findClasses ++ ((wsX10 ++ wsX70)))
theorem in_z_X1_findClasses_X1 : ∀ w ∈ wsX10, w ∈ w_z_X1_findClasses := fun w h => List.mem_cons_of_mem _ (List.mem_append_right _ (List.mem_append_left _ h))
theorem in_z_X1_findClasses_X7 : ∀ w ∈ wsX70, w ∈ w_z_X1_findClasses := fun w h => List.mem_cons_of_mem _ (List.mem_append_right _ (List.mem_append_right _ (h)))
set_option maxHeartbeats 4000000 in
set_option maxRecDepth 100000 in
theorem z_X1_findClasses (l : Launch) (dC : Nat → ClassId) (dI : Nat → Nat → Nat) (sz : Nat) (Ad0 : Nat) (Fs0 : List Value) (Ad1 : Nat) (Fs1 : List Value) (Br0 : Nat) (k_Fs0 : fh Fs0 21 [(3, .int 0)]) (k_Fs1 : fh Fs1 10 [(8, .ref Ad0)])  : Met l yX1_findClasses w_z_X1_findClasses ({ frames := 0, cells := 0, slots := 0, locals := 0 }) (va_Pc [.ref Ad1, .ref Br0] (fun U => U.heap.size = sz ∧ Wd dC dI [] (fun _ => True) [(Ad0, .inr (10, Fs0)), (Ad1, .inr (4, Fs1))] U)) (va_Qv (fun (u : Unit) => True) (fun (u : Unit) t => Wd dC dI [] (va_A [(Ad0, .inr (10, Fs0)), (Ad1, .inr (4, Fs1))] sz) [(Ad0, .inr (10, Fs0)), (Ad1, .inr (4, Fs1))] t) (va_A [(Ad0, .inr (10, Fs0)), (Ad1, .inr (4, Fs1))] sz))  0 0 (va_A [(Ad0, .inr (10, Fs0)), (Ad1, .inr (4, Fs1))] sz) := by
  refine Met.ofW (cc := cX1_findClasses) (maxL := 6) (ret := none) (by decide) rfl ?_
  intro p e s m args below meth c s₁ B hml hv
  obtain ⟨rfl, hsz, hP, hK, hD0⟩ := hv
  have hx := B.exec
  have hb := B.bytes
  have hr := B.returns
  have hts := atoms_spec (ws := w_z_X1_findClasses) B.pre
  have hown : s.vm.findClass RX1 = some m.cls := findClass_of_methodNamed B.named
  have hlocks := B.notSynchronized
  subst hsz
  have hD := hD0.self (sz := s.heap.size)
  generalize hAe : va_A [(Ad0, .inr (10, Fs0)), (Ad1, .inr (4, Fs1))] s.heap.size = A at hD ⊢
  have hA : ∀ q : Nat, s.heap.size ≤ q → A q := fun q h => by rw [← hAe]; exact Or.inr h
  have hS : va_S A s.heap s.heap [] := va_S.rf
  have hl := lv_entry ([.ref Ad1, .ref Br0]) (n := 6) (Nat.le_of_ble_eq_true rfl)
  rw [lg_entry_eq]
  generalize (lg_sl ([.ref Ad1, .ref Br0]) ++ List.replicate (6 - (lg_sl ([.ref Ad1, .ref Br0])).length) Slot.unset).toArray = ls at hl ⊢
  have hl : lv_has ls 6 [(0, .ref Ad1), (1, .ref Br0)] := hl
  have o_Fs0 := ow_0 k_Fs0
  have o_Fs1 := ow_0 k_Fs1
  refine lv_iconst (v := 0) hx hb dX1_findClasses_0 (by decide) ?_
  refine lv_istore_n (lv' := [(2, .int 0), (0, .ref Ad1), (1, .ref Br0)]) hx hb dX1_findClasses_1 rfl hl (by decide) rfl (fun ls hl => ?_)
  refine lv_iload_n hx hb dX1_findClasses_2 rfl (lv_at hl 0 rfl) ?_
  refine lv_aload_n hx hb dX1_findClasses_3 rfl (lv_at hl 1 rfl) ?_
  refine va_get (D := (dC, dI)) (ci := 4) (v := .ref Ad0) (C := RX1) (T := TX1) (N := 10) hx hb hts (in_z_X1_findClasses_X1) hown hK hP 1 rfl rfl 8 (by decide) (hts (.fieldLink RX1 34 "HeapWorks$FactBook" "text" "LHeapWorks$RuleText;") (by decide +kernel)) (fun _ h9 => h9) (ow_at o_Fs1 0 rfl) dX1_findClasses_4 ?_
  refine va_get (D := (dC, dI)) (ci := 10) (v := .int 0) (C := RX7) (T := TX7) (N := 21) hx hb hts (in_z_X1_findClasses_X7) hown hK hP 0 rfl rfl 3 (by decide) (hts (.fieldLink RX1 73 "HeapWorks$RuleText" "rules" "I") (by decide +kernel)) (fun _ h9 => h9) (ow_at o_Fs0 0 rfl) dX1_findClasses_7 ?_
  refine lv_icmp_ge (tgt := 129) hx hb dX1_findClasses_10 (by decide) (fun c6689 => ?_) (fun c6689 => absurd c6689 (by decide))
  have hP9 := hP.sub (ws' := [(Ad0, .inr (10, Fs0)), (Ad1, .inr (4, Fs1))]) [0, 1] rfl
  have hD9 := hD.sub (ws' := [(Ad0, .inr (10, Fs0)), (Ad1, .inr (4, Fs1))]) [0, 1] (by decide) rfl
  have hK9 := hK.sub (tys' := []) [] rfl
  exact W.vret hx hb hr (fun t ht hW => ⟨⟨(), rfl, trivial, by rw [ht]; exact hP9, va_K.moved hW.alike hK9, hD9⟩, hS.F ht⟩) hS.2.2 dX1_findClasses_129

def l_z_X1_workOut : List Cond := [.fieldLink RX1 34 "HeapWorks$FactBook" "text" "LHeapWorks$RuleText;", .fieldLink RX1 38 "HeapWorks$Picture" "things" "I", .methodLink RX1 44 Lib.Math.min.name, .static Lib.Math.min.name, .initialized "java/lang/Math", .code Lib.Math.min.name Lib.Math.min.code 2 (some .int), .fieldLink RX1 50 "HeapWorks$FactBook" "things" "I", .fieldLink RX1 51 "HeapWorks$FactBook" "full" "J", .fieldLink RX1 15 "HeapWorks$FactBook" "row" "[J", .methodLink RX1 55 yJ7_fill_d0a16, .static yJ7_fill_d0a16, .initialized RJ7, .fieldLink RX1 19 "HeapWorks$FactBook" "column" "[J", .fieldLink RX1 22 "HeapWorks$FactBook" "diagonal" "[J", .methodLink RX1 61 yX1_addGiven, .instanceMethod yX1_addGiven, .selects RX1 yX1_addGiven yX1_addGiven, .initialized RX1, .methodLink RX1 65 yX1_findClasses, .instanceMethod yX1_findClasses, .selects RX1 yX1_findClasses yX1_findClasses, .fieldLink RX1 68 "HeapWorks$FactBook" "changed" "Z", .constant RX1 72 (1000000), .fieldLink RX1 73 "HeapWorks$RuleText" "rules" "I", .code yJ7_fill_d0a16 cJ7_fill_d0a16 5 none, .code yX1_addGiven cX1_addGiven 4 none, .code yX1_findClasses cX1_findClasses 6 none]
def w_z_X1_workOut : List Cond := .code yX1_workOut cX1_workOut 5 none :: (l_z_X1_workOut ++ ((wsX10 ++ (wsX50 ++ wsX70))))
theorem in_z_X1_workOut_X1 : ∀ w ∈ wsX10, w ∈ w_z_X1_workOut := fun w h => List.mem_cons_of_mem _ (List.mem_append_right _ (List.mem_append_left _ h))
theorem in_z_X1_workOut_X5 : ∀ w ∈ wsX50, w ∈ w_z_X1_workOut := fun w h => List.mem_cons_of_mem _ (List.mem_append_right _ (List.mem_append_right _ (List.mem_append_left _ h)))
theorem in_z_X1_workOut_X7 : ∀ w ∈ wsX70, w ∈ w_z_X1_workOut := fun w h => List.mem_cons_of_mem _ (List.mem_append_right _ (List.mem_append_right _ (List.mem_append_right _ (h))))
theorem g_z_X1_workOut_z_J7_fill_d0a16_55 : GoodIn w_z_X1_workOut (va_wsS RX1 55 yJ7_fill_d0a16 w_z_J7_fill_d0a16) := goodIn_app (goodIn_sub (by decide +kernel) (by decide +kernel)) (goodIn_sub (by decide +kernel) (by decide +kernel))
theorem g_z_X1_workOut_z_J7_fill_d0a16_1_55 : GoodIn w_z_X1_workOut (va_wsS RX1 55 yJ7_fill_d0a16 w_z_J7_fill_d0a16_1) := goodIn_app (goodIn_sub (by decide +kernel) (by decide +kernel)) (goodIn_sub (by decide +kernel) (by decide +kernel))
theorem g_z_X1_workOut_z_X1_addGiven_61 : GoodIn w_z_X1_workOut (wsV RX1 61 RX1 yX1_addGiven w_z_X1_addGiven) := goodIn_app (goodIn_sub (by decide +kernel) (by decide +kernel)) (goodIn_ca (goodIn_sub (by decide +kernel) (by decide +kernel)) (goodIn_in in_z_X1_workOut_X1 gd_X1))
theorem g_z_X1_workOut_z_X1_findClasses_65 : GoodIn w_z_X1_workOut (wsV RX1 65 RX1 yX1_findClasses w_z_X1_findClasses) := goodIn_app (goodIn_sub (by decide +kernel) (by decide +kernel)) (goodIn_ca (goodIn_sub (by decide +kernel) (by decide +kernel)) (goodIn_app (goodIn_in in_z_X1_workOut_X1 gd_X1) (goodIn_in in_z_X1_workOut_X7 gd_X7)))
set_option maxHeartbeats 4000000 in
set_option maxRecDepth 100000 in
theorem z_X1_workOut (l : Launch) (dC : Nat → ClassId) (dI : Nat → Nat → Nat) (sz : Nat) (Ad0 : Nat) (Fs0 : List Value) (Ad1 : Nat) (Fs1 : List Value) (Ad2 : Nat) (Fa0 : Nat → Int64) (Ka0 : ClassId) (Ad3 : Nat) (Fa1 : Nat → Int64) (Ka1 : ClassId) (Ad4 : Nat) (Fa2 : Nat → Int64) (Ka2 : ClassId) (Ad5 : Nat) (Fs2 : List Value) (k_Fs0 : fh Fs0 21 [(0, .int 0)]) (k_Fs1 : fh Fs1 10 [(3, .ref Ad2), (4, .ref Ad3), (5, .ref Ad4)]) (k_Fs2 : fh Fs2 21 [(3, .int 0)])  : Met l yX1_workOut w_z_X1_workOut ({ frames := 1, cells := 0, slots := 0, locals := 40 }) (va_Pc [.ref Ad1, .ref Ad5, .ref Ad0] (fun U => U.heap.size = sz ∧ Wd dC dI [(Ka0, .long), (Ka1, .long), (Ka2, .long)] (fun _ => True) [(Ad0, .inr (8, Fs0)), (Ad1, .inr (4, Fs1)), (Ad2, .inl (Ka0, 360, .inr (.inl Fa0))), (Ad3, .inl (Ka1, 360, .inr (.inl Fa1))), (Ad4, .inl (Ka2, 9, .inr (.inl Fa2))), (Ad5, .inr (10, Fs2))] U)) (va_Qv (fun (u : List Value × (Nat → Int64) × (Nat → Int64) × (Nat → Int64)) => ow Fs1 (u.1) 10 [9, 2, 1, 8] [(9, .int 0), (2, .long 0), (1, .int 0), (8, .ref Ad5), (3, .ref Ad2), (4, .ref Ad3), (5, .ref Ad4)]) (fun (u : List Value × (Nat → Int64) × (Nat → Int64) × (Nat → Int64)) t => Wd dC dI [(Ka0, .long), (Ka1, .long), (Ka2, .long)] (va_A [(Ad0, .inr (8, Fs0)), (Ad1, .inr (4, Fs1)), (Ad2, .inl (Ka0, 360, .inr (.inl Fa0))), (Ad3, .inl (Ka1, 360, .inr (.inl Fa1))), (Ad4, .inl (Ka2, 9, .inr (.inl Fa2))), (Ad5, .inr (10, Fs2))] sz) [(Ad0, .inr (8, Fs0)), (Ad1, .inr (4, (u.1))), (Ad2, .inl (Ka0, 360, .inr (.inl ((u.2.1))))), (Ad3, .inl (Ka1, 360, .inr (.inl ((u.2.2.1))))), (Ad4, .inl (Ka2, 9, .inr (.inl ((u.2.2.2))))), (Ad5, .inr (10, Fs2))] t) (va_A [(Ad0, .inr (8, Fs0)), (Ad1, .inr (4, Fs1)), (Ad2, .inl (Ka0, 360, .inr (.inl Fa0))), (Ad3, .inl (Ka1, 360, .inr (.inl Fa1))), (Ad4, .inl (Ka2, 9, .inr (.inl Fa2))), (Ad5, .inr (10, Fs2))] sz))  0 0 (va_A [(Ad0, .inr (8, Fs0)), (Ad1, .inr (4, Fs1)), (Ad2, .inl (Ka0, 360, .inr (.inl Fa0))), (Ad3, .inl (Ka1, 360, .inr (.inl Fa1))), (Ad4, .inl (Ka2, 9, .inr (.inl Fa2))), (Ad5, .inr (10, Fs2))] sz) := by
  refine Met.ofW (cc := cX1_workOut) (maxL := 5) (ret := none) (by decide) rfl ?_
  intro p e s m args below meth c s₁ B hml hv
  obtain ⟨rfl, hsz, hP, hK, hD0⟩ := hv
  have hx := B.exec
  have hb := B.bytes
  have hr := B.returns
  have hts := atoms_spec (ws := w_z_X1_workOut) B.pre
  have hown : s.vm.findClass RX1 = some m.cls := findClass_of_methodNamed B.named
  have hlocks := B.notSynchronized
  subst hsz
  have hD := hD0.self (sz := s.heap.size)
  generalize hAe : va_A [(Ad0, .inr (8, Fs0)), (Ad1, .inr (4, Fs1)), (Ad2, .inl (Ka0, 360, .inr (.inl Fa0))), (Ad3, .inl (Ka1, 360, .inr (.inl Fa1))), (Ad4, .inl (Ka2, 9, .inr (.inl Fa2))), (Ad5, .inr (10, Fs2))] s.heap.size = A at hD ⊢
  have hA : ∀ q : Nat, s.heap.size ≤ q → A q := fun q h => by rw [← hAe]; exact Or.inr h
  have hS : va_S A s.heap s.heap [] := va_S.rf
  have hl := lv_entry ([.ref Ad1, .ref Ad5, .ref Ad0]) (n := 5) (Nat.le_of_ble_eq_true rfl)
  rw [lg_entry_eq]
  generalize (lg_sl ([.ref Ad1, .ref Ad5, .ref Ad0]) ++ List.replicate (5 - (lg_sl ([.ref Ad1, .ref Ad5, .ref Ad0])).length) Slot.unset).toArray = ls at hl ⊢
  have hl : lv_has ls 5 [(0, .ref Ad1), (1, .ref Ad5), (2, .ref Ad0)] := hl
  have o_Fs0 := ow_0 k_Fs0
  have o_Fs1 := ow_0 k_Fs1
  have o_Fs2 := ow_0 k_Fs2
  refine lv_aload_n hx hb dX1_workOut_0 rfl (lv_at hl 0 rfl) ?_
  refine lv_aload_n hx hb dX1_workOut_1 rfl (lv_at hl 1 rfl) ?_
  refine va_put (D := (dC, dI)) (ci := 4) (v := .ref Ad5) (ty := .object "HeapWorks$RuleText") (C := RX1) (T := TX1) (N := 10) hx hb hts (in_z_X1_workOut_X1) tyX1 tyX1_ok nmX1 hown hK hP hD hS 1 rfl rfl 8 (by decide) (hts (.fieldLink RX1 34 "HeapWorks$FactBook" "text" "LHeapWorks$RuleText;") (by decide +kernel)) (fun _ h9 => h9) rfl (by decide +kernel) rfl rfl (by rw [o_Fs1.2.1]; decide) dX1_workOut_2 (fun H locs hP hD hS => ?_)
  have hP : va_P (dC, dI) vwCl [(Ad0, .inr (8, Fs0)), (Ad1, .inr (4, (Fs1.set 8 (.ref Ad5)))), (Ad2, .inl (Ka0, 360, .inr (.inl Fa0))), (Ad3, .inl (Ka1, 360, .inr (.inl Fa1))), (Ad4, .inl (Ka2, 9, .inr (.inl Fa2))), (Ad5, .inr (10, Fs2))] H := hP
  have hD : va_D A [(Ad0, .inr (8, Fs0)), (Ad1, .inr (4, (Fs1.set 8 (.ref Ad5)))), (Ad2, .inl (Ka0, 360, .inr (.inl Fa0))), (Ad3, .inl (Ka1, 360, .inr (.inl Fa1))), (Ad4, .inl (Ka2, 9, .inr (.inl Fa2))), (Ad5, .inr (10, Fs2))] := hD
  have o_s6697 := ow_set o_Fs1 8 (.ref Ad5) (by decide) (l' := [(8, .ref Ad5), (3, .ref Ad2), (4, .ref Ad3), (5, .ref Ad4)]) (w' := [8]) rfl rfl
  generalize (Fs1.set 8 (.ref Ad5)) = s6697 at hP hD o_s6697
  refine lv_aload_n hx hb dX1_workOut_5 rfl (lv_at hl 0 rfl) ?_
  refine lv_aload_n hx hb dX1_workOut_6 rfl (lv_at hl 2 rfl) ?_
  refine va_get (D := (dC, dI)) (ci := 8) (v := .int 0) (C := RX5) (T := TX5) (N := 21) hx hb hts (in_z_X1_workOut_X5) hown hK hP 0 rfl rfl 0 (by decide) (hts (.fieldLink RX1 38 "HeapWorks$Picture" "things" "I") (by decide +kernel)) (fun _ h9 => h9) (ow_at o_Fs0 0 rfl) dX1_workOut_7 ?_
  refine lv_bipush (v := 40) hx hb dX1_workOut_10 (by decide) ?_
  refine va_mmin hx hb (hml.trans hl.1.symm) hown (hts (.methodLink RX1 44 Lib.Math.min.name) (by decide +kernel)) (hts (.static Lib.Math.min.name) (by decide +kernel)) (hts (.initialized "java/lang/Math") (by decide +kernel)) (hts (.code Lib.Math.min.name Lib.Math.min.code 2 (some .int)) (by decide +kernel)) (Nat.le_of_ble_eq_true rfl) (Nat.le_of_ble_eq_true rfl) (Nat.le_of_ble_eq_true rfl) (Nat.le_of_ble_eq_true rfl) dX1_workOut_12 ?_
  refine lv_topi (fun x6698 ex6698 => ?_)
  have tx6698 : x6698.toInt = min (0 : Int32).toInt (40 : Int32).toInt := by rw [ex6698]; exact i_min _ _
  obtain rfl : x6698 = 0 := (i_eq _ _).mpr (by have bd_x6698 := i_bd x6698; (try simp only [i_lt, i_le, i_eq, kc_0, kc_40] at tx6698 ⊢); omega)
  refine va_put (D := (dC, dI)) (ci := 4) (v := .int 0) (ty := .int) (C := RX1) (T := TX1) (N := 10) hx hb hts (in_z_X1_workOut_X1) tyX1 tyX1_ok nmX1 hown hK hP hD hS 1 rfl rfl 1 (by decide) (hts (.fieldLink RX1 50 "HeapWorks$FactBook" "things" "I") (by decide +kernel)) (fun _ h9 => h9) rfl (by decide +kernel) rfl rfl (by rw [o_s6697.2.1]; decide) dX1_workOut_15 (fun H locs hP hD hS => ?_)
  have hP : va_P (dC, dI) vwCl [(Ad0, .inr (8, Fs0)), (Ad1, .inr (4, (s6697.set 1 (.int 0)))), (Ad2, .inl (Ka0, 360, .inr (.inl Fa0))), (Ad3, .inl (Ka1, 360, .inr (.inl Fa1))), (Ad4, .inl (Ka2, 9, .inr (.inl Fa2))), (Ad5, .inr (10, Fs2))] H := hP
  have hD : va_D A [(Ad0, .inr (8, Fs0)), (Ad1, .inr (4, (s6697.set 1 (.int 0)))), (Ad2, .inl (Ka0, 360, .inr (.inl Fa0))), (Ad3, .inl (Ka1, 360, .inr (.inl Fa1))), (Ad4, .inl (Ka2, 9, .inr (.inl Fa2))), (Ad5, .inr (10, Fs2))] := hD
  have o_s6699 := ow_set o_s6697 1 (.int 0) (by decide) (l' := [(1, .int 0), (8, .ref Ad5), (3, .ref Ad2), (4, .ref Ad3), (5, .ref Ad4)]) (w' := [1, 8]) rfl rfl
  generalize (s6697.set 1 (.int 0)) = s6699 at hP hD o_s6699
  refine lv_aload_n hx hb dX1_workOut_18 rfl (lv_at hl 0 rfl) ?_
  refine lv_lconst (v := 1) hx hb dX1_workOut_19 (by decide) ?_
  refine lv_aload_n hx hb dX1_workOut_20 rfl (lv_at hl 0 rfl) ?_
  refine va_get (D := (dC, dI)) (ci := 4) (v := .int 0) (C := RX1) (T := TX1) (N := 10) hx hb hts (in_z_X1_workOut_X1) hown hK hP 1 rfl rfl 1 (by decide) (hts (.fieldLink RX1 50 "HeapWorks$FactBook" "things" "I") (by decide +kernel)) (fun _ h9 => h9) (ow_at o_s6699 0 rfl) dX1_workOut_21 ?_
  refine lv_lshl hx hb dX1_workOut_24 rfl ?_
  refine lv_topl (fun x6700 ex6700 => ?_)
  obtain rfl : x6700 = 1 := ex6700.trans (by decide)
  refine lv_lconst (v := 1) hx hb dX1_workOut_25 (by decide) ?_
  refine lv_lsub hx hb dX1_workOut_26  ?_
  refine lv_topl (fun x6701 ex6701 => ?_)
  obtain rfl : x6701 = 0 := ex6701.trans (by decide)
  refine va_put (D := (dC, dI)) (ci := 4) (v := .long 0) (ty := .long) (C := RX1) (T := TX1) (N := 10) hx hb hts (in_z_X1_workOut_X1) tyX1 tyX1_ok nmX1 hown hK hP hD hS 1 rfl rfl 2 (by decide) (hts (.fieldLink RX1 51 "HeapWorks$FactBook" "full" "J") (by decide +kernel)) (fun _ h9 => h9) rfl (by decide +kernel) rfl rfl (by rw [o_s6699.2.1]; decide) dX1_workOut_27 (fun H locs hP hD hS => ?_)
  have hP : va_P (dC, dI) vwCl [(Ad0, .inr (8, Fs0)), (Ad1, .inr (4, (s6699.set 2 (.long 0)))), (Ad2, .inl (Ka0, 360, .inr (.inl Fa0))), (Ad3, .inl (Ka1, 360, .inr (.inl Fa1))), (Ad4, .inl (Ka2, 9, .inr (.inl Fa2))), (Ad5, .inr (10, Fs2))] H := hP
  have hD : va_D A [(Ad0, .inr (8, Fs0)), (Ad1, .inr (4, (s6699.set 2 (.long 0)))), (Ad2, .inl (Ka0, 360, .inr (.inl Fa0))), (Ad3, .inl (Ka1, 360, .inr (.inl Fa1))), (Ad4, .inl (Ka2, 9, .inr (.inl Fa2))), (Ad5, .inr (10, Fs2))] := hD
  have o_s6702 := ow_set o_s6699 2 (.long 0) (by decide) (l' := [(2, .long 0), (1, .int 0), (8, .ref Ad5), (3, .ref Ad2), (4, .ref Ad3), (5, .ref Ad4)]) (w' := [2, 1, 8]) rfl rfl
  generalize (s6699.set 2 (.long 0)) = s6702 at hP hD o_s6702
  refine lv_aload_n hx hb dX1_workOut_30 rfl (lv_at hl 0 rfl) ?_
  refine va_get (D := (dC, dI)) (ci := 4) (v := .ref Ad2) (C := RX1) (T := TX1) (N := 10) hx hb hts (in_z_X1_workOut_X1) hown hK hP 1 rfl rfl 3 (by decide) (hts (.fieldLink RX1 15 "HeapWorks$FactBook" "row" "[J") (by decide +kernel)) (fun _ h9 => h9) (ow_at o_s6702 3 rfl) dX1_workOut_31 ?_
  refine lv_lconst (v := 0) hx hb dX1_workOut_34 (by decide) ?_
  have hPc := hP.sub (ws' := [(Ad2, .inl (Ka0, 360, .inr (.inl Fa0)))]) [2] rfl
  have hDc := hD.sub (ws' := [(Ad2, .inl (Ka0, 360, .inr (.inl Fa0)))]) [2] (by decide) rfl
  have hKc := hK.sub (tys' := [(Ka0, .long)]) [0] rfl
  have hFc := va_free (wc := [(Ad2, .inl (Ka0, 360, .inr (.inl Fa0)))]) hD hS hA [2] rfl
  refine va_callv (va_runS (As := [.ref Ad2, .long 0]) (rest := []) ⟨hx, hb, hml, hown, hts⟩ (z_J7_fill_d0a16 l dC dI H.size Ad2 Fa0 Ka0  ) (va_cwS 2 hts g_z_X1_workOut_z_J7_fill_d0a16_55 rfl rfl rfl (by decide +kernel) ⟨Nat.le_of_ble_eq_true rfl, Nat.le_of_ble_eq_true rfl⟩) ⟨fun a U g mk q => by obtain ⟨q0, q1, qP, qK, qD⟩ := q; exact ⟨q0, q1, qP, va_K.moved (u := U) (U := U.calling g mk a) (Vm.Alike.refl U.vm) qK, qD⟩, fun U hU hW => ⟨rfl, by rw [hU], by rw [hU]; exact hPc, va_K.moved hW.alike hKc, hDc.weaken (fun _ _ _ _ => trivial)⟩⟩ rfl rfl hl.1 rfl (lv_room (Nat.le_of_ble_eq_true rfl)) dX1_workOut_35 ⟨Nat.le_of_ble_eq_true rfl, Nat.le_of_ble_eq_true rfl⟩) hS (fun q _ h => hFc q h) hFc (fun u t H1 locs ht hvm hw hB hz1 hk1 hS => ?_)
  obtain ⟨f6738, rfl⟩ : ∃ z, z = u := ⟨_, rfl⟩
  obtain ⟨hP1, hK1, hD1⟩ := hB
  rw [ht] at hP1
  try dsimp only at hw
  obtain ⟨hP, hD⟩ := va_join (wr := [(Ad0, .inr (8, Fs0)), (Ad1, .inr (4, s6702)), (Ad3, .inl (Ka1, 360, .inr (.inl Fa1))), (Ad4, .inl (Ka2, 9, .inr (.inl Fa2))), (Ad5, .inr (10, Fs2))]) (w1 := [(Ad2, .inl (Ka0, 360, .inr (.inl f6738)))]) hP hD [2] [0, 1, 3, 4, 5] rfl rfl (by decide) (by decide) hk1 hFc hP1 hD1
  have hK := hK.sub (tys' := [(Ka1, .long), (Ka2, .long), (Ka0, .long)]) [1, 2, 0] rfl
  generalize H1 = H at hP hS ⊢
  have hP : va_P (dC, dI) vwCl [(Ad0, .inr (8, Fs0)), (Ad1, .inr (4, s6702)), (Ad3, .inl (Ka1, 360, .inr (.inl Fa1))), (Ad4, .inl (Ka2, 9, .inr (.inl Fa2))), (Ad5, .inr (10, Fs2)), (Ad2, .inl (Ka0, 360, .inr (.inl f6738)))] H := hP
  have hD : va_D A [(Ad0, .inr (8, Fs0)), (Ad1, .inr (4, s6702)), (Ad3, .inl (Ka1, 360, .inr (.inl Fa1))), (Ad4, .inl (Ka2, 9, .inr (.inl Fa2))), (Ad5, .inr (10, Fs2)), (Ad2, .inl (Ka0, 360, .inr (.inl f6738)))] := hD
  refine lv_aload_n hx hb dX1_workOut_38 rfl (lv_at hl 0 rfl) ?_
  refine va_get (D := (dC, dI)) (ci := 4) (v := .ref Ad3) (C := RX1) (T := TX1) (N := 10) hx hb hts (in_z_X1_workOut_X1) hown hK hP 1 rfl rfl 4 (by decide) (hts (.fieldLink RX1 19 "HeapWorks$FactBook" "column" "[J") (by decide +kernel)) (fun _ h9 => h9) (ow_at o_s6702 4 rfl) dX1_workOut_39 ?_
  refine lv_lconst (v := 0) hx hb dX1_workOut_42 (by decide) ?_
  have hPc := hP.sub (ws' := [(Ad3, .inl (Ka1, 360, .inr (.inl Fa1)))]) [2] rfl
  have hDc := hD.sub (ws' := [(Ad3, .inl (Ka1, 360, .inr (.inl Fa1)))]) [2] (by decide) rfl
  have hKc := hK.sub (tys' := [(Ka1, .long)]) [0] rfl
  have hFc := va_free (wc := [(Ad3, .inl (Ka1, 360, .inr (.inl Fa1)))]) hD hS hA [2] rfl
  refine va_callv (va_runS (As := [.ref Ad3, .long 0]) (rest := []) ⟨hx, hb, hml, hown, hts⟩ (z_J7_fill_d0a16 l dC dI H.size Ad3 Fa1 Ka1  ) (va_cwS 2 hts g_z_X1_workOut_z_J7_fill_d0a16_55 rfl rfl rfl (by decide +kernel) ⟨Nat.le_of_ble_eq_true rfl, Nat.le_of_ble_eq_true rfl⟩) ⟨fun a U g mk q => by obtain ⟨q0, q1, qP, qK, qD⟩ := q; exact ⟨q0, q1, qP, va_K.moved (u := U) (U := U.calling g mk a) (Vm.Alike.refl U.vm) qK, qD⟩, fun U hU hW => ⟨rfl, by rw [hU], by rw [hU]; exact hPc, va_K.moved hW.alike hKc, hDc.weaken (fun _ _ _ _ => trivial)⟩⟩ rfl rfl hl.1 rfl (lv_room (Nat.le_of_ble_eq_true rfl)) dX1_workOut_43 ⟨Nat.le_of_ble_eq_true rfl, Nat.le_of_ble_eq_true rfl⟩) hS (fun q _ h => hFc q h) hFc (fun u t H1 locs ht hvm hw hB hz1 hk1 hS => ?_)
  obtain ⟨f6774, rfl⟩ : ∃ z, z = u := ⟨_, rfl⟩
  obtain ⟨hP1, hK1, hD1⟩ := hB
  rw [ht] at hP1
  try dsimp only at hw
  obtain ⟨hP, hD⟩ := va_join (wr := [(Ad0, .inr (8, Fs0)), (Ad1, .inr (4, s6702)), (Ad4, .inl (Ka2, 9, .inr (.inl Fa2))), (Ad5, .inr (10, Fs2)), (Ad2, .inl (Ka0, 360, .inr (.inl f6738)))]) (w1 := [(Ad3, .inl (Ka1, 360, .inr (.inl f6774)))]) hP hD [2] [0, 1, 3, 4, 5] rfl rfl (by decide) (by decide) hk1 hFc hP1 hD1
  have hK := hK.sub (tys' := [(Ka2, .long), (Ka0, .long), (Ka1, .long)]) [1, 2, 0] rfl
  generalize H1 = H at hP hS ⊢
  have hP : va_P (dC, dI) vwCl [(Ad0, .inr (8, Fs0)), (Ad1, .inr (4, s6702)), (Ad4, .inl (Ka2, 9, .inr (.inl Fa2))), (Ad5, .inr (10, Fs2)), (Ad2, .inl (Ka0, 360, .inr (.inl f6738))), (Ad3, .inl (Ka1, 360, .inr (.inl f6774)))] H := hP
  have hD : va_D A [(Ad0, .inr (8, Fs0)), (Ad1, .inr (4, s6702)), (Ad4, .inl (Ka2, 9, .inr (.inl Fa2))), (Ad5, .inr (10, Fs2)), (Ad2, .inl (Ka0, 360, .inr (.inl f6738))), (Ad3, .inl (Ka1, 360, .inr (.inl f6774)))] := hD
  refine lv_aload_n hx hb dX1_workOut_46 rfl (lv_at hl 0 rfl) ?_
  refine va_get (D := (dC, dI)) (ci := 4) (v := .ref Ad4) (C := RX1) (T := TX1) (N := 10) hx hb hts (in_z_X1_workOut_X1) hown hK hP 1 rfl rfl 5 (by decide) (hts (.fieldLink RX1 22 "HeapWorks$FactBook" "diagonal" "[J") (by decide +kernel)) (fun _ h9 => h9) (ow_at o_s6702 5 rfl) dX1_workOut_47 ?_
  refine lv_lconst (v := 0) hx hb dX1_workOut_50 (by decide) ?_
  have hPc := hP.sub (ws' := [(Ad4, .inl (Ka2, 9, .inr (.inl Fa2)))]) [2] rfl
  have hDc := hD.sub (ws' := [(Ad4, .inl (Ka2, 9, .inr (.inl Fa2)))]) [2] (by decide) rfl
  have hKc := hK.sub (tys' := [(Ka2, .long)]) [0] rfl
  have hFc := va_free (wc := [(Ad4, .inl (Ka2, 9, .inr (.inl Fa2)))]) hD hS hA [2] rfl
  refine va_callv (va_runS (As := [.ref Ad4, .long 0]) (rest := []) ⟨hx, hb, hml, hown, hts⟩ (z_J7_fill_d0a16_1 l dC dI H.size Ad4 Fa2 Ka2  ) (va_cwS 2 hts g_z_X1_workOut_z_J7_fill_d0a16_1_55 rfl rfl rfl (by decide +kernel) ⟨Nat.le_of_ble_eq_true rfl, Nat.le_of_ble_eq_true rfl⟩) ⟨fun a U g mk q => by obtain ⟨q0, q1, qP, qK, qD⟩ := q; exact ⟨q0, q1, qP, va_K.moved (u := U) (U := U.calling g mk a) (Vm.Alike.refl U.vm) qK, qD⟩, fun U hU hW => ⟨rfl, by rw [hU], by rw [hU]; exact hPc, va_K.moved hW.alike hKc, hDc.weaken (fun _ _ _ _ => trivial)⟩⟩ rfl rfl hl.1 rfl (lv_room (Nat.le_of_ble_eq_true rfl)) dX1_workOut_51 ⟨Nat.le_of_ble_eq_true rfl, Nat.le_of_ble_eq_true rfl⟩) hS (fun q _ h => hFc q h) hFc (fun u t H1 locs ht hvm hw hB hz1 hk1 hS => ?_)
  obtain ⟨f6810, rfl⟩ : ∃ z, z = u := ⟨_, rfl⟩
  obtain ⟨hP1, hK1, hD1⟩ := hB
  rw [ht] at hP1
  try dsimp only at hw
  obtain ⟨hP, hD⟩ := va_join (wr := [(Ad0, .inr (8, Fs0)), (Ad1, .inr (4, s6702)), (Ad5, .inr (10, Fs2)), (Ad2, .inl (Ka0, 360, .inr (.inl f6738))), (Ad3, .inl (Ka1, 360, .inr (.inl f6774)))]) (w1 := [(Ad4, .inl (Ka2, 9, .inr (.inl f6810)))]) hP hD [2] [0, 1, 3, 4, 5] rfl rfl (by decide) (by decide) hk1 hFc hP1 hD1
  have hK := hK.sub (tys' := [(Ka0, .long), (Ka1, .long), (Ka2, .long)]) [1, 2, 0] rfl
  generalize H1 = H at hP hS ⊢
  have hP : va_P (dC, dI) vwCl [(Ad0, .inr (8, Fs0)), (Ad1, .inr (4, s6702)), (Ad5, .inr (10, Fs2)), (Ad2, .inl (Ka0, 360, .inr (.inl f6738))), (Ad3, .inl (Ka1, 360, .inr (.inl f6774))), (Ad4, .inl (Ka2, 9, .inr (.inl f6810)))] H := hP
  have hD : va_D A [(Ad0, .inr (8, Fs0)), (Ad1, .inr (4, s6702)), (Ad5, .inr (10, Fs2)), (Ad2, .inl (Ka0, 360, .inr (.inl f6738))), (Ad3, .inl (Ka1, 360, .inr (.inl f6774))), (Ad4, .inl (Ka2, 9, .inr (.inl f6810)))] := hD
  refine lv_aload_n hx hb dX1_workOut_54 rfl (lv_at hl 0 rfl) ?_
  refine lv_aload_n hx hb dX1_workOut_55 rfl (lv_at hl 2 rfl) ?_
  have hPc := hP.sub (ws' := [(Ad1, .inr (4, s6702))]) [1] rfl
  have hDc := hD.sub (ws' := [(Ad1, .inr (4, s6702))]) [1] (by decide) rfl
  have hKc := hK.sub (tys' := []) [] rfl
  have hFc := va_free (wc := [(Ad1, .inr (4, s6702))]) hD hS hA [1] rfl
  refine va_callv (va_runV (As := [.ref Ad0]) (rest := []) ⟨hx, hb, hml, hown, hts⟩ (z_X1_addGiven l dC dI H.size Ad1 s6702 Ad0 (fh_sub o_s6702.2 [1] rfl) ) (cwV 1 hts g_z_X1_workOut_z_X1_addGiven_61 rfl rfl rfl (by decide +kernel) ⟨Nat.le_of_ble_eq_true rfl, Nat.le_of_ble_eq_true rfl⟩) ⟨fun a U g mk q => by obtain ⟨q0, q1, qP, qK, qD⟩ := q; exact ⟨q0, q1, qP, va_K.moved (u := U) (U := U.calling g mk a) (Vm.Alike.refl U.vm) qK, qD⟩, va_recv hK hP (ci := 4) (q0 := 1) rfl rfl, fun U hU hW => ⟨rfl, by rw [hU], by rw [hU]; exact hPc, va_K.moved hW.alike hKc, hDc.weaken (fun _ _ _ _ => trivial)⟩⟩ rfl rfl hl.1 rfl (lv_room (Nat.le_of_ble_eq_true rfl)) dX1_workOut_56 ⟨Nat.le_of_ble_eq_true rfl, Nat.le_of_ble_eq_true rfl⟩) hS (fun q _ h => hFc q h) hFc (fun u t H1 locs ht hvm hw hB hz1 hk1 hS => ?_)
  obtain ⟨hP1, hK1, hD1⟩ := hB
  rw [ht] at hP1
  try dsimp only at hw
  obtain ⟨hP, hD⟩ := va_join (wr := [(Ad0, .inr (8, Fs0)), (Ad5, .inr (10, Fs2)), (Ad2, .inl (Ka0, 360, .inr (.inl f6738))), (Ad3, .inl (Ka1, 360, .inr (.inl f6774))), (Ad4, .inl (Ka2, 9, .inr (.inl f6810)))]) (w1 := [(Ad1, .inr (4, s6702))]) hP hD [1] [0, 2, 3, 4, 5] rfl rfl (by decide) (by decide) hk1 hFc hP1 hD1
  have hK := hK.sub (tys' := [(Ka0, .long), (Ka1, .long), (Ka2, .long)]) [0, 1, 2] rfl
  generalize H1 = H at hP hS ⊢
  have hP : va_P (dC, dI) vwCl [(Ad0, .inr (8, Fs0)), (Ad5, .inr (10, Fs2)), (Ad2, .inl (Ka0, 360, .inr (.inl f6738))), (Ad3, .inl (Ka1, 360, .inr (.inl f6774))), (Ad4, .inl (Ka2, 9, .inr (.inl f6810))), (Ad1, .inr (4, s6702))] H := hP
  have hD : va_D A [(Ad0, .inr (8, Fs0)), (Ad5, .inr (10, Fs2)), (Ad2, .inl (Ka0, 360, .inr (.inl f6738))), (Ad3, .inl (Ka1, 360, .inr (.inl f6774))), (Ad4, .inl (Ka2, 9, .inr (.inl f6810))), (Ad1, .inr (4, s6702))] := hD
  refine lv_aload_n hx hb dX1_workOut_59 rfl (lv_at hl 0 rfl) ?_
  refine lv_aload_n hx hb dX1_workOut_60 rfl (lv_at hl 2 rfl) ?_
  have hPc := hP.sub (ws' := [(Ad5, .inr (10, Fs2)), (Ad1, .inr (4, s6702))]) [1, 5] rfl
  have hDc := hD.sub (ws' := [(Ad5, .inr (10, Fs2)), (Ad1, .inr (4, s6702))]) [1, 5] (by decide) rfl
  have hKc := hK.sub (tys' := []) [] rfl
  have hFc := va_free (wc := [(Ad5, .inr (10, Fs2)), (Ad1, .inr (4, s6702))]) hD hS hA [1, 5] rfl
  refine va_callv (va_runV (As := [.ref Ad0]) (rest := []) ⟨hx, hb, hml, hown, hts⟩ (z_X1_findClasses l dC dI H.size Ad5 Fs2 Ad1 s6702 Ad0 (fh_sub o_Fs2.2 [0] rfl) (fh_sub o_s6702.2 [2] rfl) ) (cwV 1 hts g_z_X1_workOut_z_X1_findClasses_65 rfl rfl rfl (by decide +kernel) ⟨Nat.le_of_ble_eq_true rfl, Nat.le_of_ble_eq_true rfl⟩) ⟨fun a U g mk q => by obtain ⟨q0, q1, qP, qK, qD⟩ := q; exact ⟨q0, q1, qP, va_K.moved (u := U) (U := U.calling g mk a) (Vm.Alike.refl U.vm) qK, qD⟩, va_recv hK hP (ci := 4) (q0 := 5) rfl rfl, fun U hU hW => ⟨rfl, by rw [hU], by rw [hU]; exact hPc, va_K.moved hW.alike hKc, hDc.weaken (fun _ _ _ _ => trivial)⟩⟩ rfl rfl hl.1 rfl (lv_room (Nat.le_of_ble_eq_true rfl)) dX1_workOut_61 ⟨Nat.le_of_ble_eq_true rfl, Nat.le_of_ble_eq_true rfl⟩) hS (fun q _ h => hFc q h) hFc (fun u t H1 locs ht hvm hw hB hz1 hk1 hS => ?_)
  obtain ⟨hP1, hK1, hD1⟩ := hB
  rw [ht] at hP1
  try dsimp only at hw
  obtain ⟨hP, hD⟩ := va_join (wr := [(Ad0, .inr (8, Fs0)), (Ad2, .inl (Ka0, 360, .inr (.inl f6738))), (Ad3, .inl (Ka1, 360, .inr (.inl f6774))), (Ad4, .inl (Ka2, 9, .inr (.inl f6810)))]) (w1 := [(Ad5, .inr (10, Fs2)), (Ad1, .inr (4, s6702))]) hP hD [1, 5] [0, 2, 3, 4] rfl rfl (by decide) (by decide) hk1 hFc hP1 hD1
  have hK := hK.sub (tys' := [(Ka0, .long), (Ka1, .long), (Ka2, .long)]) [0, 1, 2] rfl
  generalize H1 = H at hP hS ⊢
  have hP : va_P (dC, dI) vwCl [(Ad0, .inr (8, Fs0)), (Ad2, .inl (Ka0, 360, .inr (.inl f6738))), (Ad3, .inl (Ka1, 360, .inr (.inl f6774))), (Ad4, .inl (Ka2, 9, .inr (.inl f6810))), (Ad5, .inr (10, Fs2)), (Ad1, .inr (4, s6702))] H := hP
  have hD : va_D A [(Ad0, .inr (8, Fs0)), (Ad2, .inl (Ka0, 360, .inr (.inl f6738))), (Ad3, .inl (Ka1, 360, .inr (.inl f6774))), (Ad4, .inl (Ka2, 9, .inr (.inl f6810))), (Ad5, .inr (10, Fs2)), (Ad1, .inr (4, s6702))] := hD
  refine lv_aload_n hx hb dX1_workOut_64 rfl (lv_at hl 0 rfl) ?_
  refine lv_iconst (v := 1) hx hb dX1_workOut_65 (by decide) ?_
  refine va_put (D := (dC, dI)) (ci := 4) (v := .int 1) (ty := .boolean) (C := RX1) (T := TX1) (N := 10) hx hb hts (in_z_X1_workOut_X1) tyX1 tyX1_ok nmX1 hown hK hP hD hS 5 rfl rfl 9 (by decide) (hts (.fieldLink RX1 68 "HeapWorks$FactBook" "changed" "Z") (by decide +kernel)) (fun _ h9 => h9) rfl (by decide +kernel) rfl rfl (by rw [o_s6702.2.1]; decide) dX1_workOut_66 (fun H locs hP hD hS => ?_)
  have hP : va_P (dC, dI) vwCl [(Ad0, .inr (8, Fs0)), (Ad2, .inl (Ka0, 360, .inr (.inl f6738))), (Ad3, .inl (Ka1, 360, .inr (.inl f6774))), (Ad4, .inl (Ka2, 9, .inr (.inl f6810))), (Ad5, .inr (10, Fs2)), (Ad1, .inr (4, (s6702.set 9 (.int 1))))] H := hP
  have hD : va_D A [(Ad0, .inr (8, Fs0)), (Ad2, .inl (Ka0, 360, .inr (.inl f6738))), (Ad3, .inl (Ka1, 360, .inr (.inl f6774))), (Ad4, .inl (Ka2, 9, .inr (.inl f6810))), (Ad5, .inr (10, Fs2)), (Ad1, .inr (4, (s6702.set 9 (.int 1))))] := hD
  have o_s6813 := ow_set o_s6702 9 (.int 1) (by decide) (l' := [(9, .int 1), (2, .long 0), (1, .int 0), (8, .ref Ad5), (3, .ref Ad2), (4, .ref Ad3), (5, .ref Ad4)]) (w' := [9, 2, 1, 8]) rfl rfl
  generalize (s6702.set 9 (.int 1)) = s6813 at hP hD o_s6813
  refine lv_iconst (v := 0) hx hb dX1_workOut_69 (by decide) ?_
  refine lv_istore_n (lv' := [(3, .int 0), (0, .ref Ad1), (1, .ref Ad5), (2, .ref Ad0)]) hx hb dX1_workOut_70 rfl hl (by decide) rfl (fun ls hl => ?_)
  refine lv_iload_n hx hb dX1_workOut_71 rfl (lv_at hl 0 rfl) ?_
  refine lv_ldc (v := 1000000) hx hb hown (hts (.constant RX1 72 (1000000)) (by decide +kernel)) dX1_workOut_72 ?_
  refine lv_icmp_ge (tgt := 123) hx hb dX1_workOut_74 (by decide) (fun c6814 => absurd c6814 (by decide)) (fun c6814 => ?_)
  refine lv_aload_n hx hb dX1_workOut_77 rfl (lv_at hl 1 rfl) ?_
  refine va_get (D := (dC, dI)) (ci := 4) (v := .int 1) (C := RX1) (T := TX1) (N := 10) hx hb hts (in_z_X1_workOut_X1) hown hK hP 5 rfl rfl 9 (by decide) (hts (.fieldLink RX1 68 "HeapWorks$FactBook" "changed" "Z") (by decide +kernel)) (fun _ h9 => h9) (ow_at o_s6813 0 rfl) dX1_workOut_78 ?_
  refine lv_if_eq (tgt := 123) hx hb dX1_workOut_81 (by decide) (fun c6815 => absurd c6815 (by decide)) (fun c6815 => ?_)
  refine lv_aload_n hx hb dX1_workOut_84 rfl (lv_at hl 1 rfl) ?_
  refine lv_iconst (v := 0) hx hb dX1_workOut_85 (by decide) ?_
  refine va_put (D := (dC, dI)) (ci := 4) (v := .int 0) (ty := .boolean) (C := RX1) (T := TX1) (N := 10) hx hb hts (in_z_X1_workOut_X1) tyX1 tyX1_ok nmX1 hown hK hP hD hS 5 rfl rfl 9 (by decide) (hts (.fieldLink RX1 68 "HeapWorks$FactBook" "changed" "Z") (by decide +kernel)) (fun _ h9 => h9) rfl (by decide +kernel) rfl rfl (by rw [o_s6813.2.1]; decide) dX1_workOut_86 (fun H locs hP hD hS => ?_)
  have hP : va_P (dC, dI) vwCl [(Ad0, .inr (8, Fs0)), (Ad2, .inl (Ka0, 360, .inr (.inl f6738))), (Ad3, .inl (Ka1, 360, .inr (.inl f6774))), (Ad4, .inl (Ka2, 9, .inr (.inl f6810))), (Ad5, .inr (10, Fs2)), (Ad1, .inr (4, (s6813.set 9 (.int 0))))] H := hP
  have hD : va_D A [(Ad0, .inr (8, Fs0)), (Ad2, .inl (Ka0, 360, .inr (.inl f6738))), (Ad3, .inl (Ka1, 360, .inr (.inl f6774))), (Ad4, .inl (Ka2, 9, .inr (.inl f6810))), (Ad5, .inr (10, Fs2)), (Ad1, .inr (4, (s6813.set 9 (.int 0))))] := hD
  have o_s6816 := ow_set o_s6813 9 (.int 0) (by decide) (l' := [(9, .int 0), (2, .long 0), (1, .int 0), (8, .ref Ad5), (3, .ref Ad2), (4, .ref Ad3), (5, .ref Ad4)]) (w' := [9, 2, 1, 8]) rfl rfl
  generalize (s6813.set 9 (.int 0)) = s6816 at hP hD o_s6816
  refine lv_iconst (v := 0) hx hb dX1_workOut_89 (by decide) ?_
  refine lv_istore (lv' := [(4, .int 0), (3, .int 0), (0, .ref Ad1), (1, .ref Ad5), (2, .ref Ad0)]) hx hb dX1_workOut_90 hl (by decide) rfl (fun ls hl => ?_)
  refine lv_iload hx hb dX1_workOut_92 (lv_at hl 0 rfl) ?_
  refine lv_aload_n hx hb dX1_workOut_94 rfl (lv_at hl 2 rfl) ?_
  refine va_get (D := (dC, dI)) (ci := 4) (v := .ref Ad5) (C := RX1) (T := TX1) (N := 10) hx hb hts (in_z_X1_workOut_X1) hown hK hP 5 rfl rfl 8 (by decide) (hts (.fieldLink RX1 34 "HeapWorks$FactBook" "text" "LHeapWorks$RuleText;") (by decide +kernel)) (fun _ h9 => h9) (ow_at o_s6816 3 rfl) dX1_workOut_95 ?_
  refine va_get (D := (dC, dI)) (ci := 10) (v := .int 0) (C := RX7) (T := TX7) (N := 21) hx hb hts (in_z_X1_workOut_X7) hown hK hP 4 rfl rfl 3 (by decide) (hts (.fieldLink RX1 73 "HeapWorks$RuleText" "rules" "I") (by decide +kernel)) (fun _ h9 => h9) (ow_at o_Fs2 0 rfl) dX1_workOut_98 ?_
  refine lv_icmp_ge (tgt := 117) hx hb dX1_workOut_101 (by decide) (fun c6817 => ?_) (fun c6817 => absurd c6817 (by decide))
  refine lv_iinc (v := 1) (lv' := [(3, .int 1), (4, .int 0), (0, .ref Ad1), (1, .ref Ad5), (2, .ref Ad0)]) hx hb dX1_workOut_117 hl (k := 1) rfl (by decide) (by decide) rfl (fun ls hl => ?_)
  refine lv_goto (tgt := 71) hx hb dX1_workOut_120 (by decide) ?_
  refine lv_iload_n hx hb dX1_workOut_71 rfl (lv_at hl 0 rfl) ?_
  refine lv_ldc (v := 1000000) hx hb hown (hts (.constant RX1 72 (1000000)) (by decide +kernel)) dX1_workOut_72 ?_
  refine lv_icmp_ge (tgt := 123) hx hb dX1_workOut_74 (by decide) (fun c6818 => absurd c6818 (by decide)) (fun c6818 => ?_)
  refine lv_aload_n hx hb dX1_workOut_77 rfl (lv_at hl 2 rfl) ?_
  refine va_get (D := (dC, dI)) (ci := 4) (v := .int 0) (C := RX1) (T := TX1) (N := 10) hx hb hts (in_z_X1_workOut_X1) hown hK hP 5 rfl rfl 9 (by decide) (hts (.fieldLink RX1 68 "HeapWorks$FactBook" "changed" "Z") (by decide +kernel)) (fun _ h9 => h9) (ow_at o_s6816 0 rfl) dX1_workOut_78 ?_
  refine lv_if_eq (tgt := 123) hx hb dX1_workOut_81 (by decide) (fun c6819 => ?_) (fun c6819 => absurd c6819 (by decide))
  have hP9 := hP.sub (ws' := [(Ad0, .inr (8, Fs0)), (Ad1, .inr (4, s6816)), (Ad2, .inl (Ka0, 360, .inr (.inl f6738))), (Ad3, .inl (Ka1, 360, .inr (.inl f6774))), (Ad4, .inl (Ka2, 9, .inr (.inl f6810))), (Ad5, .inr (10, Fs2))]) [0, 5, 1, 2, 3, 4] rfl
  have hD9 := hD.sub (ws' := [(Ad0, .inr (8, Fs0)), (Ad1, .inr (4, s6816)), (Ad2, .inl (Ka0, 360, .inr (.inl f6738))), (Ad3, .inl (Ka1, 360, .inr (.inl f6774))), (Ad4, .inl (Ka2, 9, .inr (.inl f6810))), (Ad5, .inr (10, Fs2))]) [0, 5, 1, 2, 3, 4] (by decide) rfl
  have hK9 := hK.sub (tys' := [(Ka0, .long), (Ka1, .long), (Ka2, .long)]) [0, 1, 2] rfl
  exact W.vret hx hb hr (fun t ht hW => ⟨⟨(s6816, f6738, f6774, f6810), rfl, o_s6816, by rw [ht]; exact hP9, va_K.moved hW.alike hK9, hD9⟩, hS.F ht⟩) hS.2.2 dX1_workOut_123

def l_x_rules : List Cond := [.methodLink RX11 353 yX11_needPicture, .static yX11_needPicture, .initialized RX11, .fieldLink RX11 41 "HeapWorks" "pictures" "[LHeapWorks$Picture;", .fieldLink RX11 356 "HeapWorks$Picture" "things" "I", .fieldLink RX11 77 "HeapWorks" "ruleText" "LHeapWorks$RuleText;", .methodLink RX11 481 yX7_readAll, .instanceMethod yX7_readAll, .selects RX7 yX7_readAll yX7_readAll, .initialized RX7, .fieldLink RX11 484 "HeapWorks$RuleText" "fault" "I", .fieldLink RX11 485 "HeapWorks$RuleText" "place" "I", .methodLink RX11 339 yX11_tellFault, .instanceMethod yX11_tellFault, .selects RX11 yX11_tellFault yX11_tellFault, .fieldLink RX11 84 "HeapWorks" "factBook" "LHeapWorks$FactBook;", .methodLink RX11 486 yX1_workOut, .instanceMethod yX1_workOut, .selects RX1 yX1_workOut yX1_workOut, .initialized RX1, .fieldLink RX11 490 "HeapWorks$RuleText" "relations" "I", .code yX11_needPicture cX11_needPicture 1 none, .methodLink RX11 411 yX11_isPicture, .static yX11_isPicture, .classLink RX11 120 "java/lang/IndexOutOfBoundsException", .initialized "java/lang/IndexOutOfBoundsException", .code yX11_isPicture cX11_isPicture 1 (some .boolean), .code yX7_readAll cX7_readAll 2 (some .boolean), .fieldLink RX7 70 "HeapWorks$RuleText" "rules" "I", .fieldLink RX7 74 "HeapWorks$RuleText" "relations" "I", .fieldLink RX7 77 "HeapWorks$RuleText" "fault" "I", .fieldLink RX7 80 "HeapWorks$RuleText" "place" "I", .fieldLink RX7 9 "HeapWorks$RuleText" "tape" "LHeapWorks$Tape;", .methodLink RX7 83 yX9_startWords, .instanceMethod yX9_startWords, .selects RX9 yX9_startWords yX9_startWords, .initialized RX9, .fieldLink RX7 86 "HeapWorks$Tape" "word" "I", .code yX9_startWords cX9_startWords 2 none, .fieldLink RX9 69 "HeapWorks$Tape" "at" "I", .methodLink RX9 72 yX9_scanWord, .instanceMethod yX9_scanWord, .selects RX9 yX9_scanWord yX9_scanWord, .fieldLink RX9 18 "HeapWorks$Tape" "words" "[I", .fieldLink RX9 75 "HeapWorks$Tape" "word" "I", .fieldLink RX9 21 "HeapWorks$Tape" "places" "[I", .fieldLink RX9 78 "HeapWorks$Tape" "place" "I", .fieldLink RX9 24 "HeapWorks$Tape" "codes" "[J", .fieldLink RX9 81 "HeapWorks$Tape" "code" "J", .fieldLink RX9 85 "HeapWorks$Tape" "next" "I", .methodLink RX9 88 yX9_nextWord, .instanceMethod yX9_nextWord, .selects RX9 yX9_nextWord yX9_nextWord, .code yX9_scanWord cX9_scanWord 1 none, .fieldLink RX9 49 "HeapWorks$Tape" "size" "I", .code yX9_nextWord cX9_nextWord 1 none, .code yX11_tellFault cX11_tellFault 3 none, .fieldLink RX11 469 "HeapWorks" "faultCode" "I", .fieldLink RX11 98 "HeapWorks" "faultPlace" "I", .code yX1_workOut cX1_workOut 5 none, .fieldLink RX1 34 "HeapWorks$FactBook" "text" "LHeapWorks$RuleText;", .fieldLink RX1 38 "HeapWorks$Picture" "things" "I", .methodLink RX1 44 Lib.Math.min.name, .static Lib.Math.min.name, .initialized "java/lang/Math", .code Lib.Math.min.name Lib.Math.min.code 2 (some .int), .fieldLink RX1 50 "HeapWorks$FactBook" "things" "I", .fieldLink RX1 51 "HeapWorks$FactBook" "full" "J", .fieldLink RX1 15 "HeapWorks$FactBook" "row" "[J", .methodLink RX1 55 yJ7_fill_d0a16, .static yJ7_fill_d0a16, .initialized RJ7, .fieldLink RX1 19 "HeapWorks$FactBook" "column" "[J", .fieldLink RX1 22 "HeapWorks$FactBook" "diagonal" "[J", .methodLink RX1 61 yX1_addGiven, .instanceMethod yX1_addGiven, .selects RX1 yX1_addGiven yX1_addGiven, .methodLink RX1 65 yX1_findClasses, .instanceMethod yX1_findClasses, .selects RX1 yX1_findClasses yX1_findClasses, .fieldLink RX1 68 "HeapWorks$FactBook" "changed" "Z", .constant RX1 72 (1000000), .fieldLink RX1 73 "HeapWorks$RuleText" "rules" "I", .code yJ7_fill_d0a16 cJ7_fill_d0a16 5 none, .code yX1_addGiven cX1_addGiven 4 none, .code yX1_findClasses cX1_findClasses 6 none]
def w_x_rules : List Cond := .code yX11_rules cX11_rules 5 (some .int) :: (l_x_rules ++ ((wsX110 ++ (wsX50 ++ (wsX70 ++ (((vx_at0 RX11 122 "java/lang/IndexOutOfBoundsException" ["java/lang/RuntimeException", "java/lang/Exception"]).filter goodWord) ++ (wsX90 ++ wsX10)))))))
theorem in_x_rules_X11 : ∀ w ∈ wsX110, w ∈ w_x_rules := fun w h => List.mem_cons_of_mem _ (List.mem_append_right _ (List.mem_append_left _ h))
theorem in_x_rules_X5 : ∀ w ∈ wsX50, w ∈ w_x_rules := fun w h => List.mem_cons_of_mem _ (List.mem_append_right _ (List.mem_append_right _ (List.mem_append_left _ h)))
theorem in_x_rules_X7 : ∀ w ∈ wsX70, w ∈ w_x_rules := fun w h => List.mem_cons_of_mem _ (List.mem_append_right _ (List.mem_append_right _ (List.mem_append_right _ (List.mem_append_left _ h))))
theorem in_x_rules_at0_X11_122 : ∀ w ∈ ((vx_at0 RX11 122 "java/lang/IndexOutOfBoundsException" ["java/lang/RuntimeException", "java/lang/Exception"]).filter goodWord), w ∈ w_x_rules := fun w h => List.mem_cons_of_mem _ (List.mem_append_right _ (List.mem_append_right _ (List.mem_append_right _ (List.mem_append_right _ (List.mem_append_left _ h)))))
theorem in_x_rules_X9 : ∀ w ∈ wsX90, w ∈ w_x_rules := fun w h => List.mem_cons_of_mem _ (List.mem_append_right _ (List.mem_append_right _ (List.mem_append_right _ (List.mem_append_right _ (List.mem_append_right _ (List.mem_append_left _ h))))))
theorem in_x_rules_X1 : ∀ w ∈ wsX10, w ∈ w_x_rules := fun w h => List.mem_cons_of_mem _ (List.mem_append_right _ (List.mem_append_right _ (List.mem_append_right _ (List.mem_append_right _ (List.mem_append_right _ (List.mem_append_right _ (h)))))))
theorem g_x_rules_z_X11_needPicture_353 : GoodIn w_x_rules (wsS RX11 353 yX11_needPicture w_z_X11_needPicture) := goodIn_app (goodIn_sub (by decide +kernel) (by decide +kernel)) (goodIn_ca (goodIn_sub (by decide +kernel) (by decide +kernel)) (goodIn_in in_x_rules_at0_X11_122 gd_at0_X11_122))
theorem g_x_rules_z_X7_readAll_481 : GoodIn w_x_rules (wsV RX11 481 RX7 yX7_readAll w_z_X7_readAll) := goodIn_app (goodIn_sub (by decide +kernel) (by decide +kernel)) (goodIn_ca (goodIn_sub (by decide +kernel) (by decide +kernel)) (goodIn_app (goodIn_in in_x_rules_X7 gd_X7) (goodIn_in in_x_rules_X9 gd_X9)))
theorem g_x_rules_z_X11_tellFault_1_339 : GoodIn w_x_rules (wsV RX11 339 RX11 yX11_tellFault w_z_X11_tellFault_1) := goodIn_app (goodIn_sub (by decide +kernel) (by decide +kernel)) (goodIn_ca (goodIn_sub (by decide +kernel) (by decide +kernel)) (goodIn_in in_x_rules_X11 gd_X11))
theorem g_x_rules_z_X1_workOut_486 : GoodIn w_x_rules (wsV RX11 486 RX1 yX1_workOut w_z_X1_workOut) := goodIn_app (goodIn_sub (by decide +kernel) (by decide +kernel)) (goodIn_ca (goodIn_sub (by decide +kernel) (by decide +kernel)) (goodIn_app (goodIn_in in_x_rules_X1 gd_X1) (goodIn_app (goodIn_in in_x_rules_X5 gd_X5) (goodIn_in in_x_rules_X7 gd_X7))))
set_option maxHeartbeats 4000000 in
set_option maxRecDepth 100000 in
theorem x_rules (l : Launch) (dC : Nat → ClassId) (dI : Nat → Nat → Nat) (sz : Nat) (aX : Nat) (fsX : List Value) (aT : Nat) (fsT : List Value) (qw : Nat) (fw : Nat → Int32) (kw : ClassId) (qp : Nat) (fp : Nat → Int32) (kp : ClassId) (qc : Nat) (fc : Nat → Int64) (kcc : ClassId) (qP : Nat) (gP : Nat → Option Nat) (kP : ClassId) (ap : Nat) (fsp : List Value) (aR : Nat) (fsR : List Value) (aF : Nat) (fsF : List Value) (qo : Nat) (fo : Nat → Int64) (ko : ClassId) (qu : Nat) (fu : Nat → Int64) (ku : ClassId) (qd : Nat) (fd : Nat → Int64) (kd : ClassId) (p0 : Int32) (k_fsX : fh fsX 18 [(4, .ref qP), (11, .ref aR), (12, .ref aF)]) (k_fsT : fh fsT 12 [(1, .int 0), (5, .ref qw), (6, .ref qp), (7, .ref qc)]) (k_fsp : fh fsp 21 [(0, .int 0)]) (k_fsR : fh fsR 21 [(0, .ref aT), (16, .int 0)]) (k_fsF : fh fsF 10 [(3, .ref qo), (4, .ref qu), (5, .ref qd)]) (hst : l.stackTraces = false) (hg : gP p0.toNatClampNeg = some ap) : vx_Met l yX11_rules w_x_rules ({ frames := 8, cells := 1, slots := 6, locals := 160 }) (va_Pc [.ref aX, .int p0] (fun U => U.heap.size = sz ∧ Zz (va_A [(aX, .inr (14, fsX)), (aT, .inr (12, fsT)), (qw, .inl (kw, 4001, .inl fw)), (qp, .inl (kp, 4001, .inl fp)), (qc, .inl (kcc, 4001, .inr (.inl fc))), (qP, .inl (kP, 4, .inr (.inr (.inr (.inr gP))))), (ap, .inr (8, fsp)), (aR, .inr (10, fsR)), (aF, .inr (4, fsF)), (qo, .inl (ko, 360, .inr (.inl fo))), (qu, .inl (ku, 360, .inr (.inl fu))), (qd, .inl (kd, 9, .inr (.inl fd)))] sz) U ∧ Wd dC dI [(kw, .int), (kp, .int), (kcc, .long), (kP, .object "HeapWorks$Picture"), (ko, .long), (ku, .long), (kd, .long)] (fun _ => True) [(aX, .inr (14, fsX)), (aT, .inr (12, fsT)), (qw, .inl (kw, 4001, .inl fw)), (qp, .inl (kp, 4001, .inl fp)), (qc, .inl (kcc, 4001, .inr (.inl fc))), (qP, .inl (kP, 4, .inr (.inr (.inr (.inr gP))))), (ap, .inr (8, fsp)), (aR, .inr (10, fsR)), (aF, .inr (4, fsF)), (qo, .inl (ko, 360, .inr (.inl fo))), (qu, .inl (ku, 360, .inr (.inl fu))), (qd, .inl (kd, 9, .inr (.inl fd)))] U)) (va_Qi (fun (r : Int32) (u : List Value × List Value × (Nat → Int32) × (Nat → Int32) × (Nat → Int64) × List Value × List Value × (Nat → Int64) × (Nat → Int64) × (Nat → Int64)) => (¬ p0 < 0 ∧ ¬ 4 ≤ p0 ∧ r = 0 ∧ ow fsX (u.1) 18 [17, 16] [(17, .int (-1)), (16, .int 0), (4, .ref qP), (11, .ref aR), (12, .ref aF)] ∧ ow fsT (u.2.1) 12 [11, 10, 9, 8, 4] [(11, .long 0), (10, .int 0), (9, .int 0), (8, .int 0), (5, .ref qw), (6, .ref qp), (7, .ref qc), (8, .int 0), (4, .int 0), (1, .int 0), (4, .int 0), (1, .int 0), (5, .ref qw), (6, .ref qp), (7, .ref qc), (1, .int 0), (5, .ref qw), (6, .ref qp), (7, .ref qc), (1, .int 0), (5, .ref qw), (6, .ref qp), (7, .ref qc)] ∧ ow fsR (u.2.2.2.2.2.1) 21 [20, 19, 16, 3] [(20, .int (-1)), (19, .int 0), (16, .int 0), (3, .int 0), (0, .ref aT), (0, .ref aT)] ∧ ow fsF (u.2.2.2.2.2.2.1) 10 [9, 2, 1, 8] [(9, .int 0), (2, .long 0), (1, .int 0), (8, .ref aR), (3, .ref qo), (4, .ref qu), (5, .ref qd), (3, .ref qo), (4, .ref qu), (5, .ref qd)] ∧ (u.2.2.1) (0 : Int32).toNatClampNeg = 0 ∧ (u.2.2.2.1) (0 : Int32).toNatClampNeg = 0 ∧ (u.2.2.2.2.1) (0 : Int32).toNatClampNeg = 0) ∨ (¬ p0 < 0 ∧ ¬ 4 ≤ p0 ∧ r = 0 ∧ ow fsX (u.1) 18 [17, 16] [(17, .int (-1)), (16, .int 0), (4, .ref qP), (11, .ref aR), (12, .ref aF)] ∧ ow fsT (u.2.1) 12 [11, 10, 9, 8, 4] [(11, .long 0), (10, .int 0), (9, .int 0), (8, .int 0), (5, .ref qw), (6, .ref qp), (7, .ref qc), (8, .int 0), (4, .int 0), (1, .int 0), (4, .int 0), (1, .int 0), (5, .ref qw), (6, .ref qp), (7, .ref qc), (1, .int 0), (5, .ref qw), (6, .ref qp), (7, .ref qc), (1, .int 0), (5, .ref qw), (6, .ref qp), (7, .ref qc)] ∧ ow fsR (u.2.2.2.2.2.1) 21 [20, 19, 16, 3] [(20, .int (-1)), (19, .int 0), (16, .int 0), (3, .int 0), (0, .ref aT), (0, .ref aT)] ∧ ow fsF (u.2.2.2.2.2.2.1) 10 [9, 2, 1, 8] [(9, .int 0), (2, .long 0), (1, .int 0), (8, .ref aR), (3, .ref qo), (4, .ref qu), (5, .ref qd), (3, .ref qo), (4, .ref qu), (5, .ref qd)] ∧ (u.2.2.1) (0 : Int32).toNatClampNeg = 0 ∧ (u.2.2.2.1) (0 : Int32).toNatClampNeg = 0 ∧ (u.2.2.2.2.1) (0 : Int32).toNatClampNeg = 0)) (fun (u : List Value × List Value × (Nat → Int32) × (Nat → Int32) × (Nat → Int64) × List Value × List Value × (Nat → Int64) × (Nat → Int64) × (Nat → Int64)) t => Wd dC dI [(kw, .int), (kp, .int), (kcc, .long), (kP, .object "HeapWorks$Picture"), (ko, .long), (ku, .long), (kd, .long)] (va_A [(aX, .inr (14, fsX)), (aT, .inr (12, fsT)), (qw, .inl (kw, 4001, .inl fw)), (qp, .inl (kp, 4001, .inl fp)), (qc, .inl (kcc, 4001, .inr (.inl fc))), (qP, .inl (kP, 4, .inr (.inr (.inr (.inr gP))))), (ap, .inr (8, fsp)), (aR, .inr (10, fsR)), (aF, .inr (4, fsF)), (qo, .inl (ko, 360, .inr (.inl fo))), (qu, .inl (ku, 360, .inr (.inl fu))), (qd, .inl (kd, 9, .inr (.inl fd)))] sz) [(aX, .inr (14, (u.1))), (aT, .inr (12, (u.2.1))), (qw, .inl (kw, 4001, .inl ((u.2.2.1)))), (qp, .inl (kp, 4001, .inl ((u.2.2.2.1)))), (qc, .inl (kcc, 4001, .inr (.inl ((u.2.2.2.2.1))))), (qP, .inl (kP, 4, .inr (.inr (.inr (.inr gP))))), (ap, .inr (8, fsp)), (aR, .inr (10, (u.2.2.2.2.2.1))), (aF, .inr (4, (u.2.2.2.2.2.2.1))), (qo, .inl (ko, 360, .inr (.inl ((u.2.2.2.2.2.2.2.1))))), (qu, .inl (ku, 360, .inr (.inl ((u.2.2.2.2.2.2.2.2.1))))), (qd, .inl (kd, 9, .inr (.inl ((u.2.2.2.2.2.2.2.2.2)))))] t) (va_A [(aX, .inr (14, fsX)), (aT, .inr (12, fsT)), (qw, .inl (kw, 4001, .inl fw)), (qp, .inl (kp, 4001, .inl fp)), (qc, .inl (kcc, 4001, .inr (.inl fc))), (qP, .inl (kP, 4, .inr (.inr (.inr (.inr gP))))), (ap, .inr (8, fsp)), (aR, .inr (10, fsR)), (aF, .inr (4, fsF)), (qo, .inl (ko, 360, .inr (.inl fo))), (qu, .inl (ku, 360, .inr (.inl fu))), (qd, .inl (kd, 9, .inr (.inl fd)))] sz)) (vx_X (fun _ : Unit => True) (fun E _ _ => (E = "java/lang/IndexOutOfBoundsException" ∧ p0 < 0) ∨ (E = "java/lang/IndexOutOfBoundsException" ∧ ¬ p0 < 0 ∧ 4 ≤ p0)) (va_A [(aX, .inr (14, fsX)), (aT, .inr (12, fsT)), (qw, .inl (kw, 4001, .inl fw)), (qp, .inl (kp, 4001, .inl fp)), (qc, .inl (kcc, 4001, .inr (.inl fc))), (qP, .inl (kP, 4, .inr (.inr (.inr (.inr gP))))), (ap, .inr (8, fsp)), (aR, .inr (10, fsR)), (aF, .inr (4, fsF)), (qo, .inl (ko, 360, .inr (.inl fo))), (qu, .inl (ku, 360, .inr (.inl fu))), (qd, .inl (kd, 9, .inr (.inl fd)))] sz)) 1 6 (va_A [(aX, .inr (14, fsX)), (aT, .inr (12, fsT)), (qw, .inl (kw, 4001, .inl fw)), (qp, .inl (kp, 4001, .inl fp)), (qc, .inl (kcc, 4001, .inr (.inl fc))), (qP, .inl (kP, 4, .inr (.inr (.inr (.inr gP))))), (ap, .inr (8, fsp)), (aR, .inr (10, fsR)), (aF, .inr (4, fsF)), (qo, .inl (ko, 360, .inr (.inl fo))), (qu, .inl (ku, 360, .inr (.inl fu))), (qd, .inl (kd, 9, .inr (.inl fd)))] sz) := by
  refine vx_ofW (cc := cX11_rules) (maxL := 5) (ret := (some .int)) (by decide) rfl ?_
  intro p e s m args below meth c s₁ B hml htab hv
  obtain ⟨rfl, hsz, hZ, hP, hK, hD0⟩ := hv
  have hx := B.exec
  have hb := B.bytes
  have hr := B.returns
  have hts := atoms_spec (ws := w_x_rules) B.pre
  have hown : s.vm.findClass RX11 = some m.cls := findClass_of_methodNamed B.named
  have hlocks := B.notSynchronized
  subst hsz
  have hD := hD0.self (sz := s.heap.size)
  generalize hAe : va_A [(aX, .inr (14, fsX)), (aT, .inr (12, fsT)), (qw, .inl (kw, 4001, .inl fw)), (qp, .inl (kp, 4001, .inl fp)), (qc, .inl (kcc, 4001, .inr (.inl fc))), (qP, .inl (kP, 4, .inr (.inr (.inr (.inr gP))))), (ap, .inr (8, fsp)), (aR, .inr (10, fsR)), (aF, .inr (4, fsF)), (qo, .inl (ko, 360, .inr (.inl fo))), (qu, .inl (ku, 360, .inr (.inl fu))), (qd, .inl (kd, 9, .inr (.inl fd)))] s.heap.size = A at hD hZ ⊢
  have hA : ∀ q : Nat, s.heap.size ≤ q → A q := fun q h => by rw [← hAe]; exact Or.inr h
  have hS : va_S A s.heap s.heap [] := va_S.rf
  have hl := lv_entry ([.ref aX, .int p0]) (n := 5) (Nat.le_of_ble_eq_true rfl)
  rw [lg_entry_eq]
  generalize (lg_sl ([.ref aX, .int p0]) ++ List.replicate (5 - (lg_sl ([.ref aX, .int p0])).length) Slot.unset).toArray = ls at hl ⊢
  have hl : lv_has ls 5 [(0, .ref aX), (1, .int p0)] := hl
  have o_fsX := ow_0 k_fsX
  have o_fsT := ow_0 k_fsT
  have o_fsp := ow_0 k_fsp
  have o_fsR := ow_0 k_fsR
  have o_fsF := ow_0 k_fsF
  refine lv_iload_n hx hb dX11_rules_0 rfl (lv_at hl 1 rfl) ?_
  have hPc := hP.sub (ws' := []) [] rfl
  have hDc := hD.sub (ws' := []) [] (by decide) rfl
  have hKc := hK.sub (tys' := []) [] rfl
  have hFc := va_free (wc := []) hD hS hA [] rfl
  refine vx_callv (vx_runS (As := [.int p0]) (rest := []) ⟨hx, hb, hml, hown, hts⟩ (z_X11_needPicture l dC dI s.heap.size p0  hst ) (cwS 1 hts g_x_rules_z_X11_needPicture_353 rfl rfl rfl (by decide +kernel) ⟨Nat.le_of_ble_eq_true rfl, Nat.le_of_ble_eq_true rfl⟩) ⟨fun a U g mk q => by obtain ⟨q0, q1, qZ, qP, qK, qD⟩ := q; exact ⟨q0, q1, Zz_call qZ, qP, va_K.moved (u := U) (U := U.calling g mk a) (Vm.Alike.refl U.vm) qK, qD⟩, fun U hU hW => ⟨rfl, by rw [hU], Zz_go hZ hS hFc hU hW, by rw [hU]; exact hPc, va_K.moved hW.alike hKc, hDc.weaken (fun _ _ _ _ => trivial)⟩⟩ rfl rfl hl.1 rfl (lv_room (Nat.le_of_ble_eq_true rfl)) dX11_rules_1 ⟨Nat.le_of_ble_eq_true rfl, Nat.le_of_ble_eq_true rfl⟩) hS (fun q _ h => hFc q h) hFc (fun q _ h => hFc q h) (fun E ce q9 u t H1 locs ht hvm hpx hBX hz1 hk1 hS hce hcv hcl => ?_) (fun u t H1 locs ht hvm hw hB hz1 hk1 hS => ?_)
  · rcases hBX with ⟨rfl, c6972⟩ | ⟨rfl, c6973, c6974⟩
    · exact vx_out (fun x h => (htab x h).elim) hlocks hce hcv hcl (fun t9 ht9 _ => ⟨(), trivial, (Or.inl ⟨rfl, c6972⟩), hS.F ht9⟩) hS.2.2 (by decide) (by decide)
    · exact vx_out (fun x h => (htab x h).elim) hlocks hce hcv hcl (fun t9 ht9 _ => ⟨(), trivial, (Or.inr (⟨rfl, c6973, c6974⟩)), hS.F ht9⟩) hS.2.2 (by decide) (by decide)
  · skip
    obtain ⟨hP1, hK1, hD1⟩ := hB
    rw [ht] at hP1
    try dsimp only at hw
    obtain ⟨hP, hD⟩ := va_join (wr := [(aX, .inr (14, fsX)), (aT, .inr (12, fsT)), (qw, .inl (kw, 4001, .inl fw)), (qp, .inl (kp, 4001, .inl fp)), (qc, .inl (kcc, 4001, .inr (.inl fc))), (qP, .inl (kP, 4, .inr (.inr (.inr (.inr gP))))), (ap, .inr (8, fsp)), (aR, .inr (10, fsR)), (aF, .inr (4, fsF)), (qo, .inl (ko, 360, .inr (.inl fo))), (qu, .inl (ku, 360, .inr (.inl fu))), (qd, .inl (kd, 9, .inr (.inl fd)))]) (w1 := []) hP hD [] [0, 1, 2, 3, 4, 5, 6, 7, 8, 9, 10, 11] rfl rfl (by decide) (by decide) hk1 hFc hP1 hD1
    have hK := hK.sub (tys' := [(kw, .int), (kp, .int), (kcc, .long), (kP, .object "HeapWorks$Picture"), (ko, .long), (ku, .long), (kd, .long)]) [0, 1, 2, 3, 4, 5, 6] rfl
    generalize H1 = H at hP hS ⊢
    refine W.widen (k := 1) (n := 6) (by omega) (by omega) ?_
    have hP : va_P (dC, dI) vwCl [(aX, .inr (14, fsX)), (aT, .inr (12, fsT)), (qw, .inl (kw, 4001, .inl fw)), (qp, .inl (kp, 4001, .inl fp)), (qc, .inl (kcc, 4001, .inr (.inl fc))), (qP, .inl (kP, 4, .inr (.inr (.inr (.inr gP))))), (ap, .inr (8, fsp)), (aR, .inr (10, fsR)), (aF, .inr (4, fsF)), (qo, .inl (ko, 360, .inr (.inl fo))), (qu, .inl (ku, 360, .inr (.inl fu))), (qd, .inl (kd, 9, .inr (.inl fd)))] H := hP
    have hD : va_D A [(aX, .inr (14, fsX)), (aT, .inr (12, fsT)), (qw, .inl (kw, 4001, .inl fw)), (qp, .inl (kp, 4001, .inl fp)), (qc, .inl (kcc, 4001, .inr (.inl fc))), (qP, .inl (kP, 4, .inr (.inr (.inr (.inr gP))))), (ap, .inr (8, fsp)), (aR, .inr (10, fsR)), (aF, .inr (4, fsF)), (qo, .inl (ko, 360, .inr (.inl fo))), (qu, .inl (ku, 360, .inr (.inl fu))), (qd, .inl (kd, 9, .inr (.inl fd)))] := hD
    obtain ⟨c6975, c6976⟩ := hw
    refine lv_aload_n hx hb dX11_rules_4 rfl (lv_at hl 0 rfl) ?_
    refine va_get (D := (dC, dI)) (ci := 14) (v := .ref qP) (C := RX11) (T := TX11) (N := 18) hx hb hts (in_x_rules_X11) hown hK hP 0 rfl rfl 4 (by decide) (hts (.fieldLink RX11 41 "HeapWorks" "pictures" "[LHeapWorks$Picture;") (by decide +kernel)) (fun _ h9 => h9) (ow_at o_fsX 0 rfl) dX11_rules_5 ?_
    refine lv_iload_n hx hb dX11_rules_8 rfl (lv_at hl 1 rfl) ?_
    refine va_aldq hx hb hK hP 5 3 rfl rfl (by rw [vp_in_iff]; (try simp only [i_lt, i_le, i_eq, kc_0, kc_4] at c6975 c6976); omega) dX11_rules_9 ?_
    refine W.eq (g2 := F0 m 10 ls (.ref ap :: [])) (by rw [hg]; rfl) ?_
    refine va_get (D := (dC, dI)) (ci := 8) (v := .int 0) (C := RX5) (T := TX5) (N := 21) hx hb hts (in_x_rules_X5) hown hK hP 6 rfl rfl 0 (by decide) (hts (.fieldLink RX11 356 "HeapWorks$Picture" "things" "I") (by decide +kernel)) (fun _ h9 => h9) (ow_at o_fsp 0 rfl) dX11_rules_10 ?_
    refine lv_bipush (v := 40) hx hb dX11_rules_13 (by decide) ?_
    refine lv_icmp_le (tgt := 26) hx hb dX11_rules_15 (by decide) (fun c6977 => ?_) (fun c6977 => absurd c6977 (by decide))
    refine lv_aload_n hx hb dX11_rules_26 rfl (lv_at hl 0 rfl) ?_
    refine va_get (D := (dC, dI)) (ci := 14) (v := .ref aR) (C := RX11) (T := TX11) (N := 18) hx hb hts (in_x_rules_X11) hown hK hP 0 rfl rfl 11 (by decide) (hts (.fieldLink RX11 77 "HeapWorks" "ruleText" "LHeapWorks$RuleText;") (by decide +kernel)) (fun _ h9 => h9) (ow_at o_fsX 1 rfl) dX11_rules_27 ?_
    have hPc := hP.sub (ws' := [(aT, .inr (12, fsT)), (qw, .inl (kw, 4001, .inl fw)), (qp, .inl (kp, 4001, .inl fp)), (qc, .inl (kcc, 4001, .inr (.inl fc))), (aR, .inr (10, fsR))]) [1, 2, 3, 4, 7] rfl
    have hDc := hD.sub (ws' := [(aT, .inr (12, fsT)), (qw, .inl (kw, 4001, .inl fw)), (qp, .inl (kp, 4001, .inl fp)), (qc, .inl (kcc, 4001, .inr (.inl fc))), (aR, .inr (10, fsR))]) [1, 2, 3, 4, 7] (by decide) rfl
    have hKc := hK.sub (tys' := [(kw, .int), (kp, .int), (kcc, .long)]) [0, 1, 2] rfl
    have hFc := va_free (wc := [(aT, .inr (12, fsT)), (qw, .inl (kw, 4001, .inl fw)), (qp, .inl (kp, 4001, .inl fp)), (qc, .inl (kcc, 4001, .inr (.inl fc))), (aR, .inr (10, fsR))]) hD hS hA [1, 2, 3, 4, 7] rfl
    refine va_calli (va_runV (As := []) (rest := []) ⟨hx, hb, hml, hown, hts⟩ (z_X7_readAll l dC dI H.size aT fsT qw fw kw qp fp kp qc fc kcc aR fsR (fh_sub o_fsT.2 [0, 1, 2, 3] rfl) (fh_sub o_fsR.2 [0] rfl) ) (cwV 0 hts g_x_rules_z_X7_readAll_481 rfl rfl rfl (by decide +kernel) ⟨Nat.le_of_ble_eq_true rfl, Nat.le_of_ble_eq_true rfl⟩) ⟨fun a U g mk q => by obtain ⟨q0, q1, qP, qK, qD⟩ := q; exact ⟨q0, q1, qP, va_K.moved (u := U) (U := U.calling g mk a) (Vm.Alike.refl U.vm) qK, qD⟩, va_recv hK hP (ci := 10) (q0 := 7) rfl rfl, fun U hU hW => ⟨rfl, by rw [hU], by rw [hU]; exact hPc, va_K.moved hW.alike hKc, hDc.weaken (fun _ _ _ _ => trivial)⟩⟩ rfl rfl hl.1 rfl (lv_room (Nat.le_of_ble_eq_true rfl)) dX11_rules_30 ⟨Nat.le_of_ble_eq_true rfl, Nat.le_of_ble_eq_true rfl⟩) hS (fun q _ h => hFc q h) hFc (fun r7030 u t H1 locs ht hvm hw hB hz1 hk1 hS => ?_)
    obtain ⟨s7031, f7032, f7033, f7034, s7035⟩ := u
    obtain ⟨hP1, hK1, hD1⟩ := hB
    rw [ht] at hP1
    try dsimp only at hw
    obtain ⟨hP, hD⟩ := va_join (wr := [(aX, .inr (14, fsX)), (qP, .inl (kP, 4, .inr (.inr (.inr (.inr gP))))), (ap, .inr (8, fsp)), (aF, .inr (4, fsF)), (qo, .inl (ko, 360, .inr (.inl fo))), (qu, .inl (ku, 360, .inr (.inl fu))), (qd, .inl (kd, 9, .inr (.inl fd)))]) (w1 := [(aT, .inr (12, s7031)), (qw, .inl (kw, 4001, .inl f7032)), (qp, .inl (kp, 4001, .inl f7033)), (qc, .inl (kcc, 4001, .inr (.inl f7034))), (aR, .inr (10, s7035))]) hP hD [1, 2, 3, 4, 7] [0, 5, 6, 8, 9, 10, 11] rfl rfl (by decide) (by decide) hk1 hFc hP1 hD1
    have hK := hK.sub (tys' := [(kP, .object "HeapWorks$Picture"), (ko, .long), (ku, .long), (kd, .long), (kw, .int), (kp, .int), (kcc, .long)]) [3, 4, 5, 6, 0, 1, 2] rfl
    generalize H1 = H at hP hS ⊢
    have hP : va_P (dC, dI) vwCl [(aX, .inr (14, fsX)), (qP, .inl (kP, 4, .inr (.inr (.inr (.inr gP))))), (ap, .inr (8, fsp)), (aF, .inr (4, fsF)), (qo, .inl (ko, 360, .inr (.inl fo))), (qu, .inl (ku, 360, .inr (.inl fu))), (qd, .inl (kd, 9, .inr (.inl fd))), (aT, .inr (12, s7031)), (qw, .inl (kw, 4001, .inl f7032)), (qp, .inl (kp, 4001, .inl f7033)), (qc, .inl (kcc, 4001, .inr (.inl f7034))), (aR, .inr (10, s7035))] H := hP
    have hD : va_D A [(aX, .inr (14, fsX)), (qP, .inl (kP, 4, .inr (.inr (.inr (.inr gP))))), (ap, .inr (8, fsp)), (aF, .inr (4, fsF)), (qo, .inl (ko, 360, .inr (.inl fo))), (qu, .inl (ku, 360, .inr (.inl fu))), (qd, .inl (kd, 9, .inr (.inl fd))), (aT, .inr (12, s7031)), (qw, .inl (kw, 4001, .inl f7032)), (qp, .inl (kp, 4001, .inl f7033)), (qc, .inl (kcc, 4001, .inr (.inl f7034))), (aR, .inr (10, s7035))] := hD
    rcases hw with ⟨er7036, o_s7031, o_s7035, q7037, q7038, q7039⟩ | ⟨er7040, o_s7031, o_s7035, q7041, q7042, q7043⟩
    · skip
      subst er7036
      have o_s7031 := ow_on o_fsT o_s7031 (l' := [(11, .long 0), (10, .int 0), (9, .int 0), (8, .int 0), (5, .ref qw), (6, .ref qp), (7, .ref qc), (8, .int 0), (4, .int 0), (1, .int 0), (4, .int 0), (1, .int 0), (5, .ref qw), (6, .ref qp), (7, .ref qc), (1, .int 0), (5, .ref qw), (6, .ref qp), (7, .ref qc), (1, .int 0), (5, .ref qw), (6, .ref qp), (7, .ref qc)]) (w' := [11, 10, 9, 8, 4]) rfl rfl
      have o_s7035 := ow_on o_fsR o_s7035 (l' := [(20, .int (-1)), (19, .int 0), (16, .int 0), (3, .int 0), (0, .ref aT), (0, .ref aT)]) (w' := [20, 19, 16, 3]) rfl rfl
      refine lv_istore_n (lv' := [(2, .int 1), (0, .ref aX), (1, .int p0)]) hx hb dX11_rules_33 rfl hl (by decide) rfl (fun ls hl => ?_)
      refine lv_aload_n hx hb dX11_rules_34 rfl (lv_at hl 1 rfl) ?_
      refine lv_aload_n hx hb dX11_rules_35 rfl (lv_at hl 1 rfl) ?_
      refine va_get (D := (dC, dI)) (ci := 14) (v := .ref aR) (C := RX11) (T := TX11) (N := 18) hx hb hts (in_x_rules_X11) hown hK hP 0 rfl rfl 11 (by decide) (hts (.fieldLink RX11 77 "HeapWorks" "ruleText" "LHeapWorks$RuleText;") (by decide +kernel)) (fun _ h9 => h9) (ow_at o_fsX 1 rfl) dX11_rules_36 ?_
      refine va_get (D := (dC, dI)) (ci := 10) (v := .int 0) (C := RX7) (T := TX7) (N := 21) hx hb hts (in_x_rules_X7) hown hK hP 11 rfl rfl 19 (by decide) (hts (.fieldLink RX11 484 "HeapWorks$RuleText" "fault" "I") (by decide +kernel)) (fun _ h9 => h9) (ow_at o_s7035 1 rfl) dX11_rules_39 ?_
      refine lv_aload_n hx hb dX11_rules_42 rfl (lv_at hl 1 rfl) ?_
      refine va_get (D := (dC, dI)) (ci := 14) (v := .ref aR) (C := RX11) (T := TX11) (N := 18) hx hb hts (in_x_rules_X11) hown hK hP 0 rfl rfl 11 (by decide) (hts (.fieldLink RX11 77 "HeapWorks" "ruleText" "LHeapWorks$RuleText;") (by decide +kernel)) (fun _ h9 => h9) (ow_at o_fsX 1 rfl) dX11_rules_43 ?_
      refine va_get (D := (dC, dI)) (ci := 10) (v := .int (-1)) (C := RX7) (T := TX7) (N := 21) hx hb hts (in_x_rules_X7) hown hK hP 11 rfl rfl 20 (by decide) (hts (.fieldLink RX11 485 "HeapWorks$RuleText" "place" "I") (by decide +kernel)) (fun _ h9 => h9) (ow_at o_s7035 0 rfl) dX11_rules_46 ?_
      have hPc := hP.sub (ws' := [(aX, .inr (14, fsX))]) [0] rfl
      have hDc := hD.sub (ws' := [(aX, .inr (14, fsX))]) [0] (by decide) rfl
      have hKc := hK.sub (tys' := []) [] rfl
      have hFc := va_free (wc := [(aX, .inr (14, fsX))]) hD hS hA [0] rfl
      refine va_callv (va_runV (As := [.int 0, .int (-1)]) (rest := []) ⟨hx, hb, hml, hown, hts⟩ (z_X11_tellFault_1 l dC dI H.size aX fsX (fh_sub o_fsX.2 [] rfl) ) (cwV 2 hts g_x_rules_z_X11_tellFault_1_339 rfl rfl rfl (by decide +kernel) ⟨Nat.le_of_ble_eq_true rfl, Nat.le_of_ble_eq_true rfl⟩) ⟨fun a U g mk q => by obtain ⟨q0, q1, qP, qK, qD⟩ := q; exact ⟨q0, q1, qP, va_K.moved (u := U) (U := U.calling g mk a) (Vm.Alike.refl U.vm) qK, qD⟩, va_recv hK hP (ci := 14) (q0 := 0) rfl rfl, fun U hU hW => ⟨rfl, by rw [hU], by rw [hU]; exact hPc, va_K.moved hW.alike hKc, hDc.weaken (fun _ _ _ _ => trivial)⟩⟩ rfl rfl hl.1 rfl (lv_room (Nat.le_of_ble_eq_true rfl)) dX11_rules_49 ⟨Nat.le_of_ble_eq_true rfl, Nat.le_of_ble_eq_true rfl⟩) hS (fun q _ h => hFc q h) hFc (fun u t H1 locs ht hvm hw hB hz1 hk1 hS => ?_)
      obtain ⟨s7047, rfl⟩ : ∃ z, z = u := ⟨_, rfl⟩
      obtain ⟨hP1, hK1, hD1⟩ := hB
      rw [ht] at hP1
      try dsimp only at hw
      obtain ⟨hP, hD⟩ := va_join (wr := [(qP, .inl (kP, 4, .inr (.inr (.inr (.inr gP))))), (ap, .inr (8, fsp)), (aF, .inr (4, fsF)), (qo, .inl (ko, 360, .inr (.inl fo))), (qu, .inl (ku, 360, .inr (.inl fu))), (qd, .inl (kd, 9, .inr (.inl fd))), (aT, .inr (12, s7031)), (qw, .inl (kw, 4001, .inl f7032)), (qp, .inl (kp, 4001, .inl f7033)), (qc, .inl (kcc, 4001, .inr (.inl f7034))), (aR, .inr (10, s7035))]) (w1 := [(aX, .inr (14, s7047))]) hP hD [0] [1, 2, 3, 4, 5, 6, 7, 8, 9, 10, 11] rfl rfl (by decide) (by decide) hk1 hFc hP1 hD1
      have hK := hK.sub (tys' := [(kP, .object "HeapWorks$Picture"), (ko, .long), (ku, .long), (kd, .long), (kw, .int), (kp, .int), (kcc, .long)]) [0, 1, 2, 3, 4, 5, 6] rfl
      generalize H1 = H at hP hS ⊢
      have hP : va_P (dC, dI) vwCl [(qP, .inl (kP, 4, .inr (.inr (.inr (.inr gP))))), (ap, .inr (8, fsp)), (aF, .inr (4, fsF)), (qo, .inl (ko, 360, .inr (.inl fo))), (qu, .inl (ku, 360, .inr (.inl fu))), (qd, .inl (kd, 9, .inr (.inl fd))), (aT, .inr (12, s7031)), (qw, .inl (kw, 4001, .inl f7032)), (qp, .inl (kp, 4001, .inl f7033)), (qc, .inl (kcc, 4001, .inr (.inl f7034))), (aR, .inr (10, s7035)), (aX, .inr (14, s7047))] H := hP
      have hD : va_D A [(qP, .inl (kP, 4, .inr (.inr (.inr (.inr gP))))), (ap, .inr (8, fsp)), (aF, .inr (4, fsF)), (qo, .inl (ko, 360, .inr (.inl fo))), (qu, .inl (ku, 360, .inr (.inl fu))), (qd, .inl (kd, 9, .inr (.inl fd))), (aT, .inr (12, s7031)), (qw, .inl (kw, 4001, .inl f7032)), (qp, .inl (kp, 4001, .inl f7033)), (qc, .inl (kcc, 4001, .inr (.inl f7034))), (aR, .inr (10, s7035)), (aX, .inr (14, s7047))] := hD
      have o_s7047 := hw
      have o_s7047 := ow_on o_fsX o_s7047 (l' := [(17, .int (-1)), (16, .int 0), (4, .ref qP), (11, .ref aR), (12, .ref aF)]) (w' := [17, 16]) rfl rfl
      refine lv_iload_n hx hb dX11_rules_52 rfl (lv_at hl 0 rfl) ?_
      refine lv_if_ne (tgt := 64) hx hb dX11_rules_53 (by decide) (fun c7048 => ?_) (fun c7048 => absurd c7048 (by decide))
      refine lv_aload_n hx hb dX11_rules_64 rfl (lv_at hl 1 rfl) ?_
      refine va_get (D := (dC, dI)) (ci := 14) (v := .ref aF) (C := RX11) (T := TX11) (N := 18) hx hb hts (in_x_rules_X11) hown hK hP 11 rfl rfl 12 (by decide) (hts (.fieldLink RX11 84 "HeapWorks" "factBook" "LHeapWorks$FactBook;") (by decide +kernel)) (fun _ h9 => h9) (ow_at o_s7047 4 rfl) dX11_rules_65 ?_
      refine lv_aload_n hx hb dX11_rules_68 rfl (lv_at hl 1 rfl) ?_
      refine va_get (D := (dC, dI)) (ci := 14) (v := .ref aR) (C := RX11) (T := TX11) (N := 18) hx hb hts (in_x_rules_X11) hown hK hP 11 rfl rfl 11 (by decide) (hts (.fieldLink RX11 77 "HeapWorks" "ruleText" "LHeapWorks$RuleText;") (by decide +kernel)) (fun _ h9 => h9) (ow_at o_s7047 3 rfl) dX11_rules_69 ?_
      refine lv_aload_n hx hb dX11_rules_72 rfl (lv_at hl 1 rfl) ?_
      refine va_get (D := (dC, dI)) (ci := 14) (v := .ref qP) (C := RX11) (T := TX11) (N := 18) hx hb hts (in_x_rules_X11) hown hK hP 11 rfl rfl 4 (by decide) (hts (.fieldLink RX11 41 "HeapWorks" "pictures" "[LHeapWorks$Picture;") (by decide +kernel)) (fun _ h9 => h9) (ow_at o_s7047 2 rfl) dX11_rules_73 ?_
      refine lv_iload_n hx hb dX11_rules_76 rfl (lv_at hl 2 rfl) ?_
      refine va_aldq hx hb hK hP 0 0 rfl rfl (by rw [vp_in_iff]; (try simp only [i_lt, i_le, i_eq, kc_0, kc_4] at c6975 c6976); omega) dX11_rules_77 ?_
      refine W.eq (g2 := F0 m 78 ls (.ref ap :: [.ref aR, .ref aF])) (by rw [hg]; rfl) ?_
      have hPc := hP.sub (ws' := [(ap, .inr (8, fsp)), (aF, .inr (4, fsF)), (qo, .inl (ko, 360, .inr (.inl fo))), (qu, .inl (ku, 360, .inr (.inl fu))), (qd, .inl (kd, 9, .inr (.inl fd))), (aR, .inr (10, s7035))]) [1, 2, 3, 4, 5, 10] rfl
      have hDc := hD.sub (ws' := [(ap, .inr (8, fsp)), (aF, .inr (4, fsF)), (qo, .inl (ko, 360, .inr (.inl fo))), (qu, .inl (ku, 360, .inr (.inl fu))), (qd, .inl (kd, 9, .inr (.inl fd))), (aR, .inr (10, s7035))]) [1, 2, 3, 4, 5, 10] (by decide) rfl
      have hKc := hK.sub (tys' := [(ko, .long), (ku, .long), (kd, .long)]) [1, 2, 3] rfl
      have hFc := va_free (wc := [(ap, .inr (8, fsp)), (aF, .inr (4, fsF)), (qo, .inl (ko, 360, .inr (.inl fo))), (qu, .inl (ku, 360, .inr (.inl fu))), (qd, .inl (kd, 9, .inr (.inl fd))), (aR, .inr (10, s7035))]) hD hS hA [1, 2, 3, 4, 5, 10] rfl
      refine va_callv (va_runV (As := [.ref aR, .ref ap]) (rest := []) ⟨hx, hb, hml, hown, hts⟩ (z_X1_workOut l dC dI H.size ap fsp aF fsF qo fo ko qu fu ku qd fd kd aR s7035 (fh_sub o_fsp.2 [0] rfl) (fh_sub o_fsF.2 [0, 1, 2] rfl) (fh_sub o_s7035.2 [3] rfl) ) (cwV 2 hts g_x_rules_z_X1_workOut_486 rfl rfl rfl (by decide +kernel) ⟨Nat.le_of_ble_eq_true rfl, Nat.le_of_ble_eq_true rfl⟩) ⟨fun a U g mk q => by obtain ⟨q0, q1, qP, qK, qD⟩ := q; exact ⟨q0, q1, qP, va_K.moved (u := U) (U := U.calling g mk a) (Vm.Alike.refl U.vm) qK, qD⟩, va_recv hK hP (ci := 4) (q0 := 2) rfl rfl, fun U hU hW => ⟨rfl, by rw [hU], by rw [hU]; exact hPc, va_K.moved hW.alike hKc, hDc.weaken (fun _ _ _ _ => trivial)⟩⟩ rfl rfl hl.1 rfl (lv_room (Nat.le_of_ble_eq_true rfl)) dX11_rules_78 ⟨Nat.le_of_ble_eq_true rfl, Nat.le_of_ble_eq_true rfl⟩) hS (fun q _ h => hFc q h) hFc (fun u t H1 locs ht hvm hw hB hz1 hk1 hS => ?_)
      obtain ⟨s7172, f7173, f7174, f7175⟩ := u
      obtain ⟨hP1, hK1, hD1⟩ := hB
      rw [ht] at hP1
      try dsimp only at hw
      obtain ⟨hP, hD⟩ := va_join (wr := [(qP, .inl (kP, 4, .inr (.inr (.inr (.inr gP))))), (aT, .inr (12, s7031)), (qw, .inl (kw, 4001, .inl f7032)), (qp, .inl (kp, 4001, .inl f7033)), (qc, .inl (kcc, 4001, .inr (.inl f7034))), (aX, .inr (14, s7047))]) (w1 := [(ap, .inr (8, fsp)), (aF, .inr (4, s7172)), (qo, .inl (ko, 360, .inr (.inl f7173))), (qu, .inl (ku, 360, .inr (.inl f7174))), (qd, .inl (kd, 9, .inr (.inl f7175))), (aR, .inr (10, s7035))]) hP hD [1, 2, 3, 4, 5, 10] [0, 6, 7, 8, 9, 11] rfl rfl (by decide) (by decide) hk1 hFc hP1 hD1
      have hK := hK.sub (tys' := [(kP, .object "HeapWorks$Picture"), (kw, .int), (kp, .int), (kcc, .long), (ko, .long), (ku, .long), (kd, .long)]) [0, 4, 5, 6, 1, 2, 3] rfl
      generalize H1 = H at hP hS ⊢
      have hP : va_P (dC, dI) vwCl [(qP, .inl (kP, 4, .inr (.inr (.inr (.inr gP))))), (aT, .inr (12, s7031)), (qw, .inl (kw, 4001, .inl f7032)), (qp, .inl (kp, 4001, .inl f7033)), (qc, .inl (kcc, 4001, .inr (.inl f7034))), (aX, .inr (14, s7047)), (ap, .inr (8, fsp)), (aF, .inr (4, s7172)), (qo, .inl (ko, 360, .inr (.inl f7173))), (qu, .inl (ku, 360, .inr (.inl f7174))), (qd, .inl (kd, 9, .inr (.inl f7175))), (aR, .inr (10, s7035))] H := hP
      have hD : va_D A [(qP, .inl (kP, 4, .inr (.inr (.inr (.inr gP))))), (aT, .inr (12, s7031)), (qw, .inl (kw, 4001, .inl f7032)), (qp, .inl (kp, 4001, .inl f7033)), (qc, .inl (kcc, 4001, .inr (.inl f7034))), (aX, .inr (14, s7047)), (ap, .inr (8, fsp)), (aF, .inr (4, s7172)), (qo, .inl (ko, 360, .inr (.inl f7173))), (qu, .inl (ku, 360, .inr (.inl f7174))), (qd, .inl (kd, 9, .inr (.inl f7175))), (aR, .inr (10, s7035))] := hD
      have o_s7172 := hw
      have o_s7172 := ow_on o_fsF o_s7172 (l' := [(9, .int 0), (2, .long 0), (1, .int 0), (8, .ref aR), (3, .ref qo), (4, .ref qu), (5, .ref qd), (3, .ref qo), (4, .ref qu), (5, .ref qd)]) (w' := [9, 2, 1, 8]) rfl rfl
      refine lv_iconst (v := 0) hx hb dX11_rules_81 (by decide) ?_
      refine lv_istore_n (lv' := [(3, .int 0), (2, .int 1), (0, .ref aX), (1, .int p0)]) hx hb dX11_rules_82 rfl hl (by decide) rfl (fun ls hl => ?_)
      refine lv_iconst (v := 0) hx hb dX11_rules_83 (by decide) ?_
      refine lv_istore (lv' := [(4, .int 0), (3, .int 0), (2, .int 1), (0, .ref aX), (1, .int p0)]) hx hb dX11_rules_84 hl (by decide) rfl (fun ls hl => ?_)
      refine lv_iload hx hb dX11_rules_86 (lv_at hl 0 rfl) ?_
      refine lv_aload_n hx hb dX11_rules_88 rfl (lv_at hl 3 rfl) ?_
      refine va_get (D := (dC, dI)) (ci := 14) (v := .ref aR) (C := RX11) (T := TX11) (N := 18) hx hb hts (in_x_rules_X11) hown hK hP 5 rfl rfl 11 (by decide) (hts (.fieldLink RX11 77 "HeapWorks" "ruleText" "LHeapWorks$RuleText;") (by decide +kernel)) (fun _ h9 => h9) (ow_at o_s7047 3 rfl) dX11_rules_89 ?_
      refine va_get (D := (dC, dI)) (ci := 10) (v := .int 0) (C := RX7) (T := TX7) (N := 21) hx hb hts (in_x_rules_X7) hown hK hP 11 rfl rfl 16 (by decide) (hts (.fieldLink RX11 490 "HeapWorks$RuleText" "relations" "I") (by decide +kernel)) (fun _ h9 => h9) (ow_at o_s7035 2 rfl) dX11_rules_92 ?_
      refine lv_icmp_ge (tgt := 116) hx hb dX11_rules_95 (by decide) (fun c7176 => ?_) (fun c7176 => absurd c7176 (by decide))
      refine lv_iload_n hx hb dX11_rules_116 rfl (lv_at hl 1 rfl) ?_
      have hP9 := hP.sub (ws' := [(aX, .inr (14, s7047)), (aT, .inr (12, s7031)), (qw, .inl (kw, 4001, .inl f7032)), (qp, .inl (kp, 4001, .inl f7033)), (qc, .inl (kcc, 4001, .inr (.inl f7034))), (qP, .inl (kP, 4, .inr (.inr (.inr (.inr gP))))), (ap, .inr (8, fsp)), (aR, .inr (10, s7035)), (aF, .inr (4, s7172)), (qo, .inl (ko, 360, .inr (.inl f7173))), (qu, .inl (ku, 360, .inr (.inl f7174))), (qd, .inl (kd, 9, .inr (.inl f7175)))]) [5, 1, 2, 3, 4, 0, 6, 11, 7, 8, 9, 10] rfl
      have hD9 := hD.sub (ws' := [(aX, .inr (14, s7047)), (aT, .inr (12, s7031)), (qw, .inl (kw, 4001, .inl f7032)), (qp, .inl (kp, 4001, .inl f7033)), (qc, .inl (kcc, 4001, .inr (.inl f7034))), (qP, .inl (kP, 4, .inr (.inr (.inr (.inr gP))))), (ap, .inr (8, fsp)), (aR, .inr (10, s7035)), (aF, .inr (4, s7172)), (qo, .inl (ko, 360, .inr (.inl f7173))), (qu, .inl (ku, 360, .inr (.inl f7174))), (qd, .inl (kd, 9, .inr (.inl f7175)))]) [5, 1, 2, 3, 4, 0, 6, 11, 7, 8, 9, 10] (by decide) rfl
      have hK9 := hK.sub (tys' := [(kw, .int), (kp, .int), (kcc, .long), (kP, .object "HeapWorks$Picture"), (ko, .long), (ku, .long), (kd, .long)]) [1, 2, 3, 0, 4, 5, 6] rfl
      refine vx_ret ?_
      refine W.widen (k := 1) (n := 6) (by decide) (by decide) ?_
      exact W.iret (v := 0) hx hb hr (fun t ht hW => ⟨⟨0, (s7047, s7031, f7032, f7033, f7034, s7035, s7172, f7173, f7174, f7175), rfl, (Or.inl ⟨c6975, c6976, rfl, o_s7047, o_s7031, o_s7035, o_s7172, q7037, q7038, q7039⟩), by rw [ht]; exact hP9, va_K.moved hW.alike hK9, hD9⟩, hS.F ht⟩) hS.2.2 dX11_rules_117
    · skip
      subst er7040
      have o_s7031 := ow_on o_fsT o_s7031 (l' := [(11, .long 0), (10, .int 0), (9, .int 0), (8, .int 0), (5, .ref qw), (6, .ref qp), (7, .ref qc), (8, .int 0), (4, .int 0), (1, .int 0), (4, .int 0), (1, .int 0), (5, .ref qw), (6, .ref qp), (7, .ref qc), (1, .int 0), (5, .ref qw), (6, .ref qp), (7, .ref qc), (1, .int 0), (5, .ref qw), (6, .ref qp), (7, .ref qc)]) (w' := [11, 10, 9, 8, 4]) rfl rfl
      have o_s7035 := ow_on o_fsR o_s7035 (l' := [(20, .int (-1)), (19, .int 0), (16, .int 0), (3, .int 0), (0, .ref aT), (0, .ref aT)]) (w' := [20, 19, 16, 3]) rfl rfl
      refine lv_istore_n (lv' := [(2, .int 1), (0, .ref aX), (1, .int p0)]) hx hb dX11_rules_33 rfl hl (by decide) rfl (fun ls hl => ?_)
      refine lv_aload_n hx hb dX11_rules_34 rfl (lv_at hl 1 rfl) ?_
      refine lv_aload_n hx hb dX11_rules_35 rfl (lv_at hl 1 rfl) ?_
      refine va_get (D := (dC, dI)) (ci := 14) (v := .ref aR) (C := RX11) (T := TX11) (N := 18) hx hb hts (in_x_rules_X11) hown hK hP 0 rfl rfl 11 (by decide) (hts (.fieldLink RX11 77 "HeapWorks" "ruleText" "LHeapWorks$RuleText;") (by decide +kernel)) (fun _ h9 => h9) (ow_at o_fsX 1 rfl) dX11_rules_36 ?_
      refine va_get (D := (dC, dI)) (ci := 10) (v := .int 0) (C := RX7) (T := TX7) (N := 21) hx hb hts (in_x_rules_X7) hown hK hP 11 rfl rfl 19 (by decide) (hts (.fieldLink RX11 484 "HeapWorks$RuleText" "fault" "I") (by decide +kernel)) (fun _ h9 => h9) (ow_at o_s7035 1 rfl) dX11_rules_39 ?_
      refine lv_aload_n hx hb dX11_rules_42 rfl (lv_at hl 1 rfl) ?_
      refine va_get (D := (dC, dI)) (ci := 14) (v := .ref aR) (C := RX11) (T := TX11) (N := 18) hx hb hts (in_x_rules_X11) hown hK hP 0 rfl rfl 11 (by decide) (hts (.fieldLink RX11 77 "HeapWorks" "ruleText" "LHeapWorks$RuleText;") (by decide +kernel)) (fun _ h9 => h9) (ow_at o_fsX 1 rfl) dX11_rules_43 ?_
      refine va_get (D := (dC, dI)) (ci := 10) (v := .int (-1)) (C := RX7) (T := TX7) (N := 21) hx hb hts (in_x_rules_X7) hown hK hP 11 rfl rfl 20 (by decide) (hts (.fieldLink RX11 485 "HeapWorks$RuleText" "place" "I") (by decide +kernel)) (fun _ h9 => h9) (ow_at o_s7035 0 rfl) dX11_rules_46 ?_
      have hPc := hP.sub (ws' := [(aX, .inr (14, fsX))]) [0] rfl
      have hDc := hD.sub (ws' := [(aX, .inr (14, fsX))]) [0] (by decide) rfl
      have hKc := hK.sub (tys' := []) [] rfl
      have hFc := va_free (wc := [(aX, .inr (14, fsX))]) hD hS hA [0] rfl
      refine va_callv (va_runV (As := [.int 0, .int (-1)]) (rest := []) ⟨hx, hb, hml, hown, hts⟩ (z_X11_tellFault_1 l dC dI H.size aX fsX (fh_sub o_fsX.2 [] rfl) ) (cwV 2 hts g_x_rules_z_X11_tellFault_1_339 rfl rfl rfl (by decide +kernel) ⟨Nat.le_of_ble_eq_true rfl, Nat.le_of_ble_eq_true rfl⟩) ⟨fun a U g mk q => by obtain ⟨q0, q1, qP, qK, qD⟩ := q; exact ⟨q0, q1, qP, va_K.moved (u := U) (U := U.calling g mk a) (Vm.Alike.refl U.vm) qK, qD⟩, va_recv hK hP (ci := 14) (q0 := 0) rfl rfl, fun U hU hW => ⟨rfl, by rw [hU], by rw [hU]; exact hPc, va_K.moved hW.alike hKc, hDc.weaken (fun _ _ _ _ => trivial)⟩⟩ rfl rfl hl.1 rfl (lv_room (Nat.le_of_ble_eq_true rfl)) dX11_rules_49 ⟨Nat.le_of_ble_eq_true rfl, Nat.le_of_ble_eq_true rfl⟩) hS (fun q _ h => hFc q h) hFc (fun u t H1 locs ht hvm hw hB hz1 hk1 hS => ?_)
      obtain ⟨s7180, rfl⟩ : ∃ z, z = u := ⟨_, rfl⟩
      obtain ⟨hP1, hK1, hD1⟩ := hB
      rw [ht] at hP1
      try dsimp only at hw
      obtain ⟨hP, hD⟩ := va_join (wr := [(qP, .inl (kP, 4, .inr (.inr (.inr (.inr gP))))), (ap, .inr (8, fsp)), (aF, .inr (4, fsF)), (qo, .inl (ko, 360, .inr (.inl fo))), (qu, .inl (ku, 360, .inr (.inl fu))), (qd, .inl (kd, 9, .inr (.inl fd))), (aT, .inr (12, s7031)), (qw, .inl (kw, 4001, .inl f7032)), (qp, .inl (kp, 4001, .inl f7033)), (qc, .inl (kcc, 4001, .inr (.inl f7034))), (aR, .inr (10, s7035))]) (w1 := [(aX, .inr (14, s7180))]) hP hD [0] [1, 2, 3, 4, 5, 6, 7, 8, 9, 10, 11] rfl rfl (by decide) (by decide) hk1 hFc hP1 hD1
      have hK := hK.sub (tys' := [(kP, .object "HeapWorks$Picture"), (ko, .long), (ku, .long), (kd, .long), (kw, .int), (kp, .int), (kcc, .long)]) [0, 1, 2, 3, 4, 5, 6] rfl
      generalize H1 = H at hP hS ⊢
      have hP : va_P (dC, dI) vwCl [(qP, .inl (kP, 4, .inr (.inr (.inr (.inr gP))))), (ap, .inr (8, fsp)), (aF, .inr (4, fsF)), (qo, .inl (ko, 360, .inr (.inl fo))), (qu, .inl (ku, 360, .inr (.inl fu))), (qd, .inl (kd, 9, .inr (.inl fd))), (aT, .inr (12, s7031)), (qw, .inl (kw, 4001, .inl f7032)), (qp, .inl (kp, 4001, .inl f7033)), (qc, .inl (kcc, 4001, .inr (.inl f7034))), (aR, .inr (10, s7035)), (aX, .inr (14, s7180))] H := hP
      have hD : va_D A [(qP, .inl (kP, 4, .inr (.inr (.inr (.inr gP))))), (ap, .inr (8, fsp)), (aF, .inr (4, fsF)), (qo, .inl (ko, 360, .inr (.inl fo))), (qu, .inl (ku, 360, .inr (.inl fu))), (qd, .inl (kd, 9, .inr (.inl fd))), (aT, .inr (12, s7031)), (qw, .inl (kw, 4001, .inl f7032)), (qp, .inl (kp, 4001, .inl f7033)), (qc, .inl (kcc, 4001, .inr (.inl f7034))), (aR, .inr (10, s7035)), (aX, .inr (14, s7180))] := hD
      have o_s7180 := hw
      have o_s7180 := ow_on o_fsX o_s7180 (l' := [(17, .int (-1)), (16, .int 0), (4, .ref qP), (11, .ref aR), (12, .ref aF)]) (w' := [17, 16]) rfl rfl
      refine lv_iload_n hx hb dX11_rules_52 rfl (lv_at hl 0 rfl) ?_
      refine lv_if_ne (tgt := 64) hx hb dX11_rules_53 (by decide) (fun c7181 => ?_) (fun c7181 => absurd c7181 (by decide))
      refine lv_aload_n hx hb dX11_rules_64 rfl (lv_at hl 1 rfl) ?_
      refine va_get (D := (dC, dI)) (ci := 14) (v := .ref aF) (C := RX11) (T := TX11) (N := 18) hx hb hts (in_x_rules_X11) hown hK hP 11 rfl rfl 12 (by decide) (hts (.fieldLink RX11 84 "HeapWorks" "factBook" "LHeapWorks$FactBook;") (by decide +kernel)) (fun _ h9 => h9) (ow_at o_s7180 4 rfl) dX11_rules_65 ?_
      refine lv_aload_n hx hb dX11_rules_68 rfl (lv_at hl 1 rfl) ?_
      refine va_get (D := (dC, dI)) (ci := 14) (v := .ref aR) (C := RX11) (T := TX11) (N := 18) hx hb hts (in_x_rules_X11) hown hK hP 11 rfl rfl 11 (by decide) (hts (.fieldLink RX11 77 "HeapWorks" "ruleText" "LHeapWorks$RuleText;") (by decide +kernel)) (fun _ h9 => h9) (ow_at o_s7180 3 rfl) dX11_rules_69 ?_
      refine lv_aload_n hx hb dX11_rules_72 rfl (lv_at hl 1 rfl) ?_
      refine va_get (D := (dC, dI)) (ci := 14) (v := .ref qP) (C := RX11) (T := TX11) (N := 18) hx hb hts (in_x_rules_X11) hown hK hP 11 rfl rfl 4 (by decide) (hts (.fieldLink RX11 41 "HeapWorks" "pictures" "[LHeapWorks$Picture;") (by decide +kernel)) (fun _ h9 => h9) (ow_at o_s7180 2 rfl) dX11_rules_73 ?_
      refine lv_iload_n hx hb dX11_rules_76 rfl (lv_at hl 2 rfl) ?_
      refine va_aldq hx hb hK hP 0 0 rfl rfl (by rw [vp_in_iff]; (try simp only [i_lt, i_le, i_eq, kc_0, kc_4] at c6975 c6976); omega) dX11_rules_77 ?_
      refine W.eq (g2 := F0 m 78 ls (.ref ap :: [.ref aR, .ref aF])) (by rw [hg]; rfl) ?_
      have hPc := hP.sub (ws' := [(ap, .inr (8, fsp)), (aF, .inr (4, fsF)), (qo, .inl (ko, 360, .inr (.inl fo))), (qu, .inl (ku, 360, .inr (.inl fu))), (qd, .inl (kd, 9, .inr (.inl fd))), (aR, .inr (10, s7035))]) [1, 2, 3, 4, 5, 10] rfl
      have hDc := hD.sub (ws' := [(ap, .inr (8, fsp)), (aF, .inr (4, fsF)), (qo, .inl (ko, 360, .inr (.inl fo))), (qu, .inl (ku, 360, .inr (.inl fu))), (qd, .inl (kd, 9, .inr (.inl fd))), (aR, .inr (10, s7035))]) [1, 2, 3, 4, 5, 10] (by decide) rfl
      have hKc := hK.sub (tys' := [(ko, .long), (ku, .long), (kd, .long)]) [1, 2, 3] rfl
      have hFc := va_free (wc := [(ap, .inr (8, fsp)), (aF, .inr (4, fsF)), (qo, .inl (ko, 360, .inr (.inl fo))), (qu, .inl (ku, 360, .inr (.inl fu))), (qd, .inl (kd, 9, .inr (.inl fd))), (aR, .inr (10, s7035))]) hD hS hA [1, 2, 3, 4, 5, 10] rfl
      refine va_callv (va_runV (As := [.ref aR, .ref ap]) (rest := []) ⟨hx, hb, hml, hown, hts⟩ (z_X1_workOut l dC dI H.size ap fsp aF fsF qo fo ko qu fu ku qd fd kd aR s7035 (fh_sub o_fsp.2 [0] rfl) (fh_sub o_fsF.2 [0, 1, 2] rfl) (fh_sub o_s7035.2 [3] rfl) ) (cwV 2 hts g_x_rules_z_X1_workOut_486 rfl rfl rfl (by decide +kernel) ⟨Nat.le_of_ble_eq_true rfl, Nat.le_of_ble_eq_true rfl⟩) ⟨fun a U g mk q => by obtain ⟨q0, q1, qP, qK, qD⟩ := q; exact ⟨q0, q1, qP, va_K.moved (u := U) (U := U.calling g mk a) (Vm.Alike.refl U.vm) qK, qD⟩, va_recv hK hP (ci := 4) (q0 := 2) rfl rfl, fun U hU hW => ⟨rfl, by rw [hU], by rw [hU]; exact hPc, va_K.moved hW.alike hKc, hDc.weaken (fun _ _ _ _ => trivial)⟩⟩ rfl rfl hl.1 rfl (lv_room (Nat.le_of_ble_eq_true rfl)) dX11_rules_78 ⟨Nat.le_of_ble_eq_true rfl, Nat.le_of_ble_eq_true rfl⟩) hS (fun q _ h => hFc q h) hFc (fun u t H1 locs ht hvm hw hB hz1 hk1 hS => ?_)
      obtain ⟨s7305, f7306, f7307, f7308⟩ := u
      obtain ⟨hP1, hK1, hD1⟩ := hB
      rw [ht] at hP1
      try dsimp only at hw
      obtain ⟨hP, hD⟩ := va_join (wr := [(qP, .inl (kP, 4, .inr (.inr (.inr (.inr gP))))), (aT, .inr (12, s7031)), (qw, .inl (kw, 4001, .inl f7032)), (qp, .inl (kp, 4001, .inl f7033)), (qc, .inl (kcc, 4001, .inr (.inl f7034))), (aX, .inr (14, s7180))]) (w1 := [(ap, .inr (8, fsp)), (aF, .inr (4, s7305)), (qo, .inl (ko, 360, .inr (.inl f7306))), (qu, .inl (ku, 360, .inr (.inl f7307))), (qd, .inl (kd, 9, .inr (.inl f7308))), (aR, .inr (10, s7035))]) hP hD [1, 2, 3, 4, 5, 10] [0, 6, 7, 8, 9, 11] rfl rfl (by decide) (by decide) hk1 hFc hP1 hD1
      have hK := hK.sub (tys' := [(kP, .object "HeapWorks$Picture"), (kw, .int), (kp, .int), (kcc, .long), (ko, .long), (ku, .long), (kd, .long)]) [0, 4, 5, 6, 1, 2, 3] rfl
      generalize H1 = H at hP hS ⊢
      have hP : va_P (dC, dI) vwCl [(qP, .inl (kP, 4, .inr (.inr (.inr (.inr gP))))), (aT, .inr (12, s7031)), (qw, .inl (kw, 4001, .inl f7032)), (qp, .inl (kp, 4001, .inl f7033)), (qc, .inl (kcc, 4001, .inr (.inl f7034))), (aX, .inr (14, s7180)), (ap, .inr (8, fsp)), (aF, .inr (4, s7305)), (qo, .inl (ko, 360, .inr (.inl f7306))), (qu, .inl (ku, 360, .inr (.inl f7307))), (qd, .inl (kd, 9, .inr (.inl f7308))), (aR, .inr (10, s7035))] H := hP
      have hD : va_D A [(qP, .inl (kP, 4, .inr (.inr (.inr (.inr gP))))), (aT, .inr (12, s7031)), (qw, .inl (kw, 4001, .inl f7032)), (qp, .inl (kp, 4001, .inl f7033)), (qc, .inl (kcc, 4001, .inr (.inl f7034))), (aX, .inr (14, s7180)), (ap, .inr (8, fsp)), (aF, .inr (4, s7305)), (qo, .inl (ko, 360, .inr (.inl f7306))), (qu, .inl (ku, 360, .inr (.inl f7307))), (qd, .inl (kd, 9, .inr (.inl f7308))), (aR, .inr (10, s7035))] := hD
      have o_s7305 := hw
      have o_s7305 := ow_on o_fsF o_s7305 (l' := [(9, .int 0), (2, .long 0), (1, .int 0), (8, .ref aR), (3, .ref qo), (4, .ref qu), (5, .ref qd), (3, .ref qo), (4, .ref qu), (5, .ref qd)]) (w' := [9, 2, 1, 8]) rfl rfl
      refine lv_iconst (v := 0) hx hb dX11_rules_81 (by decide) ?_
      refine lv_istore_n (lv' := [(3, .int 0), (2, .int 1), (0, .ref aX), (1, .int p0)]) hx hb dX11_rules_82 rfl hl (by decide) rfl (fun ls hl => ?_)
      refine lv_iconst (v := 0) hx hb dX11_rules_83 (by decide) ?_
      refine lv_istore (lv' := [(4, .int 0), (3, .int 0), (2, .int 1), (0, .ref aX), (1, .int p0)]) hx hb dX11_rules_84 hl (by decide) rfl (fun ls hl => ?_)
      refine lv_iload hx hb dX11_rules_86 (lv_at hl 0 rfl) ?_
      refine lv_aload_n hx hb dX11_rules_88 rfl (lv_at hl 3 rfl) ?_
      refine va_get (D := (dC, dI)) (ci := 14) (v := .ref aR) (C := RX11) (T := TX11) (N := 18) hx hb hts (in_x_rules_X11) hown hK hP 5 rfl rfl 11 (by decide) (hts (.fieldLink RX11 77 "HeapWorks" "ruleText" "LHeapWorks$RuleText;") (by decide +kernel)) (fun _ h9 => h9) (ow_at o_s7180 3 rfl) dX11_rules_89 ?_
      refine va_get (D := (dC, dI)) (ci := 10) (v := .int 0) (C := RX7) (T := TX7) (N := 21) hx hb hts (in_x_rules_X7) hown hK hP 11 rfl rfl 16 (by decide) (hts (.fieldLink RX11 490 "HeapWorks$RuleText" "relations" "I") (by decide +kernel)) (fun _ h9 => h9) (ow_at o_s7035 2 rfl) dX11_rules_92 ?_
      refine lv_icmp_ge (tgt := 116) hx hb dX11_rules_95 (by decide) (fun c7309 => ?_) (fun c7309 => absurd c7309 (by decide))
      refine lv_iload_n hx hb dX11_rules_116 rfl (lv_at hl 1 rfl) ?_
      have hP9 := hP.sub (ws' := [(aX, .inr (14, s7180)), (aT, .inr (12, s7031)), (qw, .inl (kw, 4001, .inl f7032)), (qp, .inl (kp, 4001, .inl f7033)), (qc, .inl (kcc, 4001, .inr (.inl f7034))), (qP, .inl (kP, 4, .inr (.inr (.inr (.inr gP))))), (ap, .inr (8, fsp)), (aR, .inr (10, s7035)), (aF, .inr (4, s7305)), (qo, .inl (ko, 360, .inr (.inl f7306))), (qu, .inl (ku, 360, .inr (.inl f7307))), (qd, .inl (kd, 9, .inr (.inl f7308)))]) [5, 1, 2, 3, 4, 0, 6, 11, 7, 8, 9, 10] rfl
      have hD9 := hD.sub (ws' := [(aX, .inr (14, s7180)), (aT, .inr (12, s7031)), (qw, .inl (kw, 4001, .inl f7032)), (qp, .inl (kp, 4001, .inl f7033)), (qc, .inl (kcc, 4001, .inr (.inl f7034))), (qP, .inl (kP, 4, .inr (.inr (.inr (.inr gP))))), (ap, .inr (8, fsp)), (aR, .inr (10, s7035)), (aF, .inr (4, s7305)), (qo, .inl (ko, 360, .inr (.inl f7306))), (qu, .inl (ku, 360, .inr (.inl f7307))), (qd, .inl (kd, 9, .inr (.inl f7308)))]) [5, 1, 2, 3, 4, 0, 6, 11, 7, 8, 9, 10] (by decide) rfl
      have hK9 := hK.sub (tys' := [(kw, .int), (kp, .int), (kcc, .long), (kP, .object "HeapWorks$Picture"), (ko, .long), (ku, .long), (kd, .long)]) [1, 2, 3, 0, 4, 5, 6] rfl
      refine vx_ret ?_
      refine W.widen (k := 1) (n := 6) (by decide) (by decide) ?_
      exact W.iret (v := 0) hx hb hr (fun t ht hW => ⟨⟨0, (s7180, s7031, f7032, f7033, f7034, s7035, s7305, f7306, f7307, f7308), rfl, (Or.inr (⟨c6975, c6976, rfl, o_s7180, o_s7031, o_s7035, o_s7305, q7041, q7042, q7043⟩)), by rw [ht]; exact hP9, va_K.moved hW.alike hK9, hD9⟩, hS.F ht⟩) hS.2.2 dX11_rules_117

def l_x_facts : List Cond := [.fieldLink RX11 77 "HeapWorks" "ruleText" "LHeapWorks$RuleText;", .fieldLink RX11 490 "HeapWorks$RuleText" "relations" "I"]
def w_x_facts : List Cond := .code yX11_facts cX11_facts 2 (some .int) :: (l_x_facts ++ ((wsX110 ++ wsX70)))
theorem in_x_facts_X11 : ∀ w ∈ wsX110, w ∈ w_x_facts := fun w h => List.mem_cons_of_mem _ (List.mem_append_right _ (List.mem_append_left _ h))
theorem in_x_facts_X7 : ∀ w ∈ wsX70, w ∈ w_x_facts := fun w h => List.mem_cons_of_mem _ (List.mem_append_right _ (List.mem_append_right _ (h)))
set_option maxHeartbeats 4000000 in
set_option maxRecDepth 100000 in
theorem x_facts (l : Launch) (dC : Nat → ClassId) (dI : Nat → Nat → Nat) (sz : Nat) (aX : Nat) (fsX : List Value) (aR : Nat) (fsR : List Value) (p0 : Int32) (k_fsX : fh fsX 18 [(11, .ref aR)]) (k_fsR : fh fsR 21 [(16, .int 0)])  : Met l yX11_facts w_x_facts ({ frames := 0, cells := 0, slots := 0, locals := 0 }) (va_Pc [.ref aX, .int p0] (fun U => U.heap.size = sz ∧ Wd dC dI [] (fun _ => True) [(aX, .inr (14, fsX)), (aR, .inr (10, fsR))] U)) (va_Qi (fun (r : Int32) (u : Unit) => (p0 < 0 ∧ r = (-1)) ∨ (¬ p0 < 0 ∧ 0 ≤ p0 ∧ r = (-1))) (fun (u : Unit) t => Wd dC dI [] (va_A [(aX, .inr (14, fsX)), (aR, .inr (10, fsR))] sz) [(aX, .inr (14, fsX)), (aR, .inr (10, fsR))] t) (va_A [(aX, .inr (14, fsX)), (aR, .inr (10, fsR))] sz))  0 0 (va_A [(aX, .inr (14, fsX)), (aR, .inr (10, fsR))] sz) := by
  refine Met.ofW (cc := cX11_facts) (maxL := 2) (ret := (some .int)) (by decide) rfl ?_
  intro p e s m args below meth c s₁ B hml hv
  obtain ⟨rfl, hsz, hP, hK, hD0⟩ := hv
  have hx := B.exec
  have hb := B.bytes
  have hr := B.returns
  have hts := atoms_spec (ws := w_x_facts) B.pre
  have hown : s.vm.findClass RX11 = some m.cls := findClass_of_methodNamed B.named
  have hlocks := B.notSynchronized
  subst hsz
  have hD := hD0.self (sz := s.heap.size)
  generalize hAe : va_A [(aX, .inr (14, fsX)), (aR, .inr (10, fsR))] s.heap.size = A at hD ⊢
  have hA : ∀ q : Nat, s.heap.size ≤ q → A q := fun q h => by rw [← hAe]; exact Or.inr h
  have hS : va_S A s.heap s.heap [] := va_S.rf
  have hl := lv_entry ([.ref aX, .int p0]) (n := 2) (Nat.le_of_ble_eq_true rfl)
  rw [lg_entry_eq]
  generalize (lg_sl ([.ref aX, .int p0]) ++ List.replicate (2 - (lg_sl ([.ref aX, .int p0])).length) Slot.unset).toArray = ls at hl ⊢
  have hl : lv_has ls 2 [(0, .ref aX), (1, .int p0)] := hl
  have o_fsX := ow_0 k_fsX
  have o_fsR := ow_0 k_fsR
  refine lv_iload_n hx hb dX11_facts_0 rfl (lv_at hl 1 rfl) ?_
  refine lv_if_lt (tgt := 26) hx hb dX11_facts_1 (by decide) (fun c7312 => ?_) (fun c7312 => ?_)
  · skip
    refine lv_iconst (v := (-1)) hx hb dX11_facts_26 (by decide) ?_
    have hP9 := hP.sub (ws' := [(aX, .inr (14, fsX)), (aR, .inr (10, fsR))]) [0, 1] rfl
    have hD9 := hD.sub (ws' := [(aX, .inr (14, fsX)), (aR, .inr (10, fsR))]) [0, 1] (by decide) rfl
    have hK9 := hK.sub (tys' := []) [] rfl
    exact W.iret (v := (-1)) hx hb hr (fun t ht hW => ⟨⟨(-1), (), rfl, (Or.inl ⟨c7312, rfl⟩), by rw [ht]; exact hP9, va_K.moved hW.alike hK9, hD9⟩, hS.F ht⟩) hS.2.2 dX11_facts_27
  · skip
    refine lv_iload_n hx hb dX11_facts_4 rfl (lv_at hl 1 rfl) ?_
    refine lv_aload_n hx hb dX11_facts_5 rfl (lv_at hl 0 rfl) ?_
    refine va_get (D := (dC, dI)) (ci := 14) (v := .ref aR) (C := RX11) (T := TX11) (N := 18) hx hb hts (in_x_facts_X11) hown hK hP 0 rfl rfl 11 (by decide) (hts (.fieldLink RX11 77 "HeapWorks" "ruleText" "LHeapWorks$RuleText;") (by decide +kernel)) (fun _ h9 => h9) (ow_at o_fsX 0 rfl) dX11_facts_6 ?_
    refine va_get (D := (dC, dI)) (ci := 10) (v := .int 0) (C := RX7) (T := TX7) (N := 21) hx hb hts (in_x_facts_X7) hown hK hP 1 rfl rfl 16 (by decide) (hts (.fieldLink RX11 490 "HeapWorks$RuleText" "relations" "I") (by decide +kernel)) (fun _ h9 => h9) (ow_at o_fsR 0 rfl) dX11_facts_9 ?_
    refine lv_icmp_ge (tgt := 26) hx hb dX11_facts_12 (by decide) (fun c7313 => ?_) (fun c7313 => (by exfalso; have bd_p0 := i_bd p0; (try simp only [i_lt, i_le, i_eq, kc_0] at c7312 c7313); omega))
    refine lv_iconst (v := (-1)) hx hb dX11_facts_26 (by decide) ?_
    have hP9 := hP.sub (ws' := [(aX, .inr (14, fsX)), (aR, .inr (10, fsR))]) [0, 1] rfl
    have hD9 := hD.sub (ws' := [(aX, .inr (14, fsX)), (aR, .inr (10, fsR))]) [0, 1] (by decide) rfl
    have hK9 := hK.sub (tys' := []) [] rfl
    exact W.iret (v := (-1)) hx hb hr (fun t ht hW => ⟨⟨(-1), (), rfl, (Or.inr (⟨c7312, c7313, rfl⟩)), by rw [ht]; exact hP9, va_K.moved hW.alike hK9, hD9⟩, hS.F ht⟩) hS.2.2 dX11_facts_27

def l_x_isFact : List Cond := [.classLink RX11 221 "java/util/NoSuchElementException", .initialized "java/util/NoSuchElementException", .fieldLink RX11 77 "HeapWorks" "ruleText" "LHeapWorks$RuleText;", .fieldLink RX11 490 "HeapWorks$RuleText" "relations" "I"]
def w_x_isFact : List Cond := .code yX11_isFact cX11_isFact 4 (some .boolean) :: (l_x_isFact ++ ((((vx_at0 RX11 223 "java/util/NoSuchElementException" ["java/lang/RuntimeException", "java/lang/Exception"]).filter goodWord) ++ (wsX110 ++ wsX70))))
theorem in_x_isFact_at0_X11_223 : ∀ w ∈ ((vx_at0 RX11 223 "java/util/NoSuchElementException" ["java/lang/RuntimeException", "java/lang/Exception"]).filter goodWord), w ∈ w_x_isFact := fun w h => List.mem_cons_of_mem _ (List.mem_append_right _ (List.mem_append_left _ h))
theorem in_x_isFact_X11 : ∀ w ∈ wsX110, w ∈ w_x_isFact := fun w h => List.mem_cons_of_mem _ (List.mem_append_right _ (List.mem_append_right _ (List.mem_append_left _ h)))
theorem in_x_isFact_X7 : ∀ w ∈ wsX70, w ∈ w_x_isFact := fun w h => List.mem_cons_of_mem _ (List.mem_append_right _ (List.mem_append_right _ (List.mem_append_right _ (h))))
set_option maxHeartbeats 4000000 in
set_option maxRecDepth 100000 in
theorem x_isFact (l : Launch) (dC : Nat → ClassId) (dI : Nat → Nat → Nat) (sz : Nat) (aX : Nat) (fsX : List Value) (aR : Nat) (fsR : List Value) (p0 : Int32) (p1 : Int32) (p2 : Int32) (k_fsX : fh fsX 18 [(11, .ref aR)]) (k_fsR : fh fsR 21 [(16, .int 0)]) (hst : l.stackTraces = false)  : vx_Met l yX11_isFact w_x_isFact ({ frames := 7, cells := 1, slots := 6, locals := 140 }) (va_Pc [.ref aX, .int p0, .int p1, .int p2] (fun U => U.heap.size = sz ∧ Zz (va_A [(aX, .inr (14, fsX)), (aR, .inr (10, fsR))] sz) U ∧ Wd dC dI [] (fun _ => True) [(aX, .inr (14, fsX)), (aR, .inr (10, fsR))] U)) (va_Qi (fun (r : Int32) (u : Unit) => False) (fun (u : Unit) t => Wd dC dI [] (va_A [(aX, .inr (14, fsX)), (aR, .inr (10, fsR))] sz) [(aX, .inr (14, fsX)), (aR, .inr (10, fsR))] t) (va_A [(aX, .inr (14, fsX)), (aR, .inr (10, fsR))] sz)) (vx_X (fun _ : Unit => True) (fun E _ _ => (E = "java/util/NoSuchElementException" ∧ p0 < 0) ∨ (E = "java/util/NoSuchElementException" ∧ ¬ p0 < 0 ∧ ¬ p0 < 0)) (va_A [(aX, .inr (14, fsX)), (aR, .inr (10, fsR))] sz)) 1 6 (va_A [(aX, .inr (14, fsX)), (aR, .inr (10, fsR))] sz) := by
  refine vx_ofW (cc := cX11_isFact) (maxL := 4) (ret := (some .boolean)) (by decide) rfl ?_
  intro p e s m args below meth c s₁ B hml htab hv
  obtain ⟨rfl, hsz, hZ, hP, hK, hD0⟩ := hv
  have hx := B.exec
  have hb := B.bytes
  have hr := B.returns
  have hts := atoms_spec (ws := w_x_isFact) B.pre
  have hown : s.vm.findClass RX11 = some m.cls := findClass_of_methodNamed B.named
  have hlocks := B.notSynchronized
  subst hsz
  have hD := hD0.self (sz := s.heap.size)
  generalize hAe : va_A [(aX, .inr (14, fsX)), (aR, .inr (10, fsR))] s.heap.size = A at hD hZ ⊢
  have hA : ∀ q : Nat, s.heap.size ≤ q → A q := fun q h => by rw [← hAe]; exact Or.inr h
  have hS : va_S A s.heap s.heap [] := va_S.rf
  have hl := lv_entry ([.ref aX, .int p0, .int p1, .int p2]) (n := 4) (Nat.le_of_ble_eq_true rfl)
  rw [lg_entry_eq]
  generalize (lg_sl ([.ref aX, .int p0, .int p1, .int p2]) ++ List.replicate (4 - (lg_sl ([.ref aX, .int p0, .int p1, .int p2])).length) Slot.unset).toArray = ls at hl ⊢
  have hl : lv_has ls 4 [(0, .ref aX), (1, .int p0), (2, .int p1), (3, .int p2)] := hl
  have o_fsX := ow_0 k_fsX
  have o_fsR := ow_0 k_fsR
  refine lv_iload_n hx hb dX11_isFact_0 rfl (lv_at hl 1 rfl) ?_
  refine lv_if_lt (tgt := 15) hx hb dX11_isFact_1 (by decide) (fun c7316 => ?_) (fun c7316 => ?_)
  · skip
    exact vx_throw0 (names := ["java/lang/RuntimeException", "java/lang/Exception"]) hx hb hst hown (by decide +kernel) (by decide +kernel) (hts (.classLink RX11 221 "java/util/NoSuchElementException") (by decide +kernel)) (hts (.initialized "java/util/NoSuchElementException") (by decide +kernel)) (vx_hat (B := xB "java/util/NoSuchElementException") (fun w h => hts w (in_x_isFact_at0_X11_223 w h)) (by decide +kernel) (Zz_xB hZ (by decide))) (by decide +kernel) hZ.1 hZ.2.1 hS (hl.1.trans hml.symm) dX11_isFact_15 dX11_isFact_18 dX11_isFact_19 dX11_isFact_22 (fun x h => (htab x h).elim) (by decide) (Nat.le_of_ble_eq_true rfl) (Nat.le_of_ble_eq_true rfl) (Nat.le_of_ble_eq_true rfl) hlocks (fun t _ h1 h2 => ⟨(), trivial, (Or.inl ⟨rfl, c7316⟩), xx_F hS h1 h2⟩) hS.2.2 (by decide) (by decide)
  · skip
    refine lv_iload_n hx hb dX11_isFact_4 rfl (lv_at hl 1 rfl) ?_
    refine lv_aload_n hx hb dX11_isFact_5 rfl (lv_at hl 0 rfl) ?_
    refine va_get (D := (dC, dI)) (ci := 14) (v := .ref aR) (C := RX11) (T := TX11) (N := 18) hx hb hts (in_x_isFact_X11) hown hK hP 0 rfl rfl 11 (by decide) (hts (.fieldLink RX11 77 "HeapWorks" "ruleText" "LHeapWorks$RuleText;") (by decide +kernel)) (fun _ h9 => h9) (ow_at o_fsX 0 rfl) dX11_isFact_6 ?_
    refine va_get (D := (dC, dI)) (ci := 10) (v := .int 0) (C := RX7) (T := TX7) (N := 21) hx hb hts (in_x_isFact_X7) hown hK hP 1 rfl rfl 16 (by decide) (hts (.fieldLink RX11 490 "HeapWorks$RuleText" "relations" "I") (by decide +kernel)) (fun _ h9 => h9) (ow_at o_fsR 0 rfl) dX11_isFact_9 ?_
    refine lv_icmp_lt (tgt := 23) hx hb dX11_isFact_12 (by decide) (fun c7317 => (by exfalso; have bd_p0 := i_bd p0; (try simp only [i_lt, i_le, i_eq, kc_0] at c7316 c7317); omega)) (fun c7317 => ?_)
    exact vx_throw0 (names := ["java/lang/RuntimeException", "java/lang/Exception"]) hx hb hst hown (by decide +kernel) (by decide +kernel) (hts (.classLink RX11 221 "java/util/NoSuchElementException") (by decide +kernel)) (hts (.initialized "java/util/NoSuchElementException") (by decide +kernel)) (vx_hat (B := xB "java/util/NoSuchElementException") (fun w h => hts w (in_x_isFact_at0_X11_223 w h)) (by decide +kernel) (Zz_xB hZ (by decide))) (by decide +kernel) hZ.1 hZ.2.1 hS (hl.1.trans hml.symm) dX11_isFact_15 dX11_isFact_18 dX11_isFact_19 dX11_isFact_22 (fun x h => (htab x h).elim) (by decide) (Nat.le_of_ble_eq_true rfl) (Nat.le_of_ble_eq_true rfl) (Nat.le_of_ble_eq_true rfl) hlocks (fun t _ h1 h2 => ⟨(), trivial, (Or.inr (⟨rfl, c7316, c7317⟩)), xx_F hS h1 h2⟩) hS.2.2 (by decide) (by decide)
