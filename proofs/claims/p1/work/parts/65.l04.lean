set_option maxRecDepth 20000 in
theorem g_lk_26_z_L_take_228 : GoodIn lwW (va_wsS RL 228 yL_take w_z_L_take) := goodIn_app (goodIn_sub (ws := ([.methodLink RL 228 yL_take, .static yL_take, .initialized RL] : List Cond)) (gm_c (gm_at lwV_54_in 0 rfl) (gm_c (gm_at lwV_54_in 1 rfl) (gm_c (gm_at lwV_5_in 10 rfl) gm_nil))) (by decide +kernel)) (goodIn_ca (goodIn_sub (ws := .codeWith yL_take cL_take 4 (some .int) [(0, 9, 12, 13)] :: l_z_L_take) (gm_c (gm_at lwV_54_in 5 rfl) (gm_c (gm_at lwV_54_in 6 rfl) (gm_c (gm_at lwV_54_in 7 rfl) (gm_c (gm_at lwV_54_in 8 rfl) (gm_c (gm_at lwV_0_in 3 rfl) (gm_c (gm_at lwV_6_in 9 rfl) (gm_c (gm_at lwV_54_in 9 rfl) (gm_c (gm_at lwV_54_in 10 rfl) (gm_c (gm_at lwV_54_in 11 rfl) (gm_c (gm_at lwV_55_in 0 rfl) (gm_c (gm_at lwV_13_in 9 rfl) (gm_c (gm_at lwV_55_in 1 rfl) (gm_c (gm_at lwV_55_in 2 rfl) (gm_c (gm_at lwV_55_in 3 rfl) (gm_c (gm_at lwV_55_in 4 rfl) (gm_c (gm_at lwV_55_in 5 rfl) (gm_c (gm_at lwV_55_in 6 rfl) (gm_c (gm_at lwV_55_in 7 rfl) (gm_c (gm_at lwV_55_in 8 rfl) (gm_c (gm_at lwV_7_in 0 rfl) (gm_c (gm_at lwV_7_in 1 rfl) (gm_c (gm_at lwV_55_in 9 rfl) (gm_c (gm_at lwV_55_in 10 rfl) (gm_c (gm_at lwV_55_in 11 rfl) (gm_c (gm_at lwV_56_in 0 rfl) (gm_c (gm_at lwV_56_in 1 rfl) (gm_c (gm_at lwV_56_in 2 rfl) (gm_c (gm_at lwV_56_in 3 rfl) (gm_c (gm_at lwV_56_in 4 rfl) (gm_c (gm_at lwV_29_in 5 rfl) (gm_c (gm_at lwV_29_in 6 rfl) (gm_c (gm_at lwV_7_in 11 rfl) (gm_c (gm_at lwV_56_in 5 rfl) (gm_c (gm_at lwV_56_in 6 rfl) (gm_c (gm_at lwV_56_in 7 rfl) (gm_c (gm_at lwV_56_in 8 rfl) (gm_c (gm_at lwV_56_in 9 rfl) (gm_c (gm_at lwV_56_in 10 rfl) (gm_c (gm_at lwV_29_in 7 rfl) (gm_c (gm_at lwV_8_in 10 rfl) gm_nil)))))))))))))))))))))))))))))))))))))))) (by decide +kernel)) (goodIn_app (goodIn_in il_X11 gd_X11) (goodIn_app (goodIn_in il_X5 gd_X5) (goodIn_app (goodIn_in il_at0_X11_122 gd_at0_X11_122) (goodIn_app (goodIn_in il_X2 gd_X2) (goodIn_app (goodIn_in il_X8 gd_X8) (goodIn_in il_X10 gd_X10)))))))
set_option maxRecDepth 20000 in
theorem g_lk_26_z_X12_take_230 : GoodIn lwW (wsV RL 230 RX12 yX12_take w_z_X12_take) := goodIn_app (goodIn_sub (ws := ([.methodLink RL 230 yX12_take, .instanceMethod yX12_take, .selects RX12 yX12_take yX12_take, .initialized RX12] : List Cond)) (gm_c (gm_at lwV_54_in 2 rfl) (gm_c (gm_at lwV_54_in 3 rfl) (gm_c (gm_at lwV_54_in 4 rfl) (gm_c (gm_at lwV_0_in 7 rfl) gm_nil)))) (by decide +kernel)) (goodIn_ca (goodIn_sub (ws := .code yX12_take cX12_take 2 (some .int) :: l_z_X12_take) (gm_c (gm_at lwV_56_in 11 rfl) (gm_c (gm_at lwV_57_in 0 rfl) (gm_c (gm_at lwV_57_in 1 rfl) (gm_c (gm_at lwV_57_in 2 rfl) (gm_c (gm_at lwV_0_in 7 rfl) (gm_c (gm_at lwV_1_in 5 rfl) (gm_c (gm_at lwV_57_in 3 rfl) (gm_c (gm_at lwV_57_in 4 rfl) (gm_c (gm_at lwV_57_in 5 rfl) (gm_c (gm_at lwV_57_in 6 rfl) (gm_c (gm_at lwV_57_in 7 rfl) (gm_c (gm_at lwV_57_in 8 rfl) (gm_c (gm_at lwV_57_in 9 rfl) (gm_c (gm_at lwV_57_in 10 rfl) (gm_c (gm_at lwV_57_in 11 rfl) (gm_c (gm_at lwV_29_in 9 rfl) (gm_c (gm_at lwV_29_in 10 rfl) (gm_c (gm_at lwV_29_in 11 rfl) (gm_c (gm_at lwV_30_in 6 rfl) (gm_c (gm_at lwV_58_in 0 rfl) (gm_c (gm_at lwV_30_in 5 rfl) (gm_c (gm_at lwV_9_in 8 rfl) (gm_c (gm_at lwV_30_in 1 rfl) (gm_c (gm_at lwV_30_in 2 rfl) (gm_c (gm_at lwV_30_in 3 rfl) (gm_c (gm_at lwV_30_in 4 rfl) (gm_c (gm_at lwV_30_in 7 rfl) (gm_c (gm_at lwV_30_in 8 rfl) (gm_c (gm_at lwV_58_in 1 rfl) (gm_c (gm_at lwV_58_in 2 rfl) (gm_c (gm_at lwV_58_in 3 rfl) (gm_c (gm_at lwV_58_in 4 rfl) (gm_c (gm_at lwV_58_in 5 rfl) (gm_c (gm_at lwV_58_in 6 rfl) (gm_c (gm_at lwV_58_in 7 rfl) (gm_c (gm_at lwV_58_in 8 rfl) (gm_c (gm_at lwV_58_in 9 rfl) (gm_c (gm_at lwV_58_in 10 rfl) (gm_c (gm_at lwV_58_in 11 rfl) (gm_c (gm_at lwV_59_in 0 rfl) (gm_c (gm_at lwV_59_in 1 rfl) (gm_c (gm_at lwV_59_in 2 rfl) (gm_c (gm_at lwV_59_in 3 rfl) (gm_c (gm_at lwV_59_in 4 rfl) (gm_c (gm_at lwV_59_in 5 rfl) (gm_c (gm_at lwV_59_in 6 rfl) (gm_c (gm_at lwV_59_in 7 rfl) (gm_c (gm_at lwV_59_in 8 rfl) gm_nil)))))))))))))))))))))))))))))))))))))))))))))))) (by decide +kernel)) (goodIn_in il_X12 gd_X12))
set_option maxRecDepth 20000 in
theorem g_lk_26_z_X12_thrown_149 : GoodIn lwW (wsV RL 149 RX12 yX12_thrown w_z_X12_thrown) := goodIn_app (goodIn_sub (ws := ([.methodLink RL 149 yX12_thrown, .instanceMethod yX12_thrown, .selects RX12 yX12_thrown yX12_thrown, .initialized RX12] : List Cond)) (gm_c (gm_at lwV_6_in 2 rfl) (gm_c (gm_at lwV_6_in 3 rfl) (gm_c (gm_at lwV_6_in 4 rfl) (gm_c (gm_at lwV_0_in 7 rfl) gm_nil)))) (by decide +kernel)) (goodIn_ca (goodIn_sub (ws := .code yX12_thrown cX12_thrown 1 (some .int) :: l_z_X12_thrown) (gm_c (gm_at lwV_9_in 9 rfl) (gm_c (gm_at lwV_1_in 5 rfl) gm_nil)) (by decide +kernel)) (goodIn_in il_X12 gd_X12))
set_option maxRecDepth 20000 in
theorem g_lk_26_z_X12_thrown_2_149 : GoodIn lwW (wsV RL 149 RX12 yX12_thrown w_z_X12_thrown_2) := goodIn_app (goodIn_sub (ws := ([.methodLink RL 149 yX12_thrown, .instanceMethod yX12_thrown, .selects RX12 yX12_thrown yX12_thrown, .initialized RX12] : List Cond)) (gm_c (gm_at lwV_6_in 2 rfl) (gm_c (gm_at lwV_6_in 3 rfl) (gm_c (gm_at lwV_6_in 4 rfl) (gm_c (gm_at lwV_0_in 7 rfl) gm_nil)))) (by decide +kernel)) (goodIn_ca (goodIn_sub (ws := .code yX12_thrown cX12_thrown 1 (some .int) :: l_z_X12_thrown_2) (gm_c (gm_at lwV_9_in 9 rfl) (gm_c (gm_at lwV_1_in 5 rfl) gm_nil)) (by decide +kernel)) (goodIn_in il_X12 gd_X12))
set_option maxHeartbeats 4000000 in
set_option maxRecDepth 100000 in
/-- the law, one call: take -/
theorem lk_26 {p : Program} {l : Launch} {e : Env} {s : State} {m : MethodId} {below : List Frame} {meth : Method} {c : Code} {b : Nat} {xs : Nat → Int32} (hst : l.stackTraces = false) (C0 : lw_At p s m meth c b 6 xs) {A : Nat → Prop} (hA : ∀ q : Nat, s.heap.size ≤ q → A q) (hAf : ∀ q : Nat, A q → s.heap.size ≤ q) (hZ : Zz A s) (hY : Yy s) (dC : Nat → ClassId) (dI : Nat → Nat → Nat) (aX : Nat) (fsX : List Value) (aY : Nat) (fsY : List Value) (aH : Nat) (fsHe : List Value) (qP : Nat) (gP : Nat → Option Nat) (kP : ClassId) (ap : Nat) (fsp : List Value) (aSh : Nat) (fss : List Value) (aZ : Nat) (fsZ : List Value) (q_placeIn : Nat) (f_placeIn : Nat → Int32) (k_placeIn : ClassId) (q_things : Nat) (f_things : Nat → Int32) (k_things : ClassId) (q_lostMany : Nat) (f_lostMany : Nat → Int32) (k_lostMany : ClassId) (q_ringMany : Nat) (f_ringMany : Nat → Int32) (k_ringMany : ClassId) (q_groupMany : Nat) (f_groupMany : Nat → Int32) (k_groupMany : ClassId) (q_rootMany : Nat) (f_rootMany : Nat → Int32) (k_rootMany : ClassId) (qO : Nat) (fO : Nat → Int64) (kO : ClassId) (w1 : Int32) (hw1 : w1 = xs (1 : Int32).toNatClampNeg) (w2 : Int32) (hw2 : w2 = xs (2 : Int32).toNatClampNeg) (w3 : Int32) (hw3 : w3 = xs (3 : Int32).toNatClampNeg) (w4 : Int32) (hw4 : w4 = xs (4 : Int32).toNatClampNeg) (w5 : Int32) (hw5 : w5 = xs (5 : Int32).toNatClampNeg) (k_fsX : fh fsX 18 [(2, .ref aH), (4, .ref qP)]) (k_fsY : fh fsY 18 [(0, .int 0)]) (k_fsHe : fh fsHe 14 [(0, .ref aY), (11, .int 0)]) (k_fsp : fh fsp 21 [(0, .int 0), (20, .ref aSh)]) (k_fss : fh fss 18 []) (k_fsZ : fh fsZ 150 [(0, .int 0), (20, .int 0), (31, .int 0), (46, .ref q_placeIn), (47, .int 0), (48, .ref q_things), (62, .ref q_lostMany), (63, .ref q_ringMany), (64, .ref q_groupMany), (65, .ref q_rootMany)]) (hg : gP w1.toNatClampNeg = some ap) (hz_f_things : ∀ j, f_things j = 0) (hz_f_lostMany : ∀ j, f_lostMany j = 0) (hz_f_ringMany : ∀ j, f_ringMany j = 0) (hz_f_groupMany : ∀ j, f_groupMany j = 0) (hz_f_rootMany : ∀ j, f_rootMany j = 0) {H : Heap} {locs : List Loc} (hK : va_K (dC, dI) vwCl [(kP, .object "HeapWorks$Picture"), (k_placeIn, .int), (k_things, .int), (k_lostMany, .int), (k_ringMany, .int), (k_groupMany, .int), (k_rootMany, .int), (kO, .long)] s) (hP : va_P (dC, dI) vwCl [(aX, .inr (14, fsX)), (aY, .inr (13, fsY)), (aH, .inr (5, fsHe)), (qP, .inl (kP, 4, .inr (.inr (.inr (.inr gP))))), (ap, .inr (8, fsp)), (aSh, .inr (11, fss)), (aZ, .inr (15, fsZ)), (q_placeIn, .inl (k_placeIn, 400, .inl f_placeIn)), (q_things, .inl (k_things, 5, .inl f_things)), (q_lostMany, .inl (k_lostMany, 5, .inl f_lostMany)), (q_ringMany, .inl (k_ringMany, 5, .inl f_ringMany)), (q_groupMany, .inl (k_groupMany, 5, .inl f_groupMany)), (q_rootMany, .inl (k_rootMany, 5, .inl f_rootMany)), (qO, .inl (kO, 1, .inr (.inl fO)))] H) (hD : va_D A [(aX, .inr (14, fsX)), (aY, .inr (13, fsY)), (aH, .inr (5, fsHe)), (qP, .inl (kP, 4, .inr (.inr (.inr (.inr gP))))), (ap, .inr (8, fsp)), (aSh, .inr (11, fss)), (aZ, .inr (15, fsZ)), (q_placeIn, .inl (k_placeIn, 400, .inl f_placeIn)), (q_things, .inl (k_things, 5, .inl f_things)), (q_lostMany, .inl (k_lostMany, 5, .inl f_lostMany)), (q_ringMany, .inl (k_ringMany, 5, .inl f_ringMany)), (q_groupMany, .inl (k_groupMany, 5, .inl f_groupMany)), (q_rootMany, .inl (k_rootMany, 5, .inl f_rootMany)), (qO, .inl (kO, 1, .inr (.inl fO)))]) (hS : va_S A s.heap H locs) (ls : Array Slot) (hl : lv_has ls 8 [(0, .ref b), (1, .ref aX), (2, .ref aZ), (3, .ref qO), (4, .int 0)]) : W p l e room_1 s m #[Value.ref b] below meth c H locs 390 571359 (lw_Z below #[Value.ref b] s) (F0 m 1717 ls []) := by
  obtain ⟨hx, hb, hr, hml, hown0, hts0, hX, hbl, hlocks, hgv⟩ := id C0
  have hown : s.vm.findClass RL = some m.cls := hown0
  have hts : ∀ w ∈ lwW, w.before #[Value.ref b] s = true := fun w h => hts0 w (lwW_in w h)
  have hbA : ¬ A b := fun h => absurd (hAf b h) (Nat.not_le.mpr hbl)
  have o_fsX := ow_0 k_fsX
  have o_fsY := ow_0 k_fsY
  have o_fsHe := ow_0 k_fsHe
  have o_fsp := ow_0 k_fsp
  have o_fss := ow_0 k_fss
  have o_fsZ := ow_0 k_fsZ
  refine lv_aload_n hx hb dL_law_1717 rfl (lv_at hl 1 rfl) ?_
  refine lv_aload_n hx hb dL_law_1718 rfl (lv_at hl 0 rfl) ?_
  refine lv_iload hx hb dL_law_1719 (lv_at hl 4 rfl) ?_
  refine lv_iconst (v := 1) hx hb dL_law_1721 (by decide) ?_
  refine lv_iadd hx hb dL_law_1722  ?_
  refine lv_topi (fun x101 ex101 => ?_)
  obtain rfl : x101 = 1 := ex101.trans (by decide)
  refine va_sld hx hb hX hbl hbA hS (show vp_in 1 6 from by unfold vp_in; decide) dL_law_1723 ?_
  refine lv_topi (fun x102 ex102 => ?_)
  obtain rfl : w1 = x102 := hw1.trans ex102.symm
  refine lv_aload_n hx hb dL_law_1724 rfl (lv_at hl 3 rfl) ?_
  have hPc := hP.sub (ws' := [(aX, .inr (14, fsX)), (aY, .inr (13, fsY)), (aH, .inr (5, fsHe)), (qP, .inl (kP, 4, .inr (.inr (.inr (.inr gP))))), (ap, .inr (8, fsp)), (aSh, .inr (11, fss)), (qO, .inl (kO, 1, .inr (.inl fO)))]) [0, 1, 2, 3, 4, 5, 13] rfl
  have hDc := hD.sub (ws' := [(aX, .inr (14, fsX)), (aY, .inr (13, fsY)), (aH, .inr (5, fsHe)), (qP, .inl (kP, 4, .inr (.inr (.inr (.inr gP))))), (ap, .inr (8, fsp)), (aSh, .inr (11, fss)), (qO, .inl (kO, 1, .inr (.inl fO)))]) [0, 1, 2, 3, 4, 5, 13] (by decide) rfl
  have hKc := hK.sub (tys' := [(kP, .object "HeapWorks$Picture"), (kO, .long)]) [0, 7] rfl
  have hFc := va_free (wc := [(aX, .inr (14, fsX)), (aY, .inr (13, fsY)), (aH, .inr (5, fsHe)), (qP, .inl (kP, 4, .inr (.inr (.inr (.inr gP))))), (ap, .inr (8, fsp)), (aSh, .inr (11, fss)), (qO, .inl (kO, 1, .inr (.inl fO)))]) hD hS hA [0, 1, 2, 3, 4, 5, 13] rfl
  refine vx_calli (vx_runSX (As := [.ref aX, .int w1, .ref qO]) (rest := []) ⟨hx, hb, hml, hown, hts⟩ (z_L_take l dC dI H.size aX fsX aY fsY aH fsHe qP gP kP ap fsp aSh fss qO fO kO w1 (fh_sub o_fsX.2 [0, 1] rfl) (fh_sub o_fsY.2 [0] rfl) (fh_sub o_fsHe.2 [0, 1] rfl) (fh_sub o_fsp.2 [0, 1] rfl) (fh_sub o_fss.2 [] rfl) hst hg) (vx_cwSW 3 hts g_lk_26_z_L_take_228 rfl rfl rfl (by decide +kernel) ⟨Nat.le_of_ble_eq_true rfl, Nat.le_of_ble_eq_true rfl⟩) ⟨fun a U g mk q => by obtain ⟨q0, q1, qZ, qY, qP, qK, qD⟩ := q; exact ⟨q0, q1, Zz_call qZ, Yy_call qY, qP, va_K.moved (u := U) (U := U.calling g mk a) (Vm.Alike.refl U.vm) qK, qD⟩, fun U hU hW => ⟨rfl, by rw [hU], Zz_go hZ hS hFc hU hW, Yy_go hY hW, by rw [hU]; exact hPc, va_K.moved hW.alike hKc, hDc.weaken (fun _ _ _ _ => trivial)⟩⟩ rfl rfl hl.1 rfl (lv_room (Nat.le_of_ble_eq_true rfl)) dL_law_1725 ⟨Nat.le_of_ble_eq_true rfl, Nat.le_of_ble_eq_true rfl⟩) hS (fun q _ h => hFc q h) hFc (fun q _ h => hFc q h) (fun E ce q9 u t H1 locs ht hvm hpx hBX hz1 hk1 hS hce hcv hcl => ?_) (fun r103 u t H1 locs ht hvm hw hB hz1 hk1 hS => ?_)
  · exact False.elim hBX
  · skip
    obtain ⟨f104, rfl⟩ : ∃ z, z = u := ⟨_, rfl⟩
    obtain ⟨hP1, hK1, hD1⟩ := hB
    rw [ht] at hP1
    try dsimp only at hw
    obtain ⟨hP, hD⟩ := va_join (wr := [(aZ, .inr (15, fsZ)), (q_placeIn, .inl (k_placeIn, 400, .inl f_placeIn)), (q_things, .inl (k_things, 5, .inl f_things)), (q_lostMany, .inl (k_lostMany, 5, .inl f_lostMany)), (q_ringMany, .inl (k_ringMany, 5, .inl f_ringMany)), (q_groupMany, .inl (k_groupMany, 5, .inl f_groupMany)), (q_rootMany, .inl (k_rootMany, 5, .inl f_rootMany))]) (w1 := [(qO, .inl (kO, 1, .inr (.inl f104)))]) hP hD [0, 1, 2, 3, 4, 5, 13] [6, 7, 8, 9, 10, 11, 12] rfl rfl (by decide) (by decide) hk1 hFc hP1 hD1
    have hK := hK.sub (tys' := [(k_placeIn, .int), (k_things, .int), (k_lostMany, .int), (k_ringMany, .int), (k_groupMany, .int), (k_rootMany, .int), (kO, .long)]) [1, 2, 3, 4, 5, 6, 7] rfl
    generalize H1 = H at hP hS ⊢
    refine W.widen (k := 391) (n := 571365) (by omega) (by omega) ?_
    have hP : va_P (dC, dI) vwCl [(aZ, .inr (15, fsZ)), (q_placeIn, .inl (k_placeIn, 400, .inl f_placeIn)), (q_things, .inl (k_things, 5, .inl f_things)), (q_lostMany, .inl (k_lostMany, 5, .inl f_lostMany)), (q_ringMany, .inl (k_ringMany, 5, .inl f_ringMany)), (q_groupMany, .inl (k_groupMany, 5, .inl f_groupMany)), (q_rootMany, .inl (k_rootMany, 5, .inl f_rootMany)), (qO, .inl (kO, 1, .inr (.inl f104)))] H := hP
    have hD : va_D A [(aZ, .inr (15, fsZ)), (q_placeIn, .inl (k_placeIn, 400, .inl f_placeIn)), (q_things, .inl (k_things, 5, .inl f_things)), (q_lostMany, .inl (k_lostMany, 5, .inl f_lostMany)), (q_ringMany, .inl (k_ringMany, 5, .inl f_ringMany)), (q_groupMany, .inl (k_groupMany, 5, .inl f_groupMany)), (q_rootMany, .inl (k_rootMany, 5, .inl f_rootMany)), (qO, .inl (kO, 1, .inr (.inl f104)))] := hD
    rcases hw with ⟨c105, er106⟩ | ⟨c107, c108, er109⟩ | ⟨c110, c111, er112, q113⟩
    · skip
      subst er106
      refine lv_istore (lv' := [(5, .int 1), (0, .ref b), (1, .ref aX), (2, .ref aZ), (3, .ref qO), (4, .int 0)]) hx hb dL_law_1728 hl (by decide) rfl (fun ls hl => ?_)
      refine lv_aload_n hx hb dL_law_1730 rfl (lv_at hl 3 rfl) ?_
      refine lv_aload_n hx hb dL_law_1731 rfl (lv_at hl 1 rfl) ?_
      refine lv_iload hx hb dL_law_1732 (lv_at hl 5 rfl) ?_
      refine lv_iconst (v := 1) hx hb dL_law_1734 (by decide) ?_
      refine lv_iadd hx hb dL_law_1735  ?_
      refine lv_topi (fun x114 ex114 => ?_)
      obtain rfl : x114 = 1 := ex114.trans (by decide)
      refine va_sld hx hb hX hbl hbA hS (show vp_in 1 6 from by unfold vp_in; decide) dL_law_1736 ?_
      refine lv_topi (fun x115 ex115 => ?_)
      obtain rfl : w1 = x115 := hw1.trans ex115.symm
      have hPc := hP.sub (ws' := [(aZ, .inr (15, fsZ)), (q_placeIn, .inl (k_placeIn, 400, .inl f_placeIn)), (q_things, .inl (k_things, 5, .inl f_things)), (q_lostMany, .inl (k_lostMany, 5, .inl f_lostMany)), (q_ringMany, .inl (k_ringMany, 5, .inl f_ringMany)), (q_groupMany, .inl (k_groupMany, 5, .inl f_groupMany)), (q_rootMany, .inl (k_rootMany, 5, .inl f_rootMany))]) [0, 1, 2, 3, 4, 5, 6] rfl
      have hDc := hD.sub (ws' := [(aZ, .inr (15, fsZ)), (q_placeIn, .inl (k_placeIn, 400, .inl f_placeIn)), (q_things, .inl (k_things, 5, .inl f_things)), (q_lostMany, .inl (k_lostMany, 5, .inl f_lostMany)), (q_ringMany, .inl (k_ringMany, 5, .inl f_ringMany)), (q_groupMany, .inl (k_groupMany, 5, .inl f_groupMany)), (q_rootMany, .inl (k_rootMany, 5, .inl f_rootMany))]) [0, 1, 2, 3, 4, 5, 6] (by decide) rfl
      have hKc := hK.sub (tys' := [(k_placeIn, .int), (k_things, .int), (k_lostMany, .int), (k_ringMany, .int), (k_groupMany, .int), (k_rootMany, .int)]) [0, 1, 2, 3, 4, 5] rfl
      have hFc := va_free (wc := [(aZ, .inr (15, fsZ)), (q_placeIn, .inl (k_placeIn, 400, .inl f_placeIn)), (q_things, .inl (k_things, 5, .inl f_things)), (q_lostMany, .inl (k_lostMany, 5, .inl f_lostMany)), (q_ringMany, .inl (k_ringMany, 5, .inl f_ringMany)), (q_groupMany, .inl (k_groupMany, 5, .inl f_groupMany)), (q_rootMany, .inl (k_rootMany, 5, .inl f_rootMany))]) hD hS hA [0, 1, 2, 3, 4, 5, 6] rfl
      refine va_calli (va_runV (As := [.int w1]) (rest := []) ⟨hx, hb, hml, hown, hts⟩ (z_X12_take l dC dI H.size aZ fsZ q_placeIn f_placeIn k_placeIn q_things f_things k_things q_lostMany f_lostMany k_lostMany q_ringMany f_ringMany k_ringMany q_groupMany f_groupMany k_groupMany q_rootMany f_rootMany k_rootMany w1 (fh_sub o_fsZ.2 [0, 1, 2, 3, 4, 5, 6, 7, 8, 9] rfl) hz_f_things hz_f_lostMany hz_f_ringMany hz_f_groupMany hz_f_rootMany) (cwV 1 hts g_lk_26_z_X12_take_230 rfl rfl rfl (by decide +kernel) ⟨Nat.le_of_ble_eq_true rfl, Nat.le_of_ble_eq_true rfl⟩) ⟨fun a U g mk q => by obtain ⟨q0, q1, qP, qK, qD⟩ := q; exact ⟨q0, q1, qP, va_K.moved (u := U) (U := U.calling g mk a) (Vm.Alike.refl U.vm) qK, qD⟩, va_recv hK hP (ci := 15) (q0 := 0) rfl rfl, fun U hU hW => ⟨rfl, by rw [hU], by rw [hU]; exact hPc, va_K.moved hW.alike hKc, hDc.weaken (fun _ _ _ _ => trivial)⟩⟩ rfl rfl hl.1 rfl (lv_room (Nat.le_of_ble_eq_true rfl)) dL_law_1737 ⟨Nat.le_of_ble_eq_true rfl, Nat.le_of_ble_eq_true rfl⟩) hS (fun q _ h => hFc q h) hFc (fun r116 u t H1 locs ht hvm hw hB hz1 hk1 hS => ?_)
      obtain ⟨s117, f118, f119, f120, f121, f122, f123⟩ := u
      obtain ⟨hP1, hK1, hD1⟩ := hB
      rw [ht] at hP1
      try dsimp only at hw
      obtain ⟨hP, hD⟩ := va_join (wr := [(qO, .inl (kO, 1, .inr (.inl f104)))]) (w1 := [(aZ, .inr (15, s117)), (q_placeIn, .inl (k_placeIn, 400, .inl f118)), (q_things, .inl (k_things, 5, .inl f119)), (q_lostMany, .inl (k_lostMany, 5, .inl f120)), (q_ringMany, .inl (k_ringMany, 5, .inl f121)), (q_groupMany, .inl (k_groupMany, 5, .inl f122)), (q_rootMany, .inl (k_rootMany, 5, .inl f123))]) hP hD [0, 1, 2, 3, 4, 5, 6] [7] rfl rfl (by decide) (by decide) hk1 hFc hP1 hD1
      have hK := hK.sub (tys' := [(kO, .long), (k_placeIn, .int), (k_things, .int), (k_lostMany, .int), (k_ringMany, .int), (k_groupMany, .int), (k_rootMany, .int)]) [6, 0, 1, 2, 3, 4, 5] rfl
      generalize H1 = H at hP hS ⊢
      have hP : va_P (dC, dI) vwCl [(qO, .inl (kO, 1, .inr (.inl f104))), (aZ, .inr (15, s117)), (q_placeIn, .inl (k_placeIn, 400, .inl f118)), (q_things, .inl (k_things, 5, .inl f119)), (q_lostMany, .inl (k_lostMany, 5, .inl f120)), (q_ringMany, .inl (k_ringMany, 5, .inl f121)), (q_groupMany, .inl (k_groupMany, 5, .inl f122)), (q_rootMany, .inl (k_rootMany, 5, .inl f123))] H := hP
      have hD : va_D A [(qO, .inl (kO, 1, .inr (.inl f104))), (aZ, .inr (15, s117)), (q_placeIn, .inl (k_placeIn, 400, .inl f118)), (q_things, .inl (k_things, 5, .inl f119)), (q_lostMany, .inl (k_lostMany, 5, .inl f120)), (q_ringMany, .inl (k_ringMany, 5, .inl f121)), (q_groupMany, .inl (k_groupMany, 5, .inl f122)), (q_rootMany, .inl (k_rootMany, 5, .inl f123))] := hD
      rcases hw with ⟨c124, er125, o_s117, q126, q127, q128, q129, q130⟩ | ⟨c131, c132, er133, o_s117, q134, q135, q136, q137, q138⟩ | ⟨c139, c140, er141, o_s117, q142, q143, q144, q145, q146, q147, q148, q149, q150, q151⟩
      · skip
        subst er125
        have o_s117 := ow_on o_fsZ o_s117 (l' := [(0, .int 1), (20, .int 0), (31, .int 0), (46, .ref q_placeIn), (47, .int 0), (48, .ref q_things), (62, .ref q_lostMany), (63, .ref q_ringMany), (64, .ref q_groupMany), (65, .ref q_rootMany), (20, .int 0), (31, .int 0), (46, .ref q_placeIn), (47, .int 0), (48, .ref q_things), (62, .ref q_lostMany), (63, .ref q_ringMany), (64, .ref q_groupMany), (65, .ref q_rootMany)]) (w' := [0]) rfl rfl
        refine lv_istore (lv' := [(6, .int 0), (5, .int 1), (0, .ref b), (1, .ref aX), (2, .ref aZ), (3, .ref qO), (4, .int 0)]) hx hb dL_law_1740 hl (by decide) rfl (fun ls hl => ?_)
        refine lv_aload_n hx hb dL_law_1742 rfl (lv_at hl 4 rfl) ?_
        have hPc := hP.sub (ws' := [(aZ, .inr (15, s117))]) [1] rfl
        have hDc := hD.sub (ws' := [(aZ, .inr (15, s117))]) [1] (by decide) rfl
        have hKc := hK.sub (tys' := []) [] rfl
        have hFc := va_free (wc := [(aZ, .inr (15, s117))]) hD hS hA [1] rfl
        refine va_calli (va_runV (As := []) (rest := []) ⟨hx, hb, hml, hown, hts⟩ (z_X12_thrown l dC dI H.size aZ s117 (fh_sub o_s117.2 [0] rfl) ) (cwV 0 hts g_lk_26_z_X12_thrown_149 rfl rfl rfl (by decide +kernel) ⟨Nat.le_of_ble_eq_true rfl, Nat.le_of_ble_eq_true rfl⟩) ⟨fun a U g mk q => by obtain ⟨q0, q1, qP, qK, qD⟩ := q; exact ⟨q0, q1, qP, va_K.moved (u := U) (U := U.calling g mk a) (Vm.Alike.refl U.vm) qK, qD⟩, va_recv hK hP (ci := 15) (q0 := 1) rfl rfl, fun U hU hW => ⟨rfl, by rw [hU], by rw [hU]; exact hPc, va_K.moved hW.alike hKc, hDc.weaken (fun _ _ _ _ => trivial)⟩⟩ rfl rfl hl.1 rfl (lv_room (Nat.le_of_ble_eq_true rfl)) dL_law_1743 ⟨Nat.le_of_ble_eq_true rfl, Nat.le_of_ble_eq_true rfl⟩) hS (fun q _ h => hFc q h) hFc (fun r152 u t H1 locs ht hvm hw hB hz1 hk1 hS => ?_)
        obtain ⟨hP1, hK1, hD1⟩ := hB
        rw [ht] at hP1
        try dsimp only at hw
        obtain ⟨hP, hD⟩ := va_join (wr := [(qO, .inl (kO, 1, .inr (.inl f104))), (q_placeIn, .inl (k_placeIn, 400, .inl f118)), (q_things, .inl (k_things, 5, .inl f119)), (q_lostMany, .inl (k_lostMany, 5, .inl f120)), (q_ringMany, .inl (k_ringMany, 5, .inl f121)), (q_groupMany, .inl (k_groupMany, 5, .inl f122)), (q_rootMany, .inl (k_rootMany, 5, .inl f123))]) (w1 := [(aZ, .inr (15, s117))]) hP hD [1] [0, 2, 3, 4, 5, 6, 7] rfl rfl (by decide) (by decide) hk1 hFc hP1 hD1
        have hK := hK.sub (tys' := [(kO, .long), (k_placeIn, .int), (k_things, .int), (k_lostMany, .int), (k_ringMany, .int), (k_groupMany, .int), (k_rootMany, .int)]) [0, 1, 2, 3, 4, 5, 6] rfl
        generalize H1 = H at hP hS ⊢
        have hP : va_P (dC, dI) vwCl [(qO, .inl (kO, 1, .inr (.inl f104))), (q_placeIn, .inl (k_placeIn, 400, .inl f118)), (q_things, .inl (k_things, 5, .inl f119)), (q_lostMany, .inl (k_lostMany, 5, .inl f120)), (q_ringMany, .inl (k_ringMany, 5, .inl f121)), (q_groupMany, .inl (k_groupMany, 5, .inl f122)), (q_rootMany, .inl (k_rootMany, 5, .inl f123)), (aZ, .inr (15, s117))] H := hP
        have hD : va_D A [(qO, .inl (kO, 1, .inr (.inl f104))), (q_placeIn, .inl (k_placeIn, 400, .inl f118)), (q_things, .inl (k_things, 5, .inl f119)), (q_lostMany, .inl (k_lostMany, 5, .inl f120)), (q_ringMany, .inl (k_ringMany, 5, .inl f121)), (q_groupMany, .inl (k_groupMany, 5, .inl f122)), (q_rootMany, .inl (k_rootMany, 5, .inl f123)), (aZ, .inr (15, s117))] := hD
        have er153 := hw
        subst er153
        refine lv_iload hx hb dL_law_1746 (lv_at hl 1 rfl) ?_
        refine lv_icmp_eq (tgt := 1753) hx hb dL_law_1748 (by decide) (fun c154 => ?_) (fun c154 => absurd c154 (by decide))
        refine lv_iload hx hb dL_law_1753 (lv_at hl 1 rfl) ?_
        refine lv_if_ne (tgt := 1770) hx hb dL_law_1755 (by decide) (fun c155 => ?_) (fun c155 => absurd c155 (by decide))
        refine lv_goto (tgt := 3111) hx hb dL_law_1770 (by decide) ?_
        exact lw_end hst C0 hA hAf hZ hY (Nat.le_of_ble_eq_true rfl) (Nat.le_of_ble_eq_true rfl) dC dI P0k P0 D0 hS ls (lv_sub hl [2, 6] rfl)
      · exact (by exfalso; (try simp only [i_lt, i_le, i_eq, kc_0, kc_4] at c105 c131 c132); omega)
      · exact (by exfalso; (try simp only [i_lt, i_le, i_eq, kc_0, kc_4] at c105 c139 c140); omega)
    · skip
      subst er109
      refine lv_istore (lv' := [(5, .int 1), (0, .ref b), (1, .ref aX), (2, .ref aZ), (3, .ref qO), (4, .int 0)]) hx hb dL_law_1728 hl (by decide) rfl (fun ls hl => ?_)
      refine lv_aload_n hx hb dL_law_1730 rfl (lv_at hl 3 rfl) ?_
      refine lv_aload_n hx hb dL_law_1731 rfl (lv_at hl 1 rfl) ?_
      refine lv_iload hx hb dL_law_1732 (lv_at hl 5 rfl) ?_
      refine lv_iconst (v := 1) hx hb dL_law_1734 (by decide) ?_
      refine lv_iadd hx hb dL_law_1735  ?_
      refine lv_topi (fun x156 ex156 => ?_)
      obtain rfl : x156 = 1 := ex156.trans (by decide)
      refine va_sld hx hb hX hbl hbA hS (show vp_in 1 6 from by unfold vp_in; decide) dL_law_1736 ?_
      refine lv_topi (fun x157 ex157 => ?_)
      obtain rfl : w1 = x157 := hw1.trans ex157.symm
      have hPc := hP.sub (ws' := [(aZ, .inr (15, fsZ)), (q_placeIn, .inl (k_placeIn, 400, .inl f_placeIn)), (q_things, .inl (k_things, 5, .inl f_things)), (q_lostMany, .inl (k_lostMany, 5, .inl f_lostMany)), (q_ringMany, .inl (k_ringMany, 5, .inl f_ringMany)), (q_groupMany, .inl (k_groupMany, 5, .inl f_groupMany)), (q_rootMany, .inl (k_rootMany, 5, .inl f_rootMany))]) [0, 1, 2, 3, 4, 5, 6] rfl
      have hDc := hD.sub (ws' := [(aZ, .inr (15, fsZ)), (q_placeIn, .inl (k_placeIn, 400, .inl f_placeIn)), (q_things, .inl (k_things, 5, .inl f_things)), (q_lostMany, .inl (k_lostMany, 5, .inl f_lostMany)), (q_ringMany, .inl (k_ringMany, 5, .inl f_ringMany)), (q_groupMany, .inl (k_groupMany, 5, .inl f_groupMany)), (q_rootMany, .inl (k_rootMany, 5, .inl f_rootMany))]) [0, 1, 2, 3, 4, 5, 6] (by decide) rfl
      have hKc := hK.sub (tys' := [(k_placeIn, .int), (k_things, .int), (k_lostMany, .int), (k_ringMany, .int), (k_groupMany, .int), (k_rootMany, .int)]) [0, 1, 2, 3, 4, 5] rfl
      have hFc := va_free (wc := [(aZ, .inr (15, fsZ)), (q_placeIn, .inl (k_placeIn, 400, .inl f_placeIn)), (q_things, .inl (k_things, 5, .inl f_things)), (q_lostMany, .inl (k_lostMany, 5, .inl f_lostMany)), (q_ringMany, .inl (k_ringMany, 5, .inl f_ringMany)), (q_groupMany, .inl (k_groupMany, 5, .inl f_groupMany)), (q_rootMany, .inl (k_rootMany, 5, .inl f_rootMany))]) hD hS hA [0, 1, 2, 3, 4, 5, 6] rfl
      refine va_calli (va_runV (As := [.int w1]) (rest := []) ⟨hx, hb, hml, hown, hts⟩ (z_X12_take l dC dI H.size aZ fsZ q_placeIn f_placeIn k_placeIn q_things f_things k_things q_lostMany f_lostMany k_lostMany q_ringMany f_ringMany k_ringMany q_groupMany f_groupMany k_groupMany q_rootMany f_rootMany k_rootMany w1 (fh_sub o_fsZ.2 [0, 1, 2, 3, 4, 5, 6, 7, 8, 9] rfl) hz_f_things hz_f_lostMany hz_f_ringMany hz_f_groupMany hz_f_rootMany) (cwV 1 hts g_lk_26_z_X12_take_230 rfl rfl rfl (by decide +kernel) ⟨Nat.le_of_ble_eq_true rfl, Nat.le_of_ble_eq_true rfl⟩) ⟨fun a U g mk q => by obtain ⟨q0, q1, qP, qK, qD⟩ := q; exact ⟨q0, q1, qP, va_K.moved (u := U) (U := U.calling g mk a) (Vm.Alike.refl U.vm) qK, qD⟩, va_recv hK hP (ci := 15) (q0 := 0) rfl rfl, fun U hU hW => ⟨rfl, by rw [hU], by rw [hU]; exact hPc, va_K.moved hW.alike hKc, hDc.weaken (fun _ _ _ _ => trivial)⟩⟩ rfl rfl hl.1 rfl (lv_room (Nat.le_of_ble_eq_true rfl)) dL_law_1737 ⟨Nat.le_of_ble_eq_true rfl, Nat.le_of_ble_eq_true rfl⟩) hS (fun q _ h => hFc q h) hFc (fun r158 u t H1 locs ht hvm hw hB hz1 hk1 hS => ?_)
      obtain ⟨s159, f160, f161, f162, f163, f164, f165⟩ := u
      obtain ⟨hP1, hK1, hD1⟩ := hB
      rw [ht] at hP1
      try dsimp only at hw
      obtain ⟨hP, hD⟩ := va_join (wr := [(qO, .inl (kO, 1, .inr (.inl f104)))]) (w1 := [(aZ, .inr (15, s159)), (q_placeIn, .inl (k_placeIn, 400, .inl f160)), (q_things, .inl (k_things, 5, .inl f161)), (q_lostMany, .inl (k_lostMany, 5, .inl f162)), (q_ringMany, .inl (k_ringMany, 5, .inl f163)), (q_groupMany, .inl (k_groupMany, 5, .inl f164)), (q_rootMany, .inl (k_rootMany, 5, .inl f165))]) hP hD [0, 1, 2, 3, 4, 5, 6] [7] rfl rfl (by decide) (by decide) hk1 hFc hP1 hD1
      have hK := hK.sub (tys' := [(kO, .long), (k_placeIn, .int), (k_things, .int), (k_lostMany, .int), (k_ringMany, .int), (k_groupMany, .int), (k_rootMany, .int)]) [6, 0, 1, 2, 3, 4, 5] rfl
      generalize H1 = H at hP hS ⊢
      have hP : va_P (dC, dI) vwCl [(qO, .inl (kO, 1, .inr (.inl f104))), (aZ, .inr (15, s159)), (q_placeIn, .inl (k_placeIn, 400, .inl f160)), (q_things, .inl (k_things, 5, .inl f161)), (q_lostMany, .inl (k_lostMany, 5, .inl f162)), (q_ringMany, .inl (k_ringMany, 5, .inl f163)), (q_groupMany, .inl (k_groupMany, 5, .inl f164)), (q_rootMany, .inl (k_rootMany, 5, .inl f165))] H := hP
      have hD : va_D A [(qO, .inl (kO, 1, .inr (.inl f104))), (aZ, .inr (15, s159)), (q_placeIn, .inl (k_placeIn, 400, .inl f160)), (q_things, .inl (k_things, 5, .inl f161)), (q_lostMany, .inl (k_lostMany, 5, .inl f162)), (q_ringMany, .inl (k_ringMany, 5, .inl f163)), (q_groupMany, .inl (k_groupMany, 5, .inl f164)), (q_rootMany, .inl (k_rootMany, 5, .inl f165))] := hD
      rcases hw with ⟨c166, er167, o_s159, q168, q169, q170, q171, q172⟩ | ⟨c173, c174, er175, o_s159, q176, q177, q178, q179, q180⟩ | ⟨c181, c182, er183, o_s159, q184, q185, q186, q187, q188, q189, q190, q191, q192, q193⟩
      · exact (by exfalso; (try simp only [i_lt, i_le, i_eq, kc_0, kc_4] at c107 c108 c166); omega)
      · skip
        subst er175
        have o_s159 := ow_on o_fsZ o_s159 (l' := [(0, .int 1), (20, .int 0), (31, .int 0), (46, .ref q_placeIn), (47, .int 0), (48, .ref q_things), (62, .ref q_lostMany), (63, .ref q_ringMany), (64, .ref q_groupMany), (65, .ref q_rootMany), (20, .int 0), (31, .int 0), (46, .ref q_placeIn), (47, .int 0), (48, .ref q_things), (62, .ref q_lostMany), (63, .ref q_ringMany), (64, .ref q_groupMany), (65, .ref q_rootMany)]) (w' := [0]) rfl rfl
        refine lv_istore (lv' := [(6, .int 0), (5, .int 1), (0, .ref b), (1, .ref aX), (2, .ref aZ), (3, .ref qO), (4, .int 0)]) hx hb dL_law_1740 hl (by decide) rfl (fun ls hl => ?_)
        refine lv_aload_n hx hb dL_law_1742 rfl (lv_at hl 4 rfl) ?_
        have hPc := hP.sub (ws' := [(aZ, .inr (15, s159))]) [1] rfl
        have hDc := hD.sub (ws' := [(aZ, .inr (15, s159))]) [1] (by decide) rfl
        have hKc := hK.sub (tys' := []) [] rfl
        have hFc := va_free (wc := [(aZ, .inr (15, s159))]) hD hS hA [1] rfl
        refine va_calli (va_runV (As := []) (rest := []) ⟨hx, hb, hml, hown, hts⟩ (z_X12_thrown l dC dI H.size aZ s159 (fh_sub o_s159.2 [0] rfl) ) (cwV 0 hts g_lk_26_z_X12_thrown_149 rfl rfl rfl (by decide +kernel) ⟨Nat.le_of_ble_eq_true rfl, Nat.le_of_ble_eq_true rfl⟩) ⟨fun a U g mk q => by obtain ⟨q0, q1, qP, qK, qD⟩ := q; exact ⟨q0, q1, qP, va_K.moved (u := U) (U := U.calling g mk a) (Vm.Alike.refl U.vm) qK, qD⟩, va_recv hK hP (ci := 15) (q0 := 1) rfl rfl, fun U hU hW => ⟨rfl, by rw [hU], by rw [hU]; exact hPc, va_K.moved hW.alike hKc, hDc.weaken (fun _ _ _ _ => trivial)⟩⟩ rfl rfl hl.1 rfl (lv_room (Nat.le_of_ble_eq_true rfl)) dL_law_1743 ⟨Nat.le_of_ble_eq_true rfl, Nat.le_of_ble_eq_true rfl⟩) hS (fun q _ h => hFc q h) hFc (fun r194 u t H1 locs ht hvm hw hB hz1 hk1 hS => ?_)
        obtain ⟨hP1, hK1, hD1⟩ := hB
        rw [ht] at hP1
        try dsimp only at hw
        obtain ⟨hP, hD⟩ := va_join (wr := [(qO, .inl (kO, 1, .inr (.inl f104))), (q_placeIn, .inl (k_placeIn, 400, .inl f160)), (q_things, .inl (k_things, 5, .inl f161)), (q_lostMany, .inl (k_lostMany, 5, .inl f162)), (q_ringMany, .inl (k_ringMany, 5, .inl f163)), (q_groupMany, .inl (k_groupMany, 5, .inl f164)), (q_rootMany, .inl (k_rootMany, 5, .inl f165))]) (w1 := [(aZ, .inr (15, s159))]) hP hD [1] [0, 2, 3, 4, 5, 6, 7] rfl rfl (by decide) (by decide) hk1 hFc hP1 hD1
        have hK := hK.sub (tys' := [(kO, .long), (k_placeIn, .int), (k_things, .int), (k_lostMany, .int), (k_ringMany, .int), (k_groupMany, .int), (k_rootMany, .int)]) [0, 1, 2, 3, 4, 5, 6] rfl
        generalize H1 = H at hP hS ⊢
        have hP : va_P (dC, dI) vwCl [(qO, .inl (kO, 1, .inr (.inl f104))), (q_placeIn, .inl (k_placeIn, 400, .inl f160)), (q_things, .inl (k_things, 5, .inl f161)), (q_lostMany, .inl (k_lostMany, 5, .inl f162)), (q_ringMany, .inl (k_ringMany, 5, .inl f163)), (q_groupMany, .inl (k_groupMany, 5, .inl f164)), (q_rootMany, .inl (k_rootMany, 5, .inl f165)), (aZ, .inr (15, s159))] H := hP
        have hD : va_D A [(qO, .inl (kO, 1, .inr (.inl f104))), (q_placeIn, .inl (k_placeIn, 400, .inl f160)), (q_things, .inl (k_things, 5, .inl f161)), (q_lostMany, .inl (k_lostMany, 5, .inl f162)), (q_ringMany, .inl (k_ringMany, 5, .inl f163)), (q_groupMany, .inl (k_groupMany, 5, .inl f164)), (q_rootMany, .inl (k_rootMany, 5, .inl f165)), (aZ, .inr (15, s159))] := hD
        have er195 := hw
        subst er195
        refine lv_iload hx hb dL_law_1746 (lv_at hl 1 rfl) ?_
        refine lv_icmp_eq (tgt := 1753) hx hb dL_law_1748 (by decide) (fun c196 => ?_) (fun c196 => absurd c196 (by decide))
        refine lv_iload hx hb dL_law_1753 (lv_at hl 1 rfl) ?_
        refine lv_if_ne (tgt := 1770) hx hb dL_law_1755 (by decide) (fun c197 => ?_) (fun c197 => absurd c197 (by decide))
        refine lv_goto (tgt := 3111) hx hb dL_law_1770 (by decide) ?_
        exact lw_end hst C0 hA hAf hZ hY (Nat.le_of_ble_eq_true rfl) (Nat.le_of_ble_eq_true rfl) dC dI P0k P0 D0 hS ls (lv_sub hl [2, 6] rfl)
      · exact (by exfalso; (try simp only [i_lt, i_le, i_eq, kc_0, kc_4] at c107 c108 c181 c182); omega)
    · skip
      subst er112
      refine lv_istore (lv' := [(5, .int 0), (0, .ref b), (1, .ref aX), (2, .ref aZ), (3, .ref qO), (4, .int 0)]) hx hb dL_law_1728 hl (by decide) rfl (fun ls hl => ?_)
      refine lv_aload_n hx hb dL_law_1730 rfl (lv_at hl 3 rfl) ?_
      refine lv_aload_n hx hb dL_law_1731 rfl (lv_at hl 1 rfl) ?_
      refine lv_iload hx hb dL_law_1732 (lv_at hl 5 rfl) ?_
      refine lv_iconst (v := 1) hx hb dL_law_1734 (by decide) ?_
      refine lv_iadd hx hb dL_law_1735  ?_
      refine lv_topi (fun x198 ex198 => ?_)
      obtain rfl : x198 = 1 := ex198.trans (by decide)
      refine va_sld hx hb hX hbl hbA hS (show vp_in 1 6 from by unfold vp_in; decide) dL_law_1736 ?_
      refine lv_topi (fun x199 ex199 => ?_)
      obtain rfl : w1 = x199 := hw1.trans ex199.symm
      have hPc := hP.sub (ws' := [(aZ, .inr (15, fsZ)), (q_placeIn, .inl (k_placeIn, 400, .inl f_placeIn)), (q_things, .inl (k_things, 5, .inl f_things)), (q_lostMany, .inl (k_lostMany, 5, .inl f_lostMany)), (q_ringMany, .inl (k_ringMany, 5, .inl f_ringMany)), (q_groupMany, .inl (k_groupMany, 5, .inl f_groupMany)), (q_rootMany, .inl (k_rootMany, 5, .inl f_rootMany))]) [0, 1, 2, 3, 4, 5, 6] rfl
      have hDc := hD.sub (ws' := [(aZ, .inr (15, fsZ)), (q_placeIn, .inl (k_placeIn, 400, .inl f_placeIn)), (q_things, .inl (k_things, 5, .inl f_things)), (q_lostMany, .inl (k_lostMany, 5, .inl f_lostMany)), (q_ringMany, .inl (k_ringMany, 5, .inl f_ringMany)), (q_groupMany, .inl (k_groupMany, 5, .inl f_groupMany)), (q_rootMany, .inl (k_rootMany, 5, .inl f_rootMany))]) [0, 1, 2, 3, 4, 5, 6] (by decide) rfl
      have hKc := hK.sub (tys' := [(k_placeIn, .int), (k_things, .int), (k_lostMany, .int), (k_ringMany, .int), (k_groupMany, .int), (k_rootMany, .int)]) [0, 1, 2, 3, 4, 5] rfl
      have hFc := va_free (wc := [(aZ, .inr (15, fsZ)), (q_placeIn, .inl (k_placeIn, 400, .inl f_placeIn)), (q_things, .inl (k_things, 5, .inl f_things)), (q_lostMany, .inl (k_lostMany, 5, .inl f_lostMany)), (q_ringMany, .inl (k_ringMany, 5, .inl f_ringMany)), (q_groupMany, .inl (k_groupMany, 5, .inl f_groupMany)), (q_rootMany, .inl (k_rootMany, 5, .inl f_rootMany))]) hD hS hA [0, 1, 2, 3, 4, 5, 6] rfl
      refine va_calli (va_runV (As := [.int w1]) (rest := []) ⟨hx, hb, hml, hown, hts⟩ (z_X12_take l dC dI H.size aZ fsZ q_placeIn f_placeIn k_placeIn q_things f_things k_things q_lostMany f_lostMany k_lostMany q_ringMany f_ringMany k_ringMany q_groupMany f_groupMany k_groupMany q_rootMany f_rootMany k_rootMany w1 (fh_sub o_fsZ.2 [0, 1, 2, 3, 4, 5, 6, 7, 8, 9] rfl) hz_f_things hz_f_lostMany hz_f_ringMany hz_f_groupMany hz_f_rootMany) (cwV 1 hts g_lk_26_z_X12_take_230 rfl rfl rfl (by decide +kernel) ⟨Nat.le_of_ble_eq_true rfl, Nat.le_of_ble_eq_true rfl⟩) ⟨fun a U g mk q => by obtain ⟨q0, q1, qP, qK, qD⟩ := q; exact ⟨q0, q1, qP, va_K.moved (u := U) (U := U.calling g mk a) (Vm.Alike.refl U.vm) qK, qD⟩, va_recv hK hP (ci := 15) (q0 := 0) rfl rfl, fun U hU hW => ⟨rfl, by rw [hU], by rw [hU]; exact hPc, va_K.moved hW.alike hKc, hDc.weaken (fun _ _ _ _ => trivial)⟩⟩ rfl rfl hl.1 rfl (lv_room (Nat.le_of_ble_eq_true rfl)) dL_law_1737 ⟨Nat.le_of_ble_eq_true rfl, Nat.le_of_ble_eq_true rfl⟩) hS (fun q _ h => hFc q h) hFc (fun r200 u t H1 locs ht hvm hw hB hz1 hk1 hS => ?_)
      obtain ⟨s201, f202, f203, f204, f205, f206, f207⟩ := u
      obtain ⟨hP1, hK1, hD1⟩ := hB
      rw [ht] at hP1
      try dsimp only at hw
      obtain ⟨hP, hD⟩ := va_join (wr := [(qO, .inl (kO, 1, .inr (.inl f104)))]) (w1 := [(aZ, .inr (15, s201)), (q_placeIn, .inl (k_placeIn, 400, .inl f202)), (q_things, .inl (k_things, 5, .inl f203)), (q_lostMany, .inl (k_lostMany, 5, .inl f204)), (q_ringMany, .inl (k_ringMany, 5, .inl f205)), (q_groupMany, .inl (k_groupMany, 5, .inl f206)), (q_rootMany, .inl (k_rootMany, 5, .inl f207))]) hP hD [0, 1, 2, 3, 4, 5, 6] [7] rfl rfl (by decide) (by decide) hk1 hFc hP1 hD1
      have hK := hK.sub (tys' := [(kO, .long), (k_placeIn, .int), (k_things, .int), (k_lostMany, .int), (k_ringMany, .int), (k_groupMany, .int), (k_rootMany, .int)]) [6, 0, 1, 2, 3, 4, 5] rfl
      generalize H1 = H at hP hS ⊢
      have hP : va_P (dC, dI) vwCl [(qO, .inl (kO, 1, .inr (.inl f104))), (aZ, .inr (15, s201)), (q_placeIn, .inl (k_placeIn, 400, .inl f202)), (q_things, .inl (k_things, 5, .inl f203)), (q_lostMany, .inl (k_lostMany, 5, .inl f204)), (q_ringMany, .inl (k_ringMany, 5, .inl f205)), (q_groupMany, .inl (k_groupMany, 5, .inl f206)), (q_rootMany, .inl (k_rootMany, 5, .inl f207))] H := hP
      have hD : va_D A [(qO, .inl (kO, 1, .inr (.inl f104))), (aZ, .inr (15, s201)), (q_placeIn, .inl (k_placeIn, 400, .inl f202)), (q_things, .inl (k_things, 5, .inl f203)), (q_lostMany, .inl (k_lostMany, 5, .inl f204)), (q_ringMany, .inl (k_ringMany, 5, .inl f205)), (q_groupMany, .inl (k_groupMany, 5, .inl f206)), (q_rootMany, .inl (k_rootMany, 5, .inl f207))] := hD
      rcases hw with ⟨c208, er209, o_s201, q210, q211, q212, q213, q214⟩ | ⟨c215, c216, er217, o_s201, q218, q219, q220, q221, q222⟩ | ⟨c223, c224, er225, o_s201, q226, q227, q228, q229, q230, q231, q232, q233, q234, q235⟩
      · exact (by exfalso; (try simp only [i_lt, i_le, i_eq, kc_0, kc_4] at c110 c111 c208); omega)
      · exact (by exfalso; (try simp only [i_lt, i_le, i_eq, kc_0, kc_4] at c110 c111 c215 c216); omega)
      · skip
        subst er225
        have o_s201 := ow_on o_fsZ o_s201 (l' := [(47, .int 0), (46, .ref q_placeIn), (20, .int 0), (31, .int 0), (46, .ref q_placeIn), (20, .int 0), (31, .int 0), (46, .ref q_placeIn), (48, .ref q_things), (65, .ref q_rootMany), (0, .int 0), (20, .int 0), (31, .int 0), (46, .ref q_placeIn), (48, .ref q_things), (62, .ref q_lostMany), (63, .ref q_ringMany), (64, .ref q_groupMany), (65, .ref q_rootMany), (20, .int 0), (31, .int 0), (46, .ref q_placeIn), (48, .ref q_things), (62, .ref q_lostMany), (63, .ref q_ringMany), (64, .ref q_groupMany), (65, .ref q_rootMany)]) (w' := [47, 0]) rfl rfl
        refine lv_istore (lv' := [(6, .int 0), (5, .int 0), (0, .ref b), (1, .ref aX), (2, .ref aZ), (3, .ref qO), (4, .int 0)]) hx hb dL_law_1740 hl (by decide) rfl (fun ls hl => ?_)
        refine lv_aload_n hx hb dL_law_1742 rfl (lv_at hl 4 rfl) ?_
        have hPc := hP.sub (ws' := [(aZ, .inr (15, s201))]) [1] rfl
        have hDc := hD.sub (ws' := [(aZ, .inr (15, s201))]) [1] (by decide) rfl
        have hKc := hK.sub (tys' := []) [] rfl
        have hFc := va_free (wc := [(aZ, .inr (15, s201))]) hD hS hA [1] rfl
        refine va_calli (va_runV (As := []) (rest := []) ⟨hx, hb, hml, hown, hts⟩ (z_X12_thrown_2 l dC dI H.size aZ s201 (fh_sub o_s201.2 [10] rfl) ) (cwV 0 hts g_lk_26_z_X12_thrown_2_149 rfl rfl rfl (by decide +kernel) ⟨Nat.le_of_ble_eq_true rfl, Nat.le_of_ble_eq_true rfl⟩) ⟨fun a U g mk q => by obtain ⟨q0, q1, qP, qK, qD⟩ := q; exact ⟨q0, q1, qP, va_K.moved (u := U) (U := U.calling g mk a) (Vm.Alike.refl U.vm) qK, qD⟩, va_recv hK hP (ci := 15) (q0 := 1) rfl rfl, fun U hU hW => ⟨rfl, by rw [hU], by rw [hU]; exact hPc, va_K.moved hW.alike hKc, hDc.weaken (fun _ _ _ _ => trivial)⟩⟩ rfl rfl hl.1 rfl (lv_room (Nat.le_of_ble_eq_true rfl)) dL_law_1743 ⟨Nat.le_of_ble_eq_true rfl, Nat.le_of_ble_eq_true rfl⟩) hS (fun q _ h => hFc q h) hFc (fun r236 u t H1 locs ht hvm hw hB hz1 hk1 hS => ?_)
        obtain ⟨hP1, hK1, hD1⟩ := hB
        rw [ht] at hP1
        try dsimp only at hw
        obtain ⟨hP, hD⟩ := va_join (wr := [(qO, .inl (kO, 1, .inr (.inl f104))), (q_placeIn, .inl (k_placeIn, 400, .inl f202)), (q_things, .inl (k_things, 5, .inl f203)), (q_lostMany, .inl (k_lostMany, 5, .inl f204)), (q_ringMany, .inl (k_ringMany, 5, .inl f205)), (q_groupMany, .inl (k_groupMany, 5, .inl f206)), (q_rootMany, .inl (k_rootMany, 5, .inl f207))]) (w1 := [(aZ, .inr (15, s201))]) hP hD [1] [0, 2, 3, 4, 5, 6, 7] rfl rfl (by decide) (by decide) hk1 hFc hP1 hD1
        have hK := hK.sub (tys' := [(kO, .long), (k_placeIn, .int), (k_things, .int), (k_lostMany, .int), (k_ringMany, .int), (k_groupMany, .int), (k_rootMany, .int)]) [0, 1, 2, 3, 4, 5, 6] rfl
        generalize H1 = H at hP hS ⊢
        have hP : va_P (dC, dI) vwCl [(qO, .inl (kO, 1, .inr (.inl f104))), (q_placeIn, .inl (k_placeIn, 400, .inl f202)), (q_things, .inl (k_things, 5, .inl f203)), (q_lostMany, .inl (k_lostMany, 5, .inl f204)), (q_ringMany, .inl (k_ringMany, 5, .inl f205)), (q_groupMany, .inl (k_groupMany, 5, .inl f206)), (q_rootMany, .inl (k_rootMany, 5, .inl f207)), (aZ, .inr (15, s201))] H := hP
        have hD : va_D A [(qO, .inl (kO, 1, .inr (.inl f104))), (q_placeIn, .inl (k_placeIn, 400, .inl f202)), (q_things, .inl (k_things, 5, .inl f203)), (q_lostMany, .inl (k_lostMany, 5, .inl f204)), (q_ringMany, .inl (k_ringMany, 5, .inl f205)), (q_groupMany, .inl (k_groupMany, 5, .inl f206)), (q_rootMany, .inl (k_rootMany, 5, .inl f207)), (aZ, .inr (15, s201))] := hD
        have er237 := hw
        subst er237
        refine lv_iload hx hb dL_law_1746 (lv_at hl 1 rfl) ?_
        refine lv_icmp_eq (tgt := 1753) hx hb dL_law_1748 (by decide) (fun c238 => ?_) (fun c238 => absurd c238 (by decide))
        refine lv_iload hx hb dL_law_1753 (lv_at hl 1 rfl) ?_
        refine lv_if_ne (tgt := 1770) hx hb dL_law_1755 (by decide) (fun c239 => absurd c239 (by decide)) (fun c239 => ?_)
        refine lv_aload_n hx hb dL_law_1758 rfl (lv_at hl 5 rfl) ?_
        refine lv_iconst (v := 0) hx hb dL_law_1759 (by decide) ?_
        refine va_lald hx hb hK hP 0 0 rfl rfl (show vp_in 0 1 from by unfold vp_in; decide) dL_law_1760 ?_
        refine lv_topl (fun x240 ex240 => ?_)
        obtain rfl : 0 = x240 := (ex240.trans q113).symm
        refine lv_iload hx hb dL_law_1761 (lv_at hl 0 rfl) ?_
        refine lv_i2l hx hb dL_law_1763 rfl ?_
        refine lv_topl (fun x241 ex241 => ?_)
        obtain rfl : x241 = 0 := ex241.trans (by decide)
        refine W.lcmp hx hb dL_law_1764  ?_
        refine lv_topi (fun x242 ex242 => ?_)
        obtain rfl : x242 = 0 := ex242.trans (by decide)
        refine lv_if_eq (tgt := 1770) hx hb dL_law_1765 (by decide) (fun c243 => ?_) (fun c243 => absurd c243 (by decide))
        refine lv_goto (tgt := 3111) hx hb dL_law_1770 (by decide) ?_
        exact lw_end hst C0 hA hAf hZ hY (Nat.le_of_ble_eq_true rfl) (Nat.le_of_ble_eq_true rfl) dC dI P0k P0 D0 hS ls (lv_sub hl [2, 6] rfl)

set_option maxRecDepth 20000 in
theorem g_lk_27_z_X11_thing_231 : GoodIn lwW (wsV RL 231 RX11 yX11_thing w_z_X11_thing) := goodIn_app (goodIn_sub (ws := ([.methodLink RL 231 yX11_thing, .instanceMethod yX11_thing, .selects RX11 yX11_thing yX11_thing, .initialized RX11] : List Cond)) (gm_c (gm_at lwV_59_in 9 rfl) (gm_c (gm_at lwV_59_in 10 rfl) (gm_c (gm_at lwV_59_in 11 rfl) (gm_c (gm_at lwV_0_in 3 rfl) gm_nil)))) (by decide +kernel)) (goodIn_ca (goodIn_sub (ws := .code yX11_thing cX11_thing 5 (some .int) :: l_z_X11_thing) (gm_c (gm_at lwV_60_in 3 rfl) (gm_c (gm_at lwV_60_in 4 rfl) (gm_c (gm_at lwV_60_in 5 rfl) (gm_c (gm_at lwV_60_in 6 rfl) (gm_c (gm_at lwV_0_in 3 rfl) (gm_c (gm_at lwV_60_in 7 rfl) (gm_c (gm_at lwV_55_in 7 rfl) (gm_c (gm_at lwV_55_in 8 rfl) (gm_c (gm_at lwV_55_in 0 rfl) (gm_c (gm_at lwV_55_in 5 rfl) (gm_c (gm_at lwV_55_in 9 rfl) gm_nil))))))))))) (by decide +kernel)) (goodIn_app (goodIn_in il_X11 gd_X11) (goodIn_in il_X5 gd_X5)))
set_option maxRecDepth 20000 in
theorem g_lk_27_z_X12_thing_234 : GoodIn lwW (wsV RL 234 RX12 yX12_thing w_z_X12_thing) := goodIn_app (goodIn_sub (ws := ([.methodLink RL 234 yX12_thing, .instanceMethod yX12_thing, .selects RX12 yX12_thing yX12_thing, .initialized RX12] : List Cond)) (gm_c (gm_at lwV_60_in 0 rfl) (gm_c (gm_at lwV_60_in 1 rfl) (gm_c (gm_at lwV_60_in 2 rfl) (gm_c (gm_at lwV_0_in 7 rfl) gm_nil)))) (by decide +kernel)) (goodIn_ca (goodIn_sub (ws := .code yX12_thing cX12_thing 5 (some .int) :: l_z_X12_thing) (gm_c (gm_at lwV_60_in 8 rfl) (gm_c (gm_at lwV_1_in 5 rfl) (gm_c (gm_at lwV_60_in 9 rfl) (gm_c (gm_at lwV_60_in 10 rfl) (gm_c (gm_at lwV_60_in 11 rfl) (gm_c (gm_at lwV_0_in 7 rfl) (gm_c (gm_at lwV_61_in 0 rfl) (gm_c (gm_at lwV_57_in 0 rfl) (gm_c (gm_at lwV_57_in 1 rfl) (gm_c (gm_at lwV_57_in 2 rfl) (gm_c (gm_at lwV_57_in 9 rfl) (gm_c (gm_at lwV_57_in 10 rfl) gm_nil)))))))))))) (by decide +kernel)) (goodIn_in il_X12 gd_X12))
set_option maxHeartbeats 4000000 in
set_option maxRecDepth 100000 in
/-- the law, one call: thing -/
theorem lk_27 {p : Program} {l : Launch} {e : Env} {s : State} {m : MethodId} {below : List Frame} {meth : Method} {c : Code} {b : Nat} {xs : Nat → Int32} (hst : l.stackTraces = false) (C0 : lw_At p s m meth c b 6 xs) {A : Nat → Prop} (hA : ∀ q : Nat, s.heap.size ≤ q → A q) (hAf : ∀ q : Nat, A q → s.heap.size ≤ q) (hZ : Zz A s) (hY : Yy s) (dC : Nat → ClassId) (dI : Nat → Nat → Nat) (aX : Nat) (fsX : List Value) (qP : Nat) (gP : Nat → Option Nat) (kP : ClassId) (ap : Nat) (fsp : List Value) (aZ : Nat) (fsZ : List Value) (q_things : Nat) (f_things : Nat → Int32) (k_things : ClassId) (qO : Nat) (w1 : Int32) (hw1 : w1 = xs (1 : Int32).toNatClampNeg) (w2 : Int32) (hw2 : w2 = xs (2 : Int32).toNatClampNeg) (w3 : Int32) (hw3 : w3 = xs (3 : Int32).toNatClampNeg) (w4 : Int32) (hw4 : w4 = xs (4 : Int32).toNatClampNeg) (w5 : Int32) (hw5 : w5 = xs (5 : Int32).toNatClampNeg) (k_fsX : fh fsX 18 [(4, .ref qP)]) (k_fsp : fh fsp 21 [(0, .int 0)]) (k_fsZ : fh fsZ 150 [(48, .ref q_things)]) (hg : gP w1.toNatClampNeg = some ap) (hz_f_things : ∀ j, f_things j = 0) {H : Heap} {locs : List Loc} (hK : va_K (dC, dI) vwCl [(kP, .object "HeapWorks$Picture"), (k_things, .int)] s) (hP : va_P (dC, dI) vwCl [(aX, .inr (14, fsX)), (qP, .inl (kP, 4, .inr (.inr (.inr (.inr gP))))), (ap, .inr (8, fsp)), (aZ, .inr (15, fsZ)), (q_things, .inl (k_things, 5, .inl f_things))] H) (hD : va_D A [(aX, .inr (14, fsX)), (qP, .inl (kP, 4, .inr (.inr (.inr (.inr gP))))), (ap, .inr (8, fsp)), (aZ, .inr (15, fsZ)), (q_things, .inl (k_things, 5, .inl f_things))]) (hS : va_S A s.heap H locs) (ls : Array Slot) (hl : lv_has ls 8 [(0, .ref b), (1, .ref aX), (2, .ref aZ), (3, .ref qO), (4, .int 0)]) : W p l e room_1 s m #[Value.ref b] below meth c H locs 390 571359 (lw_Z below #[Value.ref b] s) (F0 m 1773 ls []) := by
  obtain ⟨hx, hb, hr, hml, hown0, hts0, hX, hbl, hlocks, hgv⟩ := id C0
  have hown : s.vm.findClass RL = some m.cls := hown0
  have hts : ∀ w ∈ lwW, w.before #[Value.ref b] s = true := fun w h => hts0 w (lwW_in w h)
  have hbA : ¬ A b := fun h => absurd (hAf b h) (Nat.not_le.mpr hbl)
  have o_fsX := ow_0 k_fsX
  have o_fsp := ow_0 k_fsp
  have o_fsZ := ow_0 k_fsZ
  refine lv_aload_n hx hb dL_law_1773 rfl (lv_at hl 1 rfl) ?_
  refine lv_aload_n hx hb dL_law_1774 rfl (lv_at hl 0 rfl) ?_
  refine lv_iload hx hb dL_law_1775 (lv_at hl 4 rfl) ?_
  refine lv_iconst (v := 1) hx hb dL_law_1777 (by decide) ?_
  refine lv_iadd hx hb dL_law_1778  ?_
  refine lv_topi (fun x101 ex101 => ?_)
  obtain rfl : x101 = 1 := ex101.trans (by decide)
  refine va_sld hx hb hX hbl hbA hS (show vp_in 1 6 from by unfold vp_in; decide) dL_law_1779 ?_
  refine lv_topi (fun x102 ex102 => ?_)
  obtain rfl : w1 = x102 := hw1.trans ex102.symm
  refine lv_aload_n hx hb dL_law_1780 rfl (lv_at hl 0 rfl) ?_
  refine lv_iload hx hb dL_law_1781 (lv_at hl 4 rfl) ?_
  refine lv_iconst (v := 2) hx hb dL_law_1783 (by decide) ?_
  refine lv_iadd hx hb dL_law_1784  ?_
  refine lv_topi (fun x103 ex103 => ?_)
  obtain rfl : x103 = 2 := ex103.trans (by decide)
  refine va_sld hx hb hX hbl hbA hS (show vp_in 2 6 from by unfold vp_in; decide) dL_law_1785 ?_
  refine lv_topi (fun x104 ex104 => ?_)
  obtain rfl : w2 = x104 := hw2.trans ex104.symm
  refine lv_aload_n hx hb dL_law_1786 rfl (lv_at hl 0 rfl) ?_
  refine lv_iload hx hb dL_law_1787 (lv_at hl 4 rfl) ?_
  refine lv_iconst (v := 3) hx hb dL_law_1789 (by decide) ?_
  refine lv_iadd hx hb dL_law_1790  ?_
  refine lv_topi (fun x105 ex105 => ?_)
  obtain rfl : x105 = 3 := ex105.trans (by decide)
  refine va_sld hx hb hX hbl hbA hS (show vp_in 3 6 from by unfold vp_in; decide) dL_law_1791 ?_
  refine lv_topi (fun x106 ex106 => ?_)
  obtain rfl : w3 = x106 := hw3.trans ex106.symm
  have hPc := hP.sub (ws' := [(aX, .inr (14, fsX)), (qP, .inl (kP, 4, .inr (.inr (.inr (.inr gP))))), (ap, .inr (8, fsp))]) [0, 1, 2] rfl
  have hDc := hD.sub (ws' := [(aX, .inr (14, fsX)), (qP, .inl (kP, 4, .inr (.inr (.inr (.inr gP))))), (ap, .inr (8, fsp))]) [0, 1, 2] (by decide) rfl
  have hKc := hK.sub (tys' := [(kP, .object "HeapWorks$Picture")]) [0] rfl
  have hFc := va_free (wc := [(aX, .inr (14, fsX)), (qP, .inl (kP, 4, .inr (.inr (.inr (.inr gP))))), (ap, .inr (8, fsp))]) hD hS hA [0, 1, 2] rfl
  refine va_calli (va_runV (As := [.int w1, .int w2, .int w3]) (rest := []) ⟨hx, hb, hml, hown, hts⟩ (z_X11_thing l dC dI H.size aX fsX qP gP kP ap fsp w1 w2 w3 (fh_sub o_fsX.2 [0] rfl) (fh_sub o_fsp.2 [0] rfl) hg) (cwV 3 hts g_lk_27_z_X11_thing_231 rfl rfl rfl (by decide +kernel) ⟨Nat.le_of_ble_eq_true rfl, Nat.le_of_ble_eq_true rfl⟩) ⟨fun a U g mk q => by obtain ⟨q0, q1, qP, qK, qD⟩ := q; exact ⟨q0, q1, qP, va_K.moved (u := U) (U := U.calling g mk a) (Vm.Alike.refl U.vm) qK, qD⟩, va_recv hK hP (ci := 14) (q0 := 0) rfl rfl, fun U hU hW => ⟨rfl, by rw [hU], by rw [hU]; exact hPc, va_K.moved hW.alike hKc, hDc.weaken (fun _ _ _ _ => trivial)⟩⟩ rfl rfl hl.1 rfl (lv_room (Nat.le_of_ble_eq_true rfl)) dL_law_1792 ⟨Nat.le_of_ble_eq_true rfl, Nat.le_of_ble_eq_true rfl⟩) hS (fun q _ h => hFc q h) hFc (fun r107 u t H1 locs ht hvm hw hB hz1 hk1 hS => ?_)
  obtain ⟨hP1, hK1, hD1⟩ := hB
  rw [ht] at hP1
  try dsimp only at hw
  obtain ⟨hP, hD⟩ := va_join (wr := [(aZ, .inr (15, fsZ)), (q_things, .inl (k_things, 5, .inl f_things))]) (w1 := [(aX, .inr (14, fsX)), (qP, .inl (kP, 4, .inr (.inr (.inr (.inr gP))))), (ap, .inr (8, fsp))]) hP hD [0, 1, 2] [3, 4] rfl rfl (by decide) (by decide) hk1 hFc hP1 hD1
  have hK := hK.sub (tys' := [(k_things, .int), (kP, .object "HeapWorks$Picture")]) [1, 0] rfl
  generalize H1 = H at hP hS ⊢
  have hP : va_P (dC, dI) vwCl [(aZ, .inr (15, fsZ)), (q_things, .inl (k_things, 5, .inl f_things)), (aX, .inr (14, fsX)), (qP, .inl (kP, 4, .inr (.inr (.inr (.inr gP))))), (ap, .inr (8, fsp))] H := hP
  have hD : va_D A [(aZ, .inr (15, fsZ)), (q_things, .inl (k_things, 5, .inl f_things)), (aX, .inr (14, fsX)), (qP, .inl (kP, 4, .inr (.inr (.inr (.inr gP))))), (ap, .inr (8, fsp))] := hD
  rcases hw with ⟨c108, er109⟩ | ⟨c110, c111, er112⟩ | ⟨c113, c114, c115, er116⟩ | ⟨c117, c118, c119, c120, er121⟩
  · skip
    subst er109
    refine lv_aload_n hx hb dL_law_1795 rfl (lv_at hl 2 rfl) ?_
    refine lv_aload_n hx hb dL_law_1796 rfl (lv_at hl 0 rfl) ?_
    refine lv_iload hx hb dL_law_1797 (lv_at hl 4 rfl) ?_
    refine lv_iconst (v := 1) hx hb dL_law_1799 (by decide) ?_
    refine lv_iadd hx hb dL_law_1800  ?_
    refine lv_topi (fun x122 ex122 => ?_)
    obtain rfl : x122 = 1 := ex122.trans (by decide)
    refine va_sld hx hb hX hbl hbA hS (show vp_in 1 6 from by unfold vp_in; decide) dL_law_1801 ?_
    refine lv_topi (fun x123 ex123 => ?_)
    obtain rfl : w1 = x123 := hw1.trans ex123.symm
    refine lv_aload_n hx hb dL_law_1802 rfl (lv_at hl 0 rfl) ?_
    refine lv_iload hx hb dL_law_1803 (lv_at hl 4 rfl) ?_
    refine lv_iconst (v := 2) hx hb dL_law_1805 (by decide) ?_
    refine lv_iadd hx hb dL_law_1806  ?_
    refine lv_topi (fun x124 ex124 => ?_)
    obtain rfl : x124 = 2 := ex124.trans (by decide)
    refine va_sld hx hb hX hbl hbA hS (show vp_in 2 6 from by unfold vp_in; decide) dL_law_1807 ?_
    refine lv_topi (fun x125 ex125 => ?_)
    obtain rfl : w2 = x125 := hw2.trans ex125.symm
    refine lv_aload_n hx hb dL_law_1808 rfl (lv_at hl 0 rfl) ?_
    refine lv_iload hx hb dL_law_1809 (lv_at hl 4 rfl) ?_
    refine lv_iconst (v := 3) hx hb dL_law_1811 (by decide) ?_
    refine lv_iadd hx hb dL_law_1812  ?_
    refine lv_topi (fun x126 ex126 => ?_)
    obtain rfl : x126 = 3 := ex126.trans (by decide)
    refine va_sld hx hb hX hbl hbA hS (show vp_in 3 6 from by unfold vp_in; decide) dL_law_1813 ?_
    refine lv_topi (fun x127 ex127 => ?_)
    obtain rfl : w3 = x127 := hw3.trans ex127.symm
    have hPc := hP.sub (ws' := [(aZ, .inr (15, fsZ)), (q_things, .inl (k_things, 5, .inl f_things))]) [0, 1] rfl
    have hDc := hD.sub (ws' := [(aZ, .inr (15, fsZ)), (q_things, .inl (k_things, 5, .inl f_things))]) [0, 1] (by decide) rfl
    have hKc := hK.sub (tys' := [(k_things, .int)]) [0] rfl
    have hFc := va_free (wc := [(aZ, .inr (15, fsZ)), (q_things, .inl (k_things, 5, .inl f_things))]) hD hS hA [0, 1] rfl
    refine va_calli (va_runV (As := [.int w1, .int w2, .int w3]) (rest := [.int (-1)]) ⟨hx, hb, hml, hown, hts⟩ (z_X12_thing l dC dI H.size aZ fsZ q_things f_things k_things w1 w2 w3 (fh_sub o_fsZ.2 [0] rfl) hz_f_things) (cwV 3 hts g_lk_27_z_X12_thing_234 rfl rfl rfl (by decide +kernel) ⟨Nat.le_of_ble_eq_true rfl, Nat.le_of_ble_eq_true rfl⟩) ⟨fun a U g mk q => by obtain ⟨q0, q1, qP, qK, qD⟩ := q; exact ⟨q0, q1, qP, va_K.moved (u := U) (U := U.calling g mk a) (Vm.Alike.refl U.vm) qK, qD⟩, va_recv hK hP (ci := 15) (q0 := 0) rfl rfl, fun U hU hW => ⟨rfl, by rw [hU], by rw [hU]; exact hPc, va_K.moved hW.alike hKc, hDc.weaken (fun _ _ _ _ => trivial)⟩⟩ rfl rfl hl.1 rfl (lv_room (Nat.le_of_ble_eq_true rfl)) dL_law_1814 ⟨Nat.le_of_ble_eq_true rfl, Nat.le_of_ble_eq_true rfl⟩) hS (fun q _ h => hFc q h) hFc (fun r128 u t H1 locs ht hvm hw hB hz1 hk1 hS => ?_)
    obtain ⟨s129, rfl⟩ : ∃ z, z = u := ⟨_, rfl⟩
    obtain ⟨hP1, hK1, hD1⟩ := hB
    rw [ht] at hP1
    try dsimp only at hw
    obtain ⟨hP, hD⟩ := va_join (wr := [(aX, .inr (14, fsX)), (qP, .inl (kP, 4, .inr (.inr (.inr (.inr gP))))), (ap, .inr (8, fsp))]) (w1 := [(aZ, .inr (15, s129)), (q_things, .inl (k_things, 5, .inl f_things))]) hP hD [0, 1] [2, 3, 4] rfl rfl (by decide) (by decide) hk1 hFc hP1 hD1
    have hK := hK.sub (tys' := [(kP, .object "HeapWorks$Picture"), (k_things, .int)]) [1, 0] rfl
    generalize H1 = H at hP hS ⊢
    have hP : va_P (dC, dI) vwCl [(aX, .inr (14, fsX)), (qP, .inl (kP, 4, .inr (.inr (.inr (.inr gP))))), (ap, .inr (8, fsp)), (aZ, .inr (15, s129)), (q_things, .inl (k_things, 5, .inl f_things))] H := hP
    have hD : va_D A [(aX, .inr (14, fsX)), (qP, .inl (kP, 4, .inr (.inr (.inr (.inr gP))))), (ap, .inr (8, fsp)), (aZ, .inr (15, s129)), (q_things, .inl (k_things, 5, .inl f_things))] := hD
    rcases hw with ⟨c130, er131, o_s129⟩ | ⟨c132, c133, er134, o_s129⟩ | ⟨c135, c136, c137, er138, o_s129⟩ | ⟨c139, c140, c141, c142, er143, o_s129⟩
    · skip
      subst er131
      have o_s129 := ow_on o_fsZ o_s129 (l' := [(0, .int 0), (48, .ref q_things), (48, .ref q_things)]) (w' := [0]) rfl rfl
      refine lv_icmp_eq (tgt := 3111) hx hb dL_law_1817 (by decide) (fun c144 => ?_) (fun c144 => absurd c144 (by decide))
      exact lw_end hst C0 hA hAf hZ hY (Nat.le_of_ble_eq_true rfl) (Nat.le_of_ble_eq_true rfl) dC dI P0k P0 D0 hS ls (lv_sub hl [0, 4] rfl)
    · exact (by exfalso; (try simp only [i_lt, i_le, i_eq, kc_0, kc_4] at c108 c132 c133); omega)
    · exact (by exfalso; (try simp only [i_lt, i_le, i_eq, kc_0, kc_4] at c108 c135 c136); omega)
    · exact (by exfalso; (try simp only [i_lt, i_le, i_eq, kc_0, kc_4] at c108 c139 c140); omega)
  · skip
    subst er112
    refine lv_aload_n hx hb dL_law_1795 rfl (lv_at hl 2 rfl) ?_
    refine lv_aload_n hx hb dL_law_1796 rfl (lv_at hl 0 rfl) ?_
    refine lv_iload hx hb dL_law_1797 (lv_at hl 4 rfl) ?_
    refine lv_iconst (v := 1) hx hb dL_law_1799 (by decide) ?_
    refine lv_iadd hx hb dL_law_1800  ?_
    refine lv_topi (fun x145 ex145 => ?_)
    obtain rfl : x145 = 1 := ex145.trans (by decide)
    refine va_sld hx hb hX hbl hbA hS (show vp_in 1 6 from by unfold vp_in; decide) dL_law_1801 ?_
    refine lv_topi (fun x146 ex146 => ?_)
    obtain rfl : w1 = x146 := hw1.trans ex146.symm
    refine lv_aload_n hx hb dL_law_1802 rfl (lv_at hl 0 rfl) ?_
    refine lv_iload hx hb dL_law_1803 (lv_at hl 4 rfl) ?_
    refine lv_iconst (v := 2) hx hb dL_law_1805 (by decide) ?_
    refine lv_iadd hx hb dL_law_1806  ?_
    refine lv_topi (fun x147 ex147 => ?_)
    obtain rfl : x147 = 2 := ex147.trans (by decide)
    refine va_sld hx hb hX hbl hbA hS (show vp_in 2 6 from by unfold vp_in; decide) dL_law_1807 ?_
    refine lv_topi (fun x148 ex148 => ?_)
    obtain rfl : w2 = x148 := hw2.trans ex148.symm
    refine lv_aload_n hx hb dL_law_1808 rfl (lv_at hl 0 rfl) ?_
    refine lv_iload hx hb dL_law_1809 (lv_at hl 4 rfl) ?_
    refine lv_iconst (v := 3) hx hb dL_law_1811 (by decide) ?_
    refine lv_iadd hx hb dL_law_1812  ?_
    refine lv_topi (fun x149 ex149 => ?_)
    obtain rfl : x149 = 3 := ex149.trans (by decide)
    refine va_sld hx hb hX hbl hbA hS (show vp_in 3 6 from by unfold vp_in; decide) dL_law_1813 ?_
    refine lv_topi (fun x150 ex150 => ?_)
    obtain rfl : w3 = x150 := hw3.trans ex150.symm
    have hPc := hP.sub (ws' := [(aZ, .inr (15, fsZ)), (q_things, .inl (k_things, 5, .inl f_things))]) [0, 1] rfl
    have hDc := hD.sub (ws' := [(aZ, .inr (15, fsZ)), (q_things, .inl (k_things, 5, .inl f_things))]) [0, 1] (by decide) rfl
    have hKc := hK.sub (tys' := [(k_things, .int)]) [0] rfl
    have hFc := va_free (wc := [(aZ, .inr (15, fsZ)), (q_things, .inl (k_things, 5, .inl f_things))]) hD hS hA [0, 1] rfl
    refine va_calli (va_runV (As := [.int w1, .int w2, .int w3]) (rest := [.int (-1)]) ⟨hx, hb, hml, hown, hts⟩ (z_X12_thing l dC dI H.size aZ fsZ q_things f_things k_things w1 w2 w3 (fh_sub o_fsZ.2 [0] rfl) hz_f_things) (cwV 3 hts g_lk_27_z_X12_thing_234 rfl rfl rfl (by decide +kernel) ⟨Nat.le_of_ble_eq_true rfl, Nat.le_of_ble_eq_true rfl⟩) ⟨fun a U g mk q => by obtain ⟨q0, q1, qP, qK, qD⟩ := q; exact ⟨q0, q1, qP, va_K.moved (u := U) (U := U.calling g mk a) (Vm.Alike.refl U.vm) qK, qD⟩, va_recv hK hP (ci := 15) (q0 := 0) rfl rfl, fun U hU hW => ⟨rfl, by rw [hU], by rw [hU]; exact hPc, va_K.moved hW.alike hKc, hDc.weaken (fun _ _ _ _ => trivial)⟩⟩ rfl rfl hl.1 rfl (lv_room (Nat.le_of_ble_eq_true rfl)) dL_law_1814 ⟨Nat.le_of_ble_eq_true rfl, Nat.le_of_ble_eq_true rfl⟩) hS (fun q _ h => hFc q h) hFc (fun r151 u t H1 locs ht hvm hw hB hz1 hk1 hS => ?_)
    obtain ⟨s152, rfl⟩ : ∃ z, z = u := ⟨_, rfl⟩
    obtain ⟨hP1, hK1, hD1⟩ := hB
    rw [ht] at hP1
    try dsimp only at hw
    obtain ⟨hP, hD⟩ := va_join (wr := [(aX, .inr (14, fsX)), (qP, .inl (kP, 4, .inr (.inr (.inr (.inr gP))))), (ap, .inr (8, fsp))]) (w1 := [(aZ, .inr (15, s152)), (q_things, .inl (k_things, 5, .inl f_things))]) hP hD [0, 1] [2, 3, 4] rfl rfl (by decide) (by decide) hk1 hFc hP1 hD1
    have hK := hK.sub (tys' := [(kP, .object "HeapWorks$Picture"), (k_things, .int)]) [1, 0] rfl
    generalize H1 = H at hP hS ⊢
    have hP : va_P (dC, dI) vwCl [(aX, .inr (14, fsX)), (qP, .inl (kP, 4, .inr (.inr (.inr (.inr gP))))), (ap, .inr (8, fsp)), (aZ, .inr (15, s152)), (q_things, .inl (k_things, 5, .inl f_things))] H := hP
    have hD : va_D A [(aX, .inr (14, fsX)), (qP, .inl (kP, 4, .inr (.inr (.inr (.inr gP))))), (ap, .inr (8, fsp)), (aZ, .inr (15, s152)), (q_things, .inl (k_things, 5, .inl f_things))] := hD
    rcases hw with ⟨c153, er154, o_s152⟩ | ⟨c155, c156, er157, o_s152⟩ | ⟨c158, c159, c160, er161, o_s152⟩ | ⟨c162, c163, c164, c165, er166, o_s152⟩
    · exact (by exfalso; (try simp only [i_lt, i_le, i_eq, kc_0, kc_4] at c110 c111 c153); omega)
    · skip
      subst er157
      have o_s152 := ow_on o_fsZ o_s152 (l' := [(0, .int 0), (48, .ref q_things), (48, .ref q_things)]) (w' := [0]) rfl rfl
      refine lv_icmp_eq (tgt := 3111) hx hb dL_law_1817 (by decide) (fun c167 => ?_) (fun c167 => absurd c167 (by decide))
      exact lw_end hst C0 hA hAf hZ hY (Nat.le_of_ble_eq_true rfl) (Nat.le_of_ble_eq_true rfl) dC dI P0k P0 D0 hS ls (lv_sub hl [0, 4] rfl)
    · exact (by exfalso; (try simp only [i_lt, i_le, i_eq, kc_0, kc_4] at c110 c111 c158 c159); omega)
    · exact (by exfalso; (try simp only [i_lt, i_le, i_eq, kc_0, kc_4] at c110 c111 c162 c163); omega)
  · skip
    subst er116
    refine lv_aload_n hx hb dL_law_1795 rfl (lv_at hl 2 rfl) ?_
    refine lv_aload_n hx hb dL_law_1796 rfl (lv_at hl 0 rfl) ?_
    refine lv_iload hx hb dL_law_1797 (lv_at hl 4 rfl) ?_
    refine lv_iconst (v := 1) hx hb dL_law_1799 (by decide) ?_
    refine lv_iadd hx hb dL_law_1800  ?_
    refine lv_topi (fun x168 ex168 => ?_)
    obtain rfl : x168 = 1 := ex168.trans (by decide)
    refine va_sld hx hb hX hbl hbA hS (show vp_in 1 6 from by unfold vp_in; decide) dL_law_1801 ?_
    refine lv_topi (fun x169 ex169 => ?_)
    obtain rfl : w1 = x169 := hw1.trans ex169.symm
    refine lv_aload_n hx hb dL_law_1802 rfl (lv_at hl 0 rfl) ?_
    refine lv_iload hx hb dL_law_1803 (lv_at hl 4 rfl) ?_
    refine lv_iconst (v := 2) hx hb dL_law_1805 (by decide) ?_
    refine lv_iadd hx hb dL_law_1806  ?_
    refine lv_topi (fun x170 ex170 => ?_)
    obtain rfl : x170 = 2 := ex170.trans (by decide)
    refine va_sld hx hb hX hbl hbA hS (show vp_in 2 6 from by unfold vp_in; decide) dL_law_1807 ?_
    refine lv_topi (fun x171 ex171 => ?_)
    obtain rfl : w2 = x171 := hw2.trans ex171.symm
    refine lv_aload_n hx hb dL_law_1808 rfl (lv_at hl 0 rfl) ?_
    refine lv_iload hx hb dL_law_1809 (lv_at hl 4 rfl) ?_
    refine lv_iconst (v := 3) hx hb dL_law_1811 (by decide) ?_
    refine lv_iadd hx hb dL_law_1812  ?_
    refine lv_topi (fun x172 ex172 => ?_)
    obtain rfl : x172 = 3 := ex172.trans (by decide)
    refine va_sld hx hb hX hbl hbA hS (show vp_in 3 6 from by unfold vp_in; decide) dL_law_1813 ?_
    refine lv_topi (fun x173 ex173 => ?_)
    obtain rfl : w3 = x173 := hw3.trans ex173.symm
    have hPc := hP.sub (ws' := [(aZ, .inr (15, fsZ)), (q_things, .inl (k_things, 5, .inl f_things))]) [0, 1] rfl
    have hDc := hD.sub (ws' := [(aZ, .inr (15, fsZ)), (q_things, .inl (k_things, 5, .inl f_things))]) [0, 1] (by decide) rfl
    have hKc := hK.sub (tys' := [(k_things, .int)]) [0] rfl
    have hFc := va_free (wc := [(aZ, .inr (15, fsZ)), (q_things, .inl (k_things, 5, .inl f_things))]) hD hS hA [0, 1] rfl
    refine va_calli (va_runV (As := [.int w1, .int w2, .int w3]) (rest := [.int (-1)]) ⟨hx, hb, hml, hown, hts⟩ (z_X12_thing l dC dI H.size aZ fsZ q_things f_things k_things w1 w2 w3 (fh_sub o_fsZ.2 [0] rfl) hz_f_things) (cwV 3 hts g_lk_27_z_X12_thing_234 rfl rfl rfl (by decide +kernel) ⟨Nat.le_of_ble_eq_true rfl, Nat.le_of_ble_eq_true rfl⟩) ⟨fun a U g mk q => by obtain ⟨q0, q1, qP, qK, qD⟩ := q; exact ⟨q0, q1, qP, va_K.moved (u := U) (U := U.calling g mk a) (Vm.Alike.refl U.vm) qK, qD⟩, va_recv hK hP (ci := 15) (q0 := 0) rfl rfl, fun U hU hW => ⟨rfl, by rw [hU], by rw [hU]; exact hPc, va_K.moved hW.alike hKc, hDc.weaken (fun _ _ _ _ => trivial)⟩⟩ rfl rfl hl.1 rfl (lv_room (Nat.le_of_ble_eq_true rfl)) dL_law_1814 ⟨Nat.le_of_ble_eq_true rfl, Nat.le_of_ble_eq_true rfl⟩) hS (fun q _ h => hFc q h) hFc (fun r174 u t H1 locs ht hvm hw hB hz1 hk1 hS => ?_)
    obtain ⟨s175, rfl⟩ : ∃ z, z = u := ⟨_, rfl⟩
    obtain ⟨hP1, hK1, hD1⟩ := hB
    rw [ht] at hP1
    try dsimp only at hw
    obtain ⟨hP, hD⟩ := va_join (wr := [(aX, .inr (14, fsX)), (qP, .inl (kP, 4, .inr (.inr (.inr (.inr gP))))), (ap, .inr (8, fsp))]) (w1 := [(aZ, .inr (15, s175)), (q_things, .inl (k_things, 5, .inl f_things))]) hP hD [0, 1] [2, 3, 4] rfl rfl (by decide) (by decide) hk1 hFc hP1 hD1
    have hK := hK.sub (tys' := [(kP, .object "HeapWorks$Picture"), (k_things, .int)]) [1, 0] rfl
    generalize H1 = H at hP hS ⊢
    have hP : va_P (dC, dI) vwCl [(aX, .inr (14, fsX)), (qP, .inl (kP, 4, .inr (.inr (.inr (.inr gP))))), (ap, .inr (8, fsp)), (aZ, .inr (15, s175)), (q_things, .inl (k_things, 5, .inl f_things))] H := hP
    have hD : va_D A [(aX, .inr (14, fsX)), (qP, .inl (kP, 4, .inr (.inr (.inr (.inr gP))))), (ap, .inr (8, fsp)), (aZ, .inr (15, s175)), (q_things, .inl (k_things, 5, .inl f_things))] := hD
    rcases hw with ⟨c176, er177, o_s175⟩ | ⟨c178, c179, er180, o_s175⟩ | ⟨c181, c182, c183, er184, o_s175⟩ | ⟨c185, c186, c187, c188, er189, o_s175⟩
    · exact (by exfalso; (try simp only [i_lt, i_le, i_eq, kc_0, kc_4] at c113 c114 c176); omega)
    · exact (by exfalso; (try simp only [i_lt, i_le, i_eq, kc_0, kc_4] at c113 c114 c178 c179); omega)
    · skip
      subst er184
      have o_s175 := ow_on o_fsZ o_s175 (l' := [(0, .int 0), (48, .ref q_things), (48, .ref q_things)]) (w' := [0]) rfl rfl
      refine lv_icmp_eq (tgt := 3111) hx hb dL_law_1817 (by decide) (fun c190 => ?_) (fun c190 => absurd c190 (by decide))
      exact lw_end hst C0 hA hAf hZ hY (Nat.le_of_ble_eq_true rfl) (Nat.le_of_ble_eq_true rfl) dC dI P0k P0 D0 hS ls (lv_sub hl [0, 4] rfl)
    · exact (by exfalso; (try simp only [i_lt, i_le, i_eq, kc_0] at c115 c187 c188); omega)
  · skip
    subst er121
    refine lv_aload_n hx hb dL_law_1795 rfl (lv_at hl 2 rfl) ?_
    refine lv_aload_n hx hb dL_law_1796 rfl (lv_at hl 0 rfl) ?_
    refine lv_iload hx hb dL_law_1797 (lv_at hl 4 rfl) ?_
    refine lv_iconst (v := 1) hx hb dL_law_1799 (by decide) ?_
    refine lv_iadd hx hb dL_law_1800  ?_
    refine lv_topi (fun x191 ex191 => ?_)
    obtain rfl : x191 = 1 := ex191.trans (by decide)
    refine va_sld hx hb hX hbl hbA hS (show vp_in 1 6 from by unfold vp_in; decide) dL_law_1801 ?_
    refine lv_topi (fun x192 ex192 => ?_)
    obtain rfl : w1 = x192 := hw1.trans ex192.symm
    refine lv_aload_n hx hb dL_law_1802 rfl (lv_at hl 0 rfl) ?_
    refine lv_iload hx hb dL_law_1803 (lv_at hl 4 rfl) ?_
    refine lv_iconst (v := 2) hx hb dL_law_1805 (by decide) ?_
    refine lv_iadd hx hb dL_law_1806  ?_
    refine lv_topi (fun x193 ex193 => ?_)
    obtain rfl : x193 = 2 := ex193.trans (by decide)
    refine va_sld hx hb hX hbl hbA hS (show vp_in 2 6 from by unfold vp_in; decide) dL_law_1807 ?_
    refine lv_topi (fun x194 ex194 => ?_)
    obtain rfl : w2 = x194 := hw2.trans ex194.symm
    refine lv_aload_n hx hb dL_law_1808 rfl (lv_at hl 0 rfl) ?_
    refine lv_iload hx hb dL_law_1809 (lv_at hl 4 rfl) ?_
    refine lv_iconst (v := 3) hx hb dL_law_1811 (by decide) ?_
    refine lv_iadd hx hb dL_law_1812  ?_
    refine lv_topi (fun x195 ex195 => ?_)
    obtain rfl : x195 = 3 := ex195.trans (by decide)
    refine va_sld hx hb hX hbl hbA hS (show vp_in 3 6 from by unfold vp_in; decide) dL_law_1813 ?_
    refine lv_topi (fun x196 ex196 => ?_)
    obtain rfl : w3 = x196 := hw3.trans ex196.symm
    have hPc := hP.sub (ws' := [(aZ, .inr (15, fsZ)), (q_things, .inl (k_things, 5, .inl f_things))]) [0, 1] rfl
    have hDc := hD.sub (ws' := [(aZ, .inr (15, fsZ)), (q_things, .inl (k_things, 5, .inl f_things))]) [0, 1] (by decide) rfl
    have hKc := hK.sub (tys' := [(k_things, .int)]) [0] rfl
    have hFc := va_free (wc := [(aZ, .inr (15, fsZ)), (q_things, .inl (k_things, 5, .inl f_things))]) hD hS hA [0, 1] rfl
    refine va_calli (va_runV (As := [.int w1, .int w2, .int w3]) (rest := [.int (-1)]) ⟨hx, hb, hml, hown, hts⟩ (z_X12_thing l dC dI H.size aZ fsZ q_things f_things k_things w1 w2 w3 (fh_sub o_fsZ.2 [0] rfl) hz_f_things) (cwV 3 hts g_lk_27_z_X12_thing_234 rfl rfl rfl (by decide +kernel) ⟨Nat.le_of_ble_eq_true rfl, Nat.le_of_ble_eq_true rfl⟩) ⟨fun a U g mk q => by obtain ⟨q0, q1, qP, qK, qD⟩ := q; exact ⟨q0, q1, qP, va_K.moved (u := U) (U := U.calling g mk a) (Vm.Alike.refl U.vm) qK, qD⟩, va_recv hK hP (ci := 15) (q0 := 0) rfl rfl, fun U hU hW => ⟨rfl, by rw [hU], by rw [hU]; exact hPc, va_K.moved hW.alike hKc, hDc.weaken (fun _ _ _ _ => trivial)⟩⟩ rfl rfl hl.1 rfl (lv_room (Nat.le_of_ble_eq_true rfl)) dL_law_1814 ⟨Nat.le_of_ble_eq_true rfl, Nat.le_of_ble_eq_true rfl⟩) hS (fun q _ h => hFc q h) hFc (fun r197 u t H1 locs ht hvm hw hB hz1 hk1 hS => ?_)
    obtain ⟨s198, rfl⟩ : ∃ z, z = u := ⟨_, rfl⟩
    obtain ⟨hP1, hK1, hD1⟩ := hB
    rw [ht] at hP1
    try dsimp only at hw
    obtain ⟨hP, hD⟩ := va_join (wr := [(aX, .inr (14, fsX)), (qP, .inl (kP, 4, .inr (.inr (.inr (.inr gP))))), (ap, .inr (8, fsp))]) (w1 := [(aZ, .inr (15, s198)), (q_things, .inl (k_things, 5, .inl f_things))]) hP hD [0, 1] [2, 3, 4] rfl rfl (by decide) (by decide) hk1 hFc hP1 hD1
    have hK := hK.sub (tys' := [(kP, .object "HeapWorks$Picture"), (k_things, .int)]) [1, 0] rfl
    generalize H1 = H at hP hS ⊢
    have hP : va_P (dC, dI) vwCl [(aX, .inr (14, fsX)), (qP, .inl (kP, 4, .inr (.inr (.inr (.inr gP))))), (ap, .inr (8, fsp)), (aZ, .inr (15, s198)), (q_things, .inl (k_things, 5, .inl f_things))] H := hP
    have hD : va_D A [(aX, .inr (14, fsX)), (qP, .inl (kP, 4, .inr (.inr (.inr (.inr gP))))), (ap, .inr (8, fsp)), (aZ, .inr (15, s198)), (q_things, .inl (k_things, 5, .inl f_things))] := hD
    rcases hw with ⟨c199, er200, o_s198⟩ | ⟨c201, c202, er203, o_s198⟩ | ⟨c204, c205, c206, er207, o_s198⟩ | ⟨c208, c209, c210, c211, er212, o_s198⟩
    · exact (by exfalso; (try simp only [i_lt, i_le, i_eq, kc_0, kc_4] at c117 c118 c199); omega)
    · exact (by exfalso; (try simp only [i_lt, i_le, i_eq, kc_0, kc_4] at c117 c118 c201 c202); omega)
    · exact (by exfalso; (try simp only [i_lt, i_le, i_eq, kc_0] at c119 c120 c206); omega)
    · skip
      subst er212
      have o_s198 := ow_on o_fsZ o_s198 (l' := [(0, .int 0), (48, .ref q_things), (48, .ref q_things)]) (w' := [0]) rfl rfl
      refine lv_icmp_eq (tgt := 3111) hx hb dL_law_1817 (by decide) (fun c213 => ?_) (fun c213 => absurd c213 (by decide))
      exact lw_end hst C0 hA hAf hZ hY (Nat.le_of_ble_eq_true rfl) (Nat.le_of_ble_eq_true rfl) dC dI P0k P0 D0 hS ls (lv_sub hl [0, 4] rfl)

set_option maxRecDepth 20000 in
theorem g_lk_28_z_L_slot_235 : GoodIn lwW (va_wsS RL 235 yL_slot w_z_L_slot) := goodIn_app (goodIn_sub (ws := ([.methodLink RL 235 yL_slot, .static yL_slot, .initialized RL] : List Cond)) (gm_c (gm_at lwV_61_in 1 rfl) (gm_c (gm_at lwV_61_in 2 rfl) (gm_c (gm_at lwV_5_in 10 rfl) gm_nil))) (by decide +kernel)) (goodIn_ca (goodIn_sub (ws := .codeWith yL_slot cL_slot 6 (some .int) [(0, 11, 14, 30)] :: l_z_L_slot) (gm_c (gm_at lwV_61_in 6 rfl) (gm_c (gm_at lwV_61_in 7 rfl) (gm_c (gm_at lwV_61_in 8 rfl) (gm_c (gm_at lwV_61_in 9 rfl) (gm_c (gm_at lwV_0_in 3 rfl) (gm_c (gm_at lwV_19_in 11 rfl) (gm_c (gm_at lwV_61_in 10 rfl) (gm_c (gm_at lwV_60_in 4 rfl) (gm_c (gm_at lwV_60_in 5 rfl) (gm_c (gm_at lwV_60_in 6 rfl) (gm_c (gm_at lwV_20_in 4 rfl) (gm_c (gm_at lwV_20_in 5 rfl) (gm_c (gm_at lwV_60_in 7 rfl) (gm_c (gm_at lwV_55_in 7 rfl) (gm_c (gm_at lwV_55_in 8 rfl) (gm_c (gm_at lwV_55_in 0 rfl) (gm_c (gm_at lwV_55_in 5 rfl) (gm_c (gm_at lwV_55_in 9 rfl) gm_nil)))))))))))))))))) (by decide +kernel)) (goodIn_app (goodIn_in il_at0_X11_223 gd_at0_X11_223) (goodIn_app (goodIn_in il_X11 gd_X11) (goodIn_in il_X5 gd_X5))))
set_option maxRecDepth 20000 in
theorem g_lk_28_z_X12_slot_237 : GoodIn lwW (wsV RL 237 RX12 yX12_slot w_z_X12_slot) := goodIn_app (goodIn_sub (ws := ([.methodLink RL 237 yX12_slot, .instanceMethod yX12_slot, .selects RX12 yX12_slot yX12_slot, .initialized RX12] : List Cond)) (gm_c (gm_at lwV_61_in 3 rfl) (gm_c (gm_at lwV_61_in 4 rfl) (gm_c (gm_at lwV_61_in 5 rfl) (gm_c (gm_at lwV_0_in 7 rfl) gm_nil)))) (by decide +kernel)) (goodIn_ca (goodIn_sub (ws := .code yX12_slot cX12_slot 4 (some .long) :: l_z_X12_slot) (gm_c (gm_at lwV_61_in 11 rfl) (gm_c (gm_at lwV_60_in 9 rfl) (gm_c (gm_at lwV_60_in 10 rfl) (gm_c (gm_at lwV_60_in 11 rfl) (gm_c (gm_at lwV_0_in 7 rfl) (gm_c (gm_at lwV_1_in 5 rfl) (gm_c (gm_at lwV_61_in 0 rfl) (gm_c (gm_at lwV_57_in 0 rfl) (gm_c (gm_at lwV_57_in 1 rfl) (gm_c (gm_at lwV_57_in 2 rfl) (gm_c (gm_at lwV_57_in 9 rfl) (gm_c (gm_at lwV_57_in 10 rfl) gm_nil)))))))))))) (by decide +kernel)) (goodIn_in il_X12 gd_X12))
set_option maxRecDepth 20000 in
theorem g_lk_28_z_X12_thrown_149 : GoodIn lwW (wsV RL 149 RX12 yX12_thrown w_z_X12_thrown) := goodIn_app (goodIn_sub (ws := ([.methodLink RL 149 yX12_thrown, .instanceMethod yX12_thrown, .selects RX12 yX12_thrown yX12_thrown, .initialized RX12] : List Cond)) (gm_c (gm_at lwV_6_in 2 rfl) (gm_c (gm_at lwV_6_in 3 rfl) (gm_c (gm_at lwV_6_in 4 rfl) (gm_c (gm_at lwV_0_in 7 rfl) gm_nil)))) (by decide +kernel)) (goodIn_ca (goodIn_sub (ws := .code yX12_thrown cX12_thrown 1 (some .int) :: l_z_X12_thrown) (gm_c (gm_at lwV_9_in 9 rfl) (gm_c (gm_at lwV_1_in 5 rfl) gm_nil)) (by decide +kernel)) (goodIn_in il_X12 gd_X12))
set_option maxHeartbeats 4000000 in
set_option maxRecDepth 100000 in
/-- the law, one call: slot -/
theorem lk_28 {p : Program} {l : Launch} {e : Env} {s : State} {m : MethodId} {below : List Frame} {meth : Method} {c : Code} {b : Nat} {xs : Nat → Int32} (hst : l.stackTraces = false) (C0 : lw_At p s m meth c b 6 xs) {A : Nat → Prop} (hA : ∀ q : Nat, s.heap.size ≤ q → A q) (hAf : ∀ q : Nat, A q → s.heap.size ≤ q) (hZ : Zz A s) (hY : Yy s) (dC : Nat → ClassId) (dI : Nat → Nat → Nat) (aX : Nat) (fsX : List Value) (qP : Nat) (gP : Nat → Option Nat) (kP : ClassId) (ap : Nat) (fsp : List Value) (aZ : Nat) (fsZ : List Value) (q_things : Nat) (f_things : Nat → Int32) (k_things : ClassId) (qO : Nat) (w1 : Int32) (hw1 : w1 = xs (1 : Int32).toNatClampNeg) (w2 : Int32) (hw2 : w2 = xs (2 : Int32).toNatClampNeg) (w3 : Int32) (hw3 : w3 = xs (3 : Int32).toNatClampNeg) (w4 : Int32) (hw4 : w4 = xs (4 : Int32).toNatClampNeg) (w5 : Int32) (hw5 : w5 = xs (5 : Int32).toNatClampNeg) (k_fsX : fh fsX 18 [(4, .ref qP)]) (k_fsp : fh fsp 21 [(0, .int 0)]) (k_fsZ : fh fsZ 150 [(0, .int 0), (48, .ref q_things)]) (hg : gP w1.toNatClampNeg = some ap) (hz_f_things : ∀ j, f_things j = 0) {H : Heap} {locs : List Loc} (hK : va_K (dC, dI) vwCl [(kP, .object "HeapWorks$Picture"), (k_things, .int)] s) (hP : va_P (dC, dI) vwCl [(aX, .inr (14, fsX)), (qP, .inl (kP, 4, .inr (.inr (.inr (.inr gP))))), (ap, .inr (8, fsp)), (aZ, .inr (15, fsZ)), (q_things, .inl (k_things, 5, .inl f_things))] H) (hD : va_D A [(aX, .inr (14, fsX)), (qP, .inl (kP, 4, .inr (.inr (.inr (.inr gP))))), (ap, .inr (8, fsp)), (aZ, .inr (15, fsZ)), (q_things, .inl (k_things, 5, .inl f_things))]) (hS : va_S A s.heap H locs) (ls : Array Slot) (hl : lv_has ls 8 [(0, .ref b), (1, .ref aX), (2, .ref aZ), (3, .ref qO), (4, .int 0)]) : W p l e room_1 s m #[Value.ref b] below meth c H locs 390 571359 (lw_Z below #[Value.ref b] s) (F0 m 1822 ls []) := by
  obtain ⟨hx, hb, hr, hml, hown0, hts0, hX, hbl, hlocks, hgv⟩ := id C0
  have hown : s.vm.findClass RL = some m.cls := hown0
  have hts : ∀ w ∈ lwW, w.before #[Value.ref b] s = true := fun w h => hts0 w (lwW_in w h)
  have hbA : ¬ A b := fun h => absurd (hAf b h) (Nat.not_le.mpr hbl)
  have o_fsX := ow_0 k_fsX
  have o_fsp := ow_0 k_fsp
  have o_fsZ := ow_0 k_fsZ
  refine lv_aload_n hx hb dL_law_1822 rfl (lv_at hl 1 rfl) ?_
  refine lv_aload_n hx hb dL_law_1823 rfl (lv_at hl 0 rfl) ?_
  refine lv_iload hx hb dL_law_1824 (lv_at hl 4 rfl) ?_
  refine lv_iconst (v := 1) hx hb dL_law_1826 (by decide) ?_
  refine lv_iadd hx hb dL_law_1827  ?_
  refine lv_topi (fun x101 ex101 => ?_)
  obtain rfl : x101 = 1 := ex101.trans (by decide)
  refine va_sld hx hb hX hbl hbA hS (show vp_in 1 6 from by unfold vp_in; decide) dL_law_1828 ?_
  refine lv_topi (fun x102 ex102 => ?_)
  obtain rfl : w1 = x102 := hw1.trans ex102.symm
  refine lv_aload_n hx hb dL_law_1829 rfl (lv_at hl 0 rfl) ?_
  refine lv_iload hx hb dL_law_1830 (lv_at hl 4 rfl) ?_
  refine lv_iconst (v := 2) hx hb dL_law_1832 (by decide) ?_
  refine lv_iadd hx hb dL_law_1833  ?_
  refine lv_topi (fun x103 ex103 => ?_)
  obtain rfl : x103 = 2 := ex103.trans (by decide)
  refine va_sld hx hb hX hbl hbA hS (show vp_in 2 6 from by unfold vp_in; decide) dL_law_1834 ?_
  refine lv_topi (fun x104 ex104 => ?_)
  obtain rfl : w2 = x104 := hw2.trans ex104.symm
  refine lv_aload_n hx hb dL_law_1835 rfl (lv_at hl 0 rfl) ?_
  refine lv_iload hx hb dL_law_1836 (lv_at hl 4 rfl) ?_
  refine lv_iconst (v := 3) hx hb dL_law_1838 (by decide) ?_
  refine lv_iadd hx hb dL_law_1839  ?_
  refine lv_topi (fun x105 ex105 => ?_)
  obtain rfl : x105 = 3 := ex105.trans (by decide)
  refine va_sld hx hb hX hbl hbA hS (show vp_in 3 6 from by unfold vp_in; decide) dL_law_1840 ?_
  refine lv_topi (fun x106 ex106 => ?_)
  obtain rfl : w3 = x106 := hw3.trans ex106.symm
  refine lv_aload_n hx hb dL_law_1841 rfl (lv_at hl 3 rfl) ?_
  have hPc := hP.sub (ws' := [(aX, .inr (14, fsX)), (qP, .inl (kP, 4, .inr (.inr (.inr (.inr gP))))), (ap, .inr (8, fsp))]) [0, 1, 2] rfl
  have hDc := hD.sub (ws' := [(aX, .inr (14, fsX)), (qP, .inl (kP, 4, .inr (.inr (.inr (.inr gP))))), (ap, .inr (8, fsp))]) [0, 1, 2] (by decide) rfl
  have hKc := hK.sub (tys' := [(kP, .object "HeapWorks$Picture")]) [0] rfl
  have hFc := va_free (wc := [(aX, .inr (14, fsX)), (qP, .inl (kP, 4, .inr (.inr (.inr (.inr gP))))), (ap, .inr (8, fsp))]) hD hS hA [0, 1, 2] rfl
  refine vx_calli (vx_runSX (As := [.ref aX, .int w1, .int w2, .int w3, .ref qO]) (rest := []) ⟨hx, hb, hml, hown, hts⟩ (z_L_slot l dC dI H.size aX fsX qP gP kP ap fsp w1 w2 w3 qO (fh_sub o_fsX.2 [0] rfl) (fh_sub o_fsp.2 [0] rfl) hst hg) (vx_cwSW 5 hts g_lk_28_z_L_slot_235 rfl rfl rfl (by decide +kernel) ⟨Nat.le_of_ble_eq_true rfl, Nat.le_of_ble_eq_true rfl⟩) ⟨fun a U g mk q => by obtain ⟨q0, q1, qZ, qY, qP, qK, qD⟩ := q; exact ⟨q0, q1, Zz_call qZ, Yy_call qY, qP, va_K.moved (u := U) (U := U.calling g mk a) (Vm.Alike.refl U.vm) qK, qD⟩, fun U hU hW => ⟨rfl, by rw [hU], Zz_go hZ hS hFc hU hW, Yy_go hY hW, by rw [hU]; exact hPc, va_K.moved hW.alike hKc, hDc.weaken (fun _ _ _ _ => trivial)⟩⟩ rfl rfl hl.1 rfl (lv_room (Nat.le_of_ble_eq_true rfl)) dL_law_1842 ⟨Nat.le_of_ble_eq_true rfl, Nat.le_of_ble_eq_true rfl⟩) hS (fun q _ h => hFc q h) hFc (fun q _ h => hFc q h) (fun E ce q9 u t H1 locs ht hvm hpx hBX hz1 hk1 hS hce hcv hcl => ?_) (fun r107 u t H1 locs ht hvm hw hB hz1 hk1 hS => ?_)
  · exact False.elim hBX
  · skip
    obtain ⟨hP1, hK1, hD1⟩ := hB
    rw [ht] at hP1
    try dsimp only at hw
    obtain ⟨hP, hD⟩ := va_join (wr := [(aZ, .inr (15, fsZ)), (q_things, .inl (k_things, 5, .inl f_things))]) (w1 := []) hP hD [0, 1, 2] [3, 4] rfl rfl (by decide) (by decide) hk1 hFc hP1 hD1
    have hK := hK.sub (tys' := [(k_things, .int)]) [1] rfl
    generalize H1 = H at hP hS ⊢
    refine W.widen (k := 391) (n := 571365) (by omega) (by omega) ?_
    have hP : va_P (dC, dI) vwCl [(aZ, .inr (15, fsZ)), (q_things, .inl (k_things, 5, .inl f_things))] H := hP
    have hD : va_D A [(aZ, .inr (15, fsZ)), (q_things, .inl (k_things, 5, .inl f_things))] := hD
    rcases hw with ⟨c108, er109⟩ | ⟨c110, c111, er112⟩ | ⟨c113, c114, c115, er116⟩ | ⟨c117, c118, c119, c120, er121⟩
    · skip
      subst er109
      refine lv_istore (lv' := [(5, .int 1), (0, .ref b), (1, .ref aX), (2, .ref aZ), (3, .ref qO), (4, .int 0)]) hx hb dL_law_1845 hl (by decide) rfl (fun ls hl => ?_)
      refine lv_aload_n hx hb dL_law_1847 rfl (lv_at hl 3 rfl) ?_
      refine lv_aload_n hx hb dL_law_1848 rfl (lv_at hl 1 rfl) ?_
      refine lv_iload hx hb dL_law_1849 (lv_at hl 5 rfl) ?_
      refine lv_iconst (v := 1) hx hb dL_law_1851 (by decide) ?_
      refine lv_iadd hx hb dL_law_1852  ?_
      refine lv_topi (fun x122 ex122 => ?_)
      obtain rfl : x122 = 1 := ex122.trans (by decide)
      refine va_sld hx hb hX hbl hbA hS (show vp_in 1 6 from by unfold vp_in; decide) dL_law_1853 ?_
      refine lv_topi (fun x123 ex123 => ?_)
      obtain rfl : w1 = x123 := hw1.trans ex123.symm
      refine lv_aload_n hx hb dL_law_1854 rfl (lv_at hl 1 rfl) ?_
      refine lv_iload hx hb dL_law_1855 (lv_at hl 5 rfl) ?_
      refine lv_iconst (v := 2) hx hb dL_law_1857 (by decide) ?_
      refine lv_iadd hx hb dL_law_1858  ?_
      refine lv_topi (fun x124 ex124 => ?_)
      obtain rfl : x124 = 2 := ex124.trans (by decide)
      refine va_sld hx hb hX hbl hbA hS (show vp_in 2 6 from by unfold vp_in; decide) dL_law_1859 ?_
      refine lv_topi (fun x125 ex125 => ?_)
      obtain rfl : w2 = x125 := hw2.trans ex125.symm
      refine lv_aload_n hx hb dL_law_1860 rfl (lv_at hl 1 rfl) ?_
      refine lv_iload hx hb dL_law_1861 (lv_at hl 5 rfl) ?_
      refine lv_iconst (v := 3) hx hb dL_law_1863 (by decide) ?_
      refine lv_iadd hx hb dL_law_1864  ?_
      refine lv_topi (fun x126 ex126 => ?_)
      obtain rfl : x126 = 3 := ex126.trans (by decide)
      refine va_sld hx hb hX hbl hbA hS (show vp_in 3 6 from by unfold vp_in; decide) dL_law_1865 ?_
      refine lv_topi (fun x127 ex127 => ?_)
      obtain rfl : w3 = x127 := hw3.trans ex127.symm
      have hPc := hP.sub (ws' := [(aZ, .inr (15, fsZ)), (q_things, .inl (k_things, 5, .inl f_things))]) [0, 1] rfl
      have hDc := hD.sub (ws' := [(aZ, .inr (15, fsZ)), (q_things, .inl (k_things, 5, .inl f_things))]) [0, 1] (by decide) rfl
      have hKc := hK.sub (tys' := [(k_things, .int)]) [0] rfl
      have hFc := va_free (wc := [(aZ, .inr (15, fsZ)), (q_things, .inl (k_things, 5, .inl f_things))]) hD hS hA [0, 1] rfl
      refine va_calll (va_runV (As := [.int w1, .int w2, .int w3]) (rest := []) ⟨hx, hb, hml, hown, hts⟩ (z_X12_slot l dC dI H.size aZ fsZ q_things f_things k_things w1 w2 w3 (fh_sub o_fsZ.2 [0, 1] rfl) hz_f_things) (cwV 3 hts g_lk_28_z_X12_slot_237 rfl rfl rfl (by decide +kernel) ⟨Nat.le_of_ble_eq_true rfl, Nat.le_of_ble_eq_true rfl⟩) ⟨fun a U g mk q => by obtain ⟨q0, q1, qP, qK, qD⟩ := q; exact ⟨q0, q1, qP, va_K.moved (u := U) (U := U.calling g mk a) (Vm.Alike.refl U.vm) qK, qD⟩, va_recv hK hP (ci := 15) (q0 := 0) rfl rfl, fun U hU hW => ⟨rfl, by rw [hU], by rw [hU]; exact hPc, va_K.moved hW.alike hKc, hDc.weaken (fun _ _ _ _ => trivial)⟩⟩ rfl rfl hl.1 rfl (lv_room (Nat.le_of_ble_eq_true rfl)) dL_law_1866 ⟨Nat.le_of_ble_eq_true rfl, Nat.le_of_ble_eq_true rfl⟩) hS (fun q _ h => hFc q h) hFc (fun r128 u t H1 locs ht hvm hw hB hz1 hk1 hS => ?_)
      obtain ⟨s129, rfl⟩ : ∃ z, z = u := ⟨_, rfl⟩
      obtain ⟨hP1, hK1, hD1⟩ := hB
      rw [ht] at hP1
      try dsimp only at hw
      obtain ⟨hP, hD⟩ := va_join (wr := []) (w1 := [(aZ, .inr (15, s129)), (q_things, .inl (k_things, 5, .inl f_things))]) hP hD [0, 1] [] rfl rfl (by decide) (by decide) hk1 hFc hP1 hD1
      have hK := hK.sub (tys' := [(k_things, .int)]) [0] rfl
      generalize H1 = H at hP hS ⊢
      have hP : va_P (dC, dI) vwCl [(aZ, .inr (15, s129)), (q_things, .inl (k_things, 5, .inl f_things))] H := hP
      have hD : va_D A [(aZ, .inr (15, s129)), (q_things, .inl (k_things, 5, .inl f_things))] := hD
      rcases hw with ⟨c130, er131, o_s129⟩ | ⟨c132, c133, er134, o_s129⟩ | ⟨c135, c136, c137, er138, o_s129⟩ | ⟨c139, c140, c141, c142, er143, o_s129⟩
      · skip
        subst er131
        have o_s129 := ow_on o_fsZ o_s129 (l' := [(0, .int 1), (48, .ref q_things), (48, .ref q_things)]) (w' := [0]) rfl rfl
        refine lv_lstore (lv' := [(6, .long 0), (5, .int 1), (0, .ref b), (1, .ref aX), (2, .ref aZ), (3, .ref qO), (4, .int 0)]) hx hb dL_law_1869 hl (by decide) rfl (fun ls hl => ?_)
        refine lv_aload_n hx hb dL_law_1871 rfl (lv_at hl 4 rfl) ?_
        have hPc := hP.sub (ws' := [(aZ, .inr (15, s129))]) [0] rfl
        have hDc := hD.sub (ws' := [(aZ, .inr (15, s129))]) [0] (by decide) rfl
        have hKc := hK.sub (tys' := []) [] rfl
        have hFc := va_free (wc := [(aZ, .inr (15, s129))]) hD hS hA [0] rfl
        refine va_calli (va_runV (As := []) (rest := []) ⟨hx, hb, hml, hown, hts⟩ (z_X12_thrown l dC dI H.size aZ s129 (fh_sub o_s129.2 [0] rfl) ) (cwV 0 hts g_lk_28_z_X12_thrown_149 rfl rfl rfl (by decide +kernel) ⟨Nat.le_of_ble_eq_true rfl, Nat.le_of_ble_eq_true rfl⟩) ⟨fun a U g mk q => by obtain ⟨q0, q1, qP, qK, qD⟩ := q; exact ⟨q0, q1, qP, va_K.moved (u := U) (U := U.calling g mk a) (Vm.Alike.refl U.vm) qK, qD⟩, va_recv hK hP (ci := 15) (q0 := 0) rfl rfl, fun U hU hW => ⟨rfl, by rw [hU], by rw [hU]; exact hPc, va_K.moved hW.alike hKc, hDc.weaken (fun _ _ _ _ => trivial)⟩⟩ rfl rfl hl.1 rfl (lv_room (Nat.le_of_ble_eq_true rfl)) dL_law_1872 ⟨Nat.le_of_ble_eq_true rfl, Nat.le_of_ble_eq_true rfl⟩) hS (fun q _ h => hFc q h) hFc (fun r144 u t H1 locs ht hvm hw hB hz1 hk1 hS => ?_)
        obtain ⟨hP1, hK1, hD1⟩ := hB
        rw [ht] at hP1
        try dsimp only at hw
        obtain ⟨hP, hD⟩ := va_join (wr := [(q_things, .inl (k_things, 5, .inl f_things))]) (w1 := [(aZ, .inr (15, s129))]) hP hD [0] [1] rfl rfl (by decide) (by decide) hk1 hFc hP1 hD1
        have hK := hK.sub (tys' := [(k_things, .int)]) [0] rfl
        generalize H1 = H at hP hS ⊢
        have hP : va_P (dC, dI) vwCl [(q_things, .inl (k_things, 5, .inl f_things)), (aZ, .inr (15, s129))] H := hP
        have hD : va_D A [(q_things, .inl (k_things, 5, .inl f_things)), (aZ, .inr (15, s129))] := hD
        have er145 := hw
        subst er145
        refine lv_iload hx hb dL_law_1875 (lv_at hl 1 rfl) ?_
        refine lv_icmp_eq (tgt := 1882) hx hb dL_law_1877 (by decide) (fun c146 => ?_) (fun c146 => absurd c146 (by decide))
        refine lv_iload hx hb dL_law_1882 (lv_at hl 1 rfl) ?_
        refine lv_if_ne (tgt := 1898) hx hb dL_law_1884 (by decide) (fun c147 => ?_) (fun c147 => absurd c147 (by decide))
        refine lv_goto (tgt := 3111) hx hb dL_law_1898 (by decide) ?_
        exact lw_end hst C0 hA hAf hZ hY (Nat.le_of_ble_eq_true rfl) (Nat.le_of_ble_eq_true rfl) dC dI P0k P0 D0 hS ls (lv_sub hl [2, 6] rfl)
      · exact (by exfalso; (try simp only [i_lt, i_le, i_eq, kc_0, kc_4] at c108 c132 c133); omega)
      · exact (by exfalso; (try simp only [i_lt, i_le, i_eq, kc_0, kc_4] at c108 c135 c136); omega)
      · exact (by exfalso; (try simp only [i_lt, i_le, i_eq, kc_0, kc_4] at c108 c139 c140); omega)
    · skip
      subst er112
      refine lv_istore (lv' := [(5, .int 1), (0, .ref b), (1, .ref aX), (2, .ref aZ), (3, .ref qO), (4, .int 0)]) hx hb dL_law_1845 hl (by decide) rfl (fun ls hl => ?_)
      refine lv_aload_n hx hb dL_law_1847 rfl (lv_at hl 3 rfl) ?_
      refine lv_aload_n hx hb dL_law_1848 rfl (lv_at hl 1 rfl) ?_
      refine lv_iload hx hb dL_law_1849 (lv_at hl 5 rfl) ?_
      refine lv_iconst (v := 1) hx hb dL_law_1851 (by decide) ?_
      refine lv_iadd hx hb dL_law_1852  ?_
      refine lv_topi (fun x148 ex148 => ?_)
      obtain rfl : x148 = 1 := ex148.trans (by decide)
      refine va_sld hx hb hX hbl hbA hS (show vp_in 1 6 from by unfold vp_in; decide) dL_law_1853 ?_
      refine lv_topi (fun x149 ex149 => ?_)
      obtain rfl : w1 = x149 := hw1.trans ex149.symm
      refine lv_aload_n hx hb dL_law_1854 rfl (lv_at hl 1 rfl) ?_
      refine lv_iload hx hb dL_law_1855 (lv_at hl 5 rfl) ?_
      refine lv_iconst (v := 2) hx hb dL_law_1857 (by decide) ?_
      refine lv_iadd hx hb dL_law_1858  ?_
      refine lv_topi (fun x150 ex150 => ?_)
      obtain rfl : x150 = 2 := ex150.trans (by decide)
      refine va_sld hx hb hX hbl hbA hS (show vp_in 2 6 from by unfold vp_in; decide) dL_law_1859 ?_
      refine lv_topi (fun x151 ex151 => ?_)
      obtain rfl : w2 = x151 := hw2.trans ex151.symm
      refine lv_aload_n hx hb dL_law_1860 rfl (lv_at hl 1 rfl) ?_
      refine lv_iload hx hb dL_law_1861 (lv_at hl 5 rfl) ?_
      refine lv_iconst (v := 3) hx hb dL_law_1863 (by decide) ?_
      refine lv_iadd hx hb dL_law_1864  ?_
      refine lv_topi (fun x152 ex152 => ?_)
      obtain rfl : x152 = 3 := ex152.trans (by decide)
      refine va_sld hx hb hX hbl hbA hS (show vp_in 3 6 from by unfold vp_in; decide) dL_law_1865 ?_
      refine lv_topi (fun x153 ex153 => ?_)
      obtain rfl : w3 = x153 := hw3.trans ex153.symm
      have hPc := hP.sub (ws' := [(aZ, .inr (15, fsZ)), (q_things, .inl (k_things, 5, .inl f_things))]) [0, 1] rfl
      have hDc := hD.sub (ws' := [(aZ, .inr (15, fsZ)), (q_things, .inl (k_things, 5, .inl f_things))]) [0, 1] (by decide) rfl
      have hKc := hK.sub (tys' := [(k_things, .int)]) [0] rfl
      have hFc := va_free (wc := [(aZ, .inr (15, fsZ)), (q_things, .inl (k_things, 5, .inl f_things))]) hD hS hA [0, 1] rfl
      refine va_calll (va_runV (As := [.int w1, .int w2, .int w3]) (rest := []) ⟨hx, hb, hml, hown, hts⟩ (z_X12_slot l dC dI H.size aZ fsZ q_things f_things k_things w1 w2 w3 (fh_sub o_fsZ.2 [0, 1] rfl) hz_f_things) (cwV 3 hts g_lk_28_z_X12_slot_237 rfl rfl rfl (by decide +kernel) ⟨Nat.le_of_ble_eq_true rfl, Nat.le_of_ble_eq_true rfl⟩) ⟨fun a U g mk q => by obtain ⟨q0, q1, qP, qK, qD⟩ := q; exact ⟨q0, q1, qP, va_K.moved (u := U) (U := U.calling g mk a) (Vm.Alike.refl U.vm) qK, qD⟩, va_recv hK hP (ci := 15) (q0 := 0) rfl rfl, fun U hU hW => ⟨rfl, by rw [hU], by rw [hU]; exact hPc, va_K.moved hW.alike hKc, hDc.weaken (fun _ _ _ _ => trivial)⟩⟩ rfl rfl hl.1 rfl (lv_room (Nat.le_of_ble_eq_true rfl)) dL_law_1866 ⟨Nat.le_of_ble_eq_true rfl, Nat.le_of_ble_eq_true rfl⟩) hS (fun q _ h => hFc q h) hFc (fun r154 u t H1 locs ht hvm hw hB hz1 hk1 hS => ?_)
      obtain ⟨s155, rfl⟩ : ∃ z, z = u := ⟨_, rfl⟩
      obtain ⟨hP1, hK1, hD1⟩ := hB
      rw [ht] at hP1
      try dsimp only at hw
      obtain ⟨hP, hD⟩ := va_join (wr := []) (w1 := [(aZ, .inr (15, s155)), (q_things, .inl (k_things, 5, .inl f_things))]) hP hD [0, 1] [] rfl rfl (by decide) (by decide) hk1 hFc hP1 hD1
      have hK := hK.sub (tys' := [(k_things, .int)]) [0] rfl
      generalize H1 = H at hP hS ⊢
      have hP : va_P (dC, dI) vwCl [(aZ, .inr (15, s155)), (q_things, .inl (k_things, 5, .inl f_things))] H := hP
      have hD : va_D A [(aZ, .inr (15, s155)), (q_things, .inl (k_things, 5, .inl f_things))] := hD
      rcases hw with ⟨c156, er157, o_s155⟩ | ⟨c158, c159, er160, o_s155⟩ | ⟨c161, c162, c163, er164, o_s155⟩ | ⟨c165, c166, c167, c168, er169, o_s155⟩
      · exact (by exfalso; (try simp only [i_lt, i_le, i_eq, kc_0, kc_4] at c110 c111 c156); omega)
      · skip
        subst er160
        have o_s155 := ow_on o_fsZ o_s155 (l' := [(0, .int 1), (48, .ref q_things), (48, .ref q_things)]) (w' := [0]) rfl rfl
        refine lv_lstore (lv' := [(6, .long 0), (5, .int 1), (0, .ref b), (1, .ref aX), (2, .ref aZ), (3, .ref qO), (4, .int 0)]) hx hb dL_law_1869 hl (by decide) rfl (fun ls hl => ?_)
        refine lv_aload_n hx hb dL_law_1871 rfl (lv_at hl 4 rfl) ?_
        have hPc := hP.sub (ws' := [(aZ, .inr (15, s155))]) [0] rfl
        have hDc := hD.sub (ws' := [(aZ, .inr (15, s155))]) [0] (by decide) rfl
        have hKc := hK.sub (tys' := []) [] rfl
        have hFc := va_free (wc := [(aZ, .inr (15, s155))]) hD hS hA [0] rfl
        refine va_calli (va_runV (As := []) (rest := []) ⟨hx, hb, hml, hown, hts⟩ (z_X12_thrown l dC dI H.size aZ s155 (fh_sub o_s155.2 [0] rfl) ) (cwV 0 hts g_lk_28_z_X12_thrown_149 rfl rfl rfl (by decide +kernel) ⟨Nat.le_of_ble_eq_true rfl, Nat.le_of_ble_eq_true rfl⟩) ⟨fun a U g mk q => by obtain ⟨q0, q1, qP, qK, qD⟩ := q; exact ⟨q0, q1, qP, va_K.moved (u := U) (U := U.calling g mk a) (Vm.Alike.refl U.vm) qK, qD⟩, va_recv hK hP (ci := 15) (q0 := 0) rfl rfl, fun U hU hW => ⟨rfl, by rw [hU], by rw [hU]; exact hPc, va_K.moved hW.alike hKc, hDc.weaken (fun _ _ _ _ => trivial)⟩⟩ rfl rfl hl.1 rfl (lv_room (Nat.le_of_ble_eq_true rfl)) dL_law_1872 ⟨Nat.le_of_ble_eq_true rfl, Nat.le_of_ble_eq_true rfl⟩) hS (fun q _ h => hFc q h) hFc (fun r170 u t H1 locs ht hvm hw hB hz1 hk1 hS => ?_)
        obtain ⟨hP1, hK1, hD1⟩ := hB
        rw [ht] at hP1
        try dsimp only at hw
        obtain ⟨hP, hD⟩ := va_join (wr := [(q_things, .inl (k_things, 5, .inl f_things))]) (w1 := [(aZ, .inr (15, s155))]) hP hD [0] [1] rfl rfl (by decide) (by decide) hk1 hFc hP1 hD1
        have hK := hK.sub (tys' := [(k_things, .int)]) [0] rfl
        generalize H1 = H at hP hS ⊢
        have hP : va_P (dC, dI) vwCl [(q_things, .inl (k_things, 5, .inl f_things)), (aZ, .inr (15, s155))] H := hP
        have hD : va_D A [(q_things, .inl (k_things, 5, .inl f_things)), (aZ, .inr (15, s155))] := hD
        have er171 := hw
        subst er171
        refine lv_iload hx hb dL_law_1875 (lv_at hl 1 rfl) ?_
        refine lv_icmp_eq (tgt := 1882) hx hb dL_law_1877 (by decide) (fun c172 => ?_) (fun c172 => absurd c172 (by decide))
        refine lv_iload hx hb dL_law_1882 (lv_at hl 1 rfl) ?_
        refine lv_if_ne (tgt := 1898) hx hb dL_law_1884 (by decide) (fun c173 => ?_) (fun c173 => absurd c173 (by decide))
        refine lv_goto (tgt := 3111) hx hb dL_law_1898 (by decide) ?_
        exact lw_end hst C0 hA hAf hZ hY (Nat.le_of_ble_eq_true rfl) (Nat.le_of_ble_eq_true rfl) dC dI P0k P0 D0 hS ls (lv_sub hl [2, 6] rfl)
      · exact (by exfalso; (try simp only [i_lt, i_le, i_eq, kc_0, kc_4] at c110 c111 c161 c162); omega)
      · exact (by exfalso; (try simp only [i_lt, i_le, i_eq, kc_0, kc_4] at c110 c111 c165 c166); omega)
    · skip
      subst er116
      refine lv_istore (lv' := [(5, .int 1), (0, .ref b), (1, .ref aX), (2, .ref aZ), (3, .ref qO), (4, .int 0)]) hx hb dL_law_1845 hl (by decide) rfl (fun ls hl => ?_)
      refine lv_aload_n hx hb dL_law_1847 rfl (lv_at hl 3 rfl) ?_
      refine lv_aload_n hx hb dL_law_1848 rfl (lv_at hl 1 rfl) ?_
      refine lv_iload hx hb dL_law_1849 (lv_at hl 5 rfl) ?_
      refine lv_iconst (v := 1) hx hb dL_law_1851 (by decide) ?_
      refine lv_iadd hx hb dL_law_1852  ?_
      refine lv_topi (fun x174 ex174 => ?_)
      obtain rfl : x174 = 1 := ex174.trans (by decide)
      refine va_sld hx hb hX hbl hbA hS (show vp_in 1 6 from by unfold vp_in; decide) dL_law_1853 ?_
      refine lv_topi (fun x175 ex175 => ?_)
      obtain rfl : w1 = x175 := hw1.trans ex175.symm
      refine lv_aload_n hx hb dL_law_1854 rfl (lv_at hl 1 rfl) ?_
      refine lv_iload hx hb dL_law_1855 (lv_at hl 5 rfl) ?_
      refine lv_iconst (v := 2) hx hb dL_law_1857 (by decide) ?_
      refine lv_iadd hx hb dL_law_1858  ?_
      refine lv_topi (fun x176 ex176 => ?_)
      obtain rfl : x176 = 2 := ex176.trans (by decide)
      refine va_sld hx hb hX hbl hbA hS (show vp_in 2 6 from by unfold vp_in; decide) dL_law_1859 ?_
      refine lv_topi (fun x177 ex177 => ?_)
      obtain rfl : w2 = x177 := hw2.trans ex177.symm
      refine lv_aload_n hx hb dL_law_1860 rfl (lv_at hl 1 rfl) ?_
      refine lv_iload hx hb dL_law_1861 (lv_at hl 5 rfl) ?_
      refine lv_iconst (v := 3) hx hb dL_law_1863 (by decide) ?_
      refine lv_iadd hx hb dL_law_1864  ?_
      refine lv_topi (fun x178 ex178 => ?_)
      obtain rfl : x178 = 3 := ex178.trans (by decide)
      refine va_sld hx hb hX hbl hbA hS (show vp_in 3 6 from by unfold vp_in; decide) dL_law_1865 ?_
      refine lv_topi (fun x179 ex179 => ?_)
      obtain rfl : w3 = x179 := hw3.trans ex179.symm
      have hPc := hP.sub (ws' := [(aZ, .inr (15, fsZ)), (q_things, .inl (k_things, 5, .inl f_things))]) [0, 1] rfl
      have hDc := hD.sub (ws' := [(aZ, .inr (15, fsZ)), (q_things, .inl (k_things, 5, .inl f_things))]) [0, 1] (by decide) rfl
      have hKc := hK.sub (tys' := [(k_things, .int)]) [0] rfl
      have hFc := va_free (wc := [(aZ, .inr (15, fsZ)), (q_things, .inl (k_things, 5, .inl f_things))]) hD hS hA [0, 1] rfl
      refine va_calll (va_runV (As := [.int w1, .int w2, .int w3]) (rest := []) ⟨hx, hb, hml, hown, hts⟩ (z_X12_slot l dC dI H.size aZ fsZ q_things f_things k_things w1 w2 w3 (fh_sub o_fsZ.2 [0, 1] rfl) hz_f_things) (cwV 3 hts g_lk_28_z_X12_slot_237 rfl rfl rfl (by decide +kernel) ⟨Nat.le_of_ble_eq_true rfl, Nat.le_of_ble_eq_true rfl⟩) ⟨fun a U g mk q => by obtain ⟨q0, q1, qP, qK, qD⟩ := q; exact ⟨q0, q1, qP, va_K.moved (u := U) (U := U.calling g mk a) (Vm.Alike.refl U.vm) qK, qD⟩, va_recv hK hP (ci := 15) (q0 := 0) rfl rfl, fun U hU hW => ⟨rfl, by rw [hU], by rw [hU]; exact hPc, va_K.moved hW.alike hKc, hDc.weaken (fun _ _ _ _ => trivial)⟩⟩ rfl rfl hl.1 rfl (lv_room (Nat.le_of_ble_eq_true rfl)) dL_law_1866 ⟨Nat.le_of_ble_eq_true rfl, Nat.le_of_ble_eq_true rfl⟩) hS (fun q _ h => hFc q h) hFc (fun r180 u t H1 locs ht hvm hw hB hz1 hk1 hS => ?_)
      obtain ⟨s181, rfl⟩ : ∃ z, z = u := ⟨_, rfl⟩
      obtain ⟨hP1, hK1, hD1⟩ := hB
      rw [ht] at hP1
      try dsimp only at hw
      obtain ⟨hP, hD⟩ := va_join (wr := []) (w1 := [(aZ, .inr (15, s181)), (q_things, .inl (k_things, 5, .inl f_things))]) hP hD [0, 1] [] rfl rfl (by decide) (by decide) hk1 hFc hP1 hD1
      have hK := hK.sub (tys' := [(k_things, .int)]) [0] rfl
      generalize H1 = H at hP hS ⊢
      have hP : va_P (dC, dI) vwCl [(aZ, .inr (15, s181)), (q_things, .inl (k_things, 5, .inl f_things))] H := hP
      have hD : va_D A [(aZ, .inr (15, s181)), (q_things, .inl (k_things, 5, .inl f_things))] := hD
      rcases hw with ⟨c182, er183, o_s181⟩ | ⟨c184, c185, er186, o_s181⟩ | ⟨c187, c188, c189, er190, o_s181⟩ | ⟨c191, c192, c193, c194, er195, o_s181⟩
      · exact (by exfalso; (try simp only [i_lt, i_le, i_eq, kc_0, kc_4] at c113 c114 c182); omega)
      · exact (by exfalso; (try simp only [i_lt, i_le, i_eq, kc_0, kc_4] at c113 c114 c184 c185); omega)
      · skip
        subst er190
        have o_s181 := ow_on o_fsZ o_s181 (l' := [(0, .int 1), (48, .ref q_things), (48, .ref q_things)]) (w' := [0]) rfl rfl
        refine lv_lstore (lv' := [(6, .long 0), (5, .int 1), (0, .ref b), (1, .ref aX), (2, .ref aZ), (3, .ref qO), (4, .int 0)]) hx hb dL_law_1869 hl (by decide) rfl (fun ls hl => ?_)
        refine lv_aload_n hx hb dL_law_1871 rfl (lv_at hl 4 rfl) ?_
        have hPc := hP.sub (ws' := [(aZ, .inr (15, s181))]) [0] rfl
        have hDc := hD.sub (ws' := [(aZ, .inr (15, s181))]) [0] (by decide) rfl
        have hKc := hK.sub (tys' := []) [] rfl
        have hFc := va_free (wc := [(aZ, .inr (15, s181))]) hD hS hA [0] rfl
        refine va_calli (va_runV (As := []) (rest := []) ⟨hx, hb, hml, hown, hts⟩ (z_X12_thrown l dC dI H.size aZ s181 (fh_sub o_s181.2 [0] rfl) ) (cwV 0 hts g_lk_28_z_X12_thrown_149 rfl rfl rfl (by decide +kernel) ⟨Nat.le_of_ble_eq_true rfl, Nat.le_of_ble_eq_true rfl⟩) ⟨fun a U g mk q => by obtain ⟨q0, q1, qP, qK, qD⟩ := q; exact ⟨q0, q1, qP, va_K.moved (u := U) (U := U.calling g mk a) (Vm.Alike.refl U.vm) qK, qD⟩, va_recv hK hP (ci := 15) (q0 := 0) rfl rfl, fun U hU hW => ⟨rfl, by rw [hU], by rw [hU]; exact hPc, va_K.moved hW.alike hKc, hDc.weaken (fun _ _ _ _ => trivial)⟩⟩ rfl rfl hl.1 rfl (lv_room (Nat.le_of_ble_eq_true rfl)) dL_law_1872 ⟨Nat.le_of_ble_eq_true rfl, Nat.le_of_ble_eq_true rfl⟩) hS (fun q _ h => hFc q h) hFc (fun r196 u t H1 locs ht hvm hw hB hz1 hk1 hS => ?_)
        obtain ⟨hP1, hK1, hD1⟩ := hB
        rw [ht] at hP1
        try dsimp only at hw
        obtain ⟨hP, hD⟩ := va_join (wr := [(q_things, .inl (k_things, 5, .inl f_things))]) (w1 := [(aZ, .inr (15, s181))]) hP hD [0] [1] rfl rfl (by decide) (by decide) hk1 hFc hP1 hD1
        have hK := hK.sub (tys' := [(k_things, .int)]) [0] rfl
        generalize H1 = H at hP hS ⊢
        have hP : va_P (dC, dI) vwCl [(q_things, .inl (k_things, 5, .inl f_things)), (aZ, .inr (15, s181))] H := hP
        have hD : va_D A [(q_things, .inl (k_things, 5, .inl f_things)), (aZ, .inr (15, s181))] := hD
        have er197 := hw
        subst er197
        refine lv_iload hx hb dL_law_1875 (lv_at hl 1 rfl) ?_
        refine lv_icmp_eq (tgt := 1882) hx hb dL_law_1877 (by decide) (fun c198 => ?_) (fun c198 => absurd c198 (by decide))
        refine lv_iload hx hb dL_law_1882 (lv_at hl 1 rfl) ?_
        refine lv_if_ne (tgt := 1898) hx hb dL_law_1884 (by decide) (fun c199 => ?_) (fun c199 => absurd c199 (by decide))
        refine lv_goto (tgt := 3111) hx hb dL_law_1898 (by decide) ?_
        exact lw_end hst C0 hA hAf hZ hY (Nat.le_of_ble_eq_true rfl) (Nat.le_of_ble_eq_true rfl) dC dI P0k P0 D0 hS ls (lv_sub hl [2, 6] rfl)
      · exact (by exfalso; (try simp only [i_lt, i_le, i_eq, kc_0] at c115 c193 c194); omega)
    · skip
      subst er121
      refine lv_istore (lv' := [(5, .int 1), (0, .ref b), (1, .ref aX), (2, .ref aZ), (3, .ref qO), (4, .int 0)]) hx hb dL_law_1845 hl (by decide) rfl (fun ls hl => ?_)
      refine lv_aload_n hx hb dL_law_1847 rfl (lv_at hl 3 rfl) ?_
      refine lv_aload_n hx hb dL_law_1848 rfl (lv_at hl 1 rfl) ?_
      refine lv_iload hx hb dL_law_1849 (lv_at hl 5 rfl) ?_
      refine lv_iconst (v := 1) hx hb dL_law_1851 (by decide) ?_
      refine lv_iadd hx hb dL_law_1852  ?_
      refine lv_topi (fun x200 ex200 => ?_)
      obtain rfl : x200 = 1 := ex200.trans (by decide)
      refine va_sld hx hb hX hbl hbA hS (show vp_in 1 6 from by unfold vp_in; decide) dL_law_1853 ?_
      refine lv_topi (fun x201 ex201 => ?_)
      obtain rfl : w1 = x201 := hw1.trans ex201.symm
      refine lv_aload_n hx hb dL_law_1854 rfl (lv_at hl 1 rfl) ?_
      refine lv_iload hx hb dL_law_1855 (lv_at hl 5 rfl) ?_
      refine lv_iconst (v := 2) hx hb dL_law_1857 (by decide) ?_
      refine lv_iadd hx hb dL_law_1858  ?_
      refine lv_topi (fun x202 ex202 => ?_)
      obtain rfl : x202 = 2 := ex202.trans (by decide)
      refine va_sld hx hb hX hbl hbA hS (show vp_in 2 6 from by unfold vp_in; decide) dL_law_1859 ?_
      refine lv_topi (fun x203 ex203 => ?_)
      obtain rfl : w2 = x203 := hw2.trans ex203.symm
      refine lv_aload_n hx hb dL_law_1860 rfl (lv_at hl 1 rfl) ?_
      refine lv_iload hx hb dL_law_1861 (lv_at hl 5 rfl) ?_
      refine lv_iconst (v := 3) hx hb dL_law_1863 (by decide) ?_
      refine lv_iadd hx hb dL_law_1864  ?_
      refine lv_topi (fun x204 ex204 => ?_)
      obtain rfl : x204 = 3 := ex204.trans (by decide)
      refine va_sld hx hb hX hbl hbA hS (show vp_in 3 6 from by unfold vp_in; decide) dL_law_1865 ?_
      refine lv_topi (fun x205 ex205 => ?_)
      obtain rfl : w3 = x205 := hw3.trans ex205.symm
      have hPc := hP.sub (ws' := [(aZ, .inr (15, fsZ)), (q_things, .inl (k_things, 5, .inl f_things))]) [0, 1] rfl
      have hDc := hD.sub (ws' := [(aZ, .inr (15, fsZ)), (q_things, .inl (k_things, 5, .inl f_things))]) [0, 1] (by decide) rfl
      have hKc := hK.sub (tys' := [(k_things, .int)]) [0] rfl
      have hFc := va_free (wc := [(aZ, .inr (15, fsZ)), (q_things, .inl (k_things, 5, .inl f_things))]) hD hS hA [0, 1] rfl
      refine va_calll (va_runV (As := [.int w1, .int w2, .int w3]) (rest := []) ⟨hx, hb, hml, hown, hts⟩ (z_X12_slot l dC dI H.size aZ fsZ q_things f_things k_things w1 w2 w3 (fh_sub o_fsZ.2 [0, 1] rfl) hz_f_things) (cwV 3 hts g_lk_28_z_X12_slot_237 rfl rfl rfl (by decide +kernel) ⟨Nat.le_of_ble_eq_true rfl, Nat.le_of_ble_eq_true rfl⟩) ⟨fun a U g mk q => by obtain ⟨q0, q1, qP, qK, qD⟩ := q; exact ⟨q0, q1, qP, va_K.moved (u := U) (U := U.calling g mk a) (Vm.Alike.refl U.vm) qK, qD⟩, va_recv hK hP (ci := 15) (q0 := 0) rfl rfl, fun U hU hW => ⟨rfl, by rw [hU], by rw [hU]; exact hPc, va_K.moved hW.alike hKc, hDc.weaken (fun _ _ _ _ => trivial)⟩⟩ rfl rfl hl.1 rfl (lv_room (Nat.le_of_ble_eq_true rfl)) dL_law_1866 ⟨Nat.le_of_ble_eq_true rfl, Nat.le_of_ble_eq_true rfl⟩) hS (fun q _ h => hFc q h) hFc (fun r206 u t H1 locs ht hvm hw hB hz1 hk1 hS => ?_)
      obtain ⟨s207, rfl⟩ : ∃ z, z = u := ⟨_, rfl⟩
      obtain ⟨hP1, hK1, hD1⟩ := hB
      rw [ht] at hP1
      try dsimp only at hw
      obtain ⟨hP, hD⟩ := va_join (wr := []) (w1 := [(aZ, .inr (15, s207)), (q_things, .inl (k_things, 5, .inl f_things))]) hP hD [0, 1] [] rfl rfl (by decide) (by decide) hk1 hFc hP1 hD1
      have hK := hK.sub (tys' := [(k_things, .int)]) [0] rfl
      generalize H1 = H at hP hS ⊢
      have hP : va_P (dC, dI) vwCl [(aZ, .inr (15, s207)), (q_things, .inl (k_things, 5, .inl f_things))] H := hP
      have hD : va_D A [(aZ, .inr (15, s207)), (q_things, .inl (k_things, 5, .inl f_things))] := hD
      rcases hw with ⟨c208, er209, o_s207⟩ | ⟨c210, c211, er212, o_s207⟩ | ⟨c213, c214, c215, er216, o_s207⟩ | ⟨c217, c218, c219, c220, er221, o_s207⟩
      · exact (by exfalso; (try simp only [i_lt, i_le, i_eq, kc_0, kc_4] at c117 c118 c208); omega)
      · exact (by exfalso; (try simp only [i_lt, i_le, i_eq, kc_0, kc_4] at c117 c118 c210 c211); omega)
      · exact (by exfalso; (try simp only [i_lt, i_le, i_eq, kc_0] at c119 c120 c215); omega)
      · skip
        subst er221
        have o_s207 := ow_on o_fsZ o_s207 (l' := [(0, .int 1), (48, .ref q_things), (48, .ref q_things)]) (w' := [0]) rfl rfl
        refine lv_lstore (lv' := [(6, .long 0), (5, .int 1), (0, .ref b), (1, .ref aX), (2, .ref aZ), (3, .ref qO), (4, .int 0)]) hx hb dL_law_1869 hl (by decide) rfl (fun ls hl => ?_)
        refine lv_aload_n hx hb dL_law_1871 rfl (lv_at hl 4 rfl) ?_
        have hPc := hP.sub (ws' := [(aZ, .inr (15, s207))]) [0] rfl
        have hDc := hD.sub (ws' := [(aZ, .inr (15, s207))]) [0] (by decide) rfl
        have hKc := hK.sub (tys' := []) [] rfl
        have hFc := va_free (wc := [(aZ, .inr (15, s207))]) hD hS hA [0] rfl
        refine va_calli (va_runV (As := []) (rest := []) ⟨hx, hb, hml, hown, hts⟩ (z_X12_thrown l dC dI H.size aZ s207 (fh_sub o_s207.2 [0] rfl) ) (cwV 0 hts g_lk_28_z_X12_thrown_149 rfl rfl rfl (by decide +kernel) ⟨Nat.le_of_ble_eq_true rfl, Nat.le_of_ble_eq_true rfl⟩) ⟨fun a U g mk q => by obtain ⟨q0, q1, qP, qK, qD⟩ := q; exact ⟨q0, q1, qP, va_K.moved (u := U) (U := U.calling g mk a) (Vm.Alike.refl U.vm) qK, qD⟩, va_recv hK hP (ci := 15) (q0 := 0) rfl rfl, fun U hU hW => ⟨rfl, by rw [hU], by rw [hU]; exact hPc, va_K.moved hW.alike hKc, hDc.weaken (fun _ _ _ _ => trivial)⟩⟩ rfl rfl hl.1 rfl (lv_room (Nat.le_of_ble_eq_true rfl)) dL_law_1872 ⟨Nat.le_of_ble_eq_true rfl, Nat.le_of_ble_eq_true rfl⟩) hS (fun q _ h => hFc q h) hFc (fun r222 u t H1 locs ht hvm hw hB hz1 hk1 hS => ?_)
        obtain ⟨hP1, hK1, hD1⟩ := hB
        rw [ht] at hP1
        try dsimp only at hw
        obtain ⟨hP, hD⟩ := va_join (wr := [(q_things, .inl (k_things, 5, .inl f_things))]) (w1 := [(aZ, .inr (15, s207))]) hP hD [0] [1] rfl rfl (by decide) (by decide) hk1 hFc hP1 hD1
        have hK := hK.sub (tys' := [(k_things, .int)]) [0] rfl
        generalize H1 = H at hP hS ⊢
        have hP : va_P (dC, dI) vwCl [(q_things, .inl (k_things, 5, .inl f_things)), (aZ, .inr (15, s207))] H := hP
        have hD : va_D A [(q_things, .inl (k_things, 5, .inl f_things)), (aZ, .inr (15, s207))] := hD
        have er223 := hw
        subst er223
        refine lv_iload hx hb dL_law_1875 (lv_at hl 1 rfl) ?_
        refine lv_icmp_eq (tgt := 1882) hx hb dL_law_1877 (by decide) (fun c224 => ?_) (fun c224 => absurd c224 (by decide))
        refine lv_iload hx hb dL_law_1882 (lv_at hl 1 rfl) ?_
        refine lv_if_ne (tgt := 1898) hx hb dL_law_1884 (by decide) (fun c225 => ?_) (fun c225 => absurd c225 (by decide))
        refine lv_goto (tgt := 3111) hx hb dL_law_1898 (by decide) ?_
        exact lw_end hst C0 hA hAf hZ hY (Nat.le_of_ble_eq_true rfl) (Nat.le_of_ble_eq_true rfl) dC dI P0k P0 D0 hS ls (lv_sub hl [2, 6] rfl)

set_option maxRecDepth 20000 in
theorem g_lk_29_z_L_holder_238 : GoodIn lwW (va_wsS RL 238 yL_holder w_z_L_holder) := goodIn_app (goodIn_sub (ws := ([.methodLink RL 238 yL_holder, .static yL_holder, .initialized RL] : List Cond)) (gm_c (gm_at lwV_62_in 0 rfl) (gm_c (gm_at lwV_62_in 1 rfl) (gm_c (gm_at lwV_5_in 10 rfl) gm_nil))) (by decide +kernel)) (goodIn_ca (goodIn_sub (ws := .codeWith yL_holder cL_holder 7 (some .int) [(0, 14, 17, 30)] :: l_z_L_holder) (gm_c (gm_at lwV_62_in 5 rfl) (gm_c (gm_at lwV_62_in 6 rfl) (gm_c (gm_at lwV_62_in 7 rfl) (gm_c (gm_at lwV_62_in 8 rfl) (gm_c (gm_at lwV_0_in 3 rfl) (gm_c (gm_at lwV_19_in 11 rfl) (gm_c (gm_at lwV_62_in 9 rfl) (gm_c (gm_at lwV_60_in 4 rfl) (gm_c (gm_at lwV_60_in 5 rfl) (gm_c (gm_at lwV_60_in 6 rfl) (gm_c (gm_at lwV_20_in 4 rfl) (gm_c (gm_at lwV_20_in 5 rfl) (gm_c (gm_at lwV_60_in 7 rfl) (gm_c (gm_at lwV_55_in 7 rfl) (gm_c (gm_at lwV_55_in 8 rfl) (gm_c (gm_at lwV_55_in 0 rfl) (gm_c (gm_at lwV_55_in 5 rfl) (gm_c (gm_at lwV_55_in 9 rfl) gm_nil)))))))))))))))))) (by decide +kernel)) (goodIn_app (goodIn_in il_at0_X11_223 gd_at0_X11_223) (goodIn_app (goodIn_in il_X11 gd_X11) (goodIn_in il_X5 gd_X5))))
set_option maxRecDepth 20000 in
theorem g_lk_29_z_X12_holder_241 : GoodIn lwW (wsV RL 241 RX12 yX12_holder w_z_X12_holder) := goodIn_app (goodIn_sub (ws := ([.methodLink RL 241 yX12_holder, .instanceMethod yX12_holder, .selects RX12 yX12_holder yX12_holder, .initialized RX12] : List Cond)) (gm_c (gm_at lwV_62_in 2 rfl) (gm_c (gm_at lwV_62_in 3 rfl) (gm_c (gm_at lwV_62_in 4 rfl) (gm_c (gm_at lwV_0_in 7 rfl) gm_nil)))) (by decide +kernel)) (goodIn_ca (goodIn_sub (ws := .code yX12_holder cX12_holder 9 (some .int) :: l_z_X12_holder) (gm_c (gm_at lwV_62_in 10 rfl) (gm_c (gm_at lwV_60_in 9 rfl) (gm_c (gm_at lwV_60_in 10 rfl) (gm_c (gm_at lwV_60_in 11 rfl) (gm_c (gm_at lwV_0_in 7 rfl) (gm_c (gm_at lwV_1_in 5 rfl) (gm_c (gm_at lwV_61_in 0 rfl) (gm_c (gm_at lwV_57_in 0 rfl) (gm_c (gm_at lwV_57_in 1 rfl) (gm_c (gm_at lwV_57_in 2 rfl) (gm_c (gm_at lwV_57_in 9 rfl) (gm_c (gm_at lwV_57_in 10 rfl) gm_nil)))))))))))) (by decide +kernel)) (goodIn_in il_X12 gd_X12))
set_option maxRecDepth 20000 in
theorem g_lk_29_z_X12_thrown_149 : GoodIn lwW (wsV RL 149 RX12 yX12_thrown w_z_X12_thrown) := goodIn_app (goodIn_sub (ws := ([.methodLink RL 149 yX12_thrown, .instanceMethod yX12_thrown, .selects RX12 yX12_thrown yX12_thrown, .initialized RX12] : List Cond)) (gm_c (gm_at lwV_6_in 2 rfl) (gm_c (gm_at lwV_6_in 3 rfl) (gm_c (gm_at lwV_6_in 4 rfl) (gm_c (gm_at lwV_0_in 7 rfl) gm_nil)))) (by decide +kernel)) (goodIn_ca (goodIn_sub (ws := .code yX12_thrown cX12_thrown 1 (some .int) :: l_z_X12_thrown) (gm_c (gm_at lwV_9_in 9 rfl) (gm_c (gm_at lwV_1_in 5 rfl) gm_nil)) (by decide +kernel)) (goodIn_in il_X12 gd_X12))
set_option maxHeartbeats 4000000 in
set_option maxRecDepth 100000 in
/-- the law, one call: holder -/
theorem lk_29 {p : Program} {l : Launch} {e : Env} {s : State} {m : MethodId} {below : List Frame} {meth : Method} {c : Code} {b : Nat} {xs : Nat → Int32} (hst : l.stackTraces = false) (C0 : lw_At p s m meth c b 6 xs) {A : Nat → Prop} (hA : ∀ q : Nat, s.heap.size ≤ q → A q) (hAf : ∀ q : Nat, A q → s.heap.size ≤ q) (hZ : Zz A s) (hY : Yy s) (dC : Nat → ClassId) (dI : Nat → Nat → Nat) (aX : Nat) (fsX : List Value) (qP : Nat) (gP : Nat → Option Nat) (kP : ClassId) (ap : Nat) (fsp : List Value) (aZ : Nat) (fsZ : List Value) (q_things : Nat) (f_things : Nat → Int32) (k_things : ClassId) (qO : Nat) (w1 : Int32) (hw1 : w1 = xs (1 : Int32).toNatClampNeg) (w2 : Int32) (hw2 : w2 = xs (2 : Int32).toNatClampNeg) (w3 : Int32) (hw3 : w3 = xs (3 : Int32).toNatClampNeg) (w4 : Int32) (hw4 : w4 = xs (4 : Int32).toNatClampNeg) (w5 : Int32) (hw5 : w5 = xs (5 : Int32).toNatClampNeg) (k_fsX : fh fsX 18 [(4, .ref qP)]) (k_fsp : fh fsp 21 [(0, .int 0)]) (k_fsZ : fh fsZ 150 [(0, .int 0), (48, .ref q_things)]) (hg : gP w1.toNatClampNeg = some ap) (hz_f_things : ∀ j, f_things j = 0) {H : Heap} {locs : List Loc} (hK : va_K (dC, dI) vwCl [(kP, .object "HeapWorks$Picture"), (k_things, .int)] s) (hP : va_P (dC, dI) vwCl [(aX, .inr (14, fsX)), (qP, .inl (kP, 4, .inr (.inr (.inr (.inr gP))))), (ap, .inr (8, fsp)), (aZ, .inr (15, fsZ)), (q_things, .inl (k_things, 5, .inl f_things))] H) (hD : va_D A [(aX, .inr (14, fsX)), (qP, .inl (kP, 4, .inr (.inr (.inr (.inr gP))))), (ap, .inr (8, fsp)), (aZ, .inr (15, fsZ)), (q_things, .inl (k_things, 5, .inl f_things))]) (hS : va_S A s.heap H locs) (ls : Array Slot) (hl : lv_has ls 8 [(0, .ref b), (1, .ref aX), (2, .ref aZ), (3, .ref qO), (4, .int 0)]) : W p l e room_1 s m #[Value.ref b] below meth c H locs 390 571359 (lw_Z below #[Value.ref b] s) (F0 m 1901 ls []) := by
  obtain ⟨hx, hb, hr, hml, hown0, hts0, hX, hbl, hlocks, hgv⟩ := id C0
  have hown : s.vm.findClass RL = some m.cls := hown0
  have hts : ∀ w ∈ lwW, w.before #[Value.ref b] s = true := fun w h => hts0 w (lwW_in w h)
  have hbA : ¬ A b := fun h => absurd (hAf b h) (Nat.not_le.mpr hbl)
  have o_fsX := ow_0 k_fsX
  have o_fsp := ow_0 k_fsp
  have o_fsZ := ow_0 k_fsZ
  refine lv_aload_n hx hb dL_law_1901 rfl (lv_at hl 1 rfl) ?_
  refine lv_aload_n hx hb dL_law_1902 rfl (lv_at hl 0 rfl) ?_
  refine lv_iload hx hb dL_law_1903 (lv_at hl 4 rfl) ?_
  refine lv_iconst (v := 1) hx hb dL_law_1905 (by decide) ?_
  refine lv_iadd hx hb dL_law_1906  ?_
  refine lv_topi (fun x101 ex101 => ?_)
  obtain rfl : x101 = 1 := ex101.trans (by decide)
  refine va_sld hx hb hX hbl hbA hS (show vp_in 1 6 from by unfold vp_in; decide) dL_law_1907 ?_
  refine lv_topi (fun x102 ex102 => ?_)
  obtain rfl : w1 = x102 := hw1.trans ex102.symm
  refine lv_aload_n hx hb dL_law_1908 rfl (lv_at hl 0 rfl) ?_
  refine lv_iload hx hb dL_law_1909 (lv_at hl 4 rfl) ?_
  refine lv_iconst (v := 2) hx hb dL_law_1911 (by decide) ?_
  refine lv_iadd hx hb dL_law_1912  ?_
  refine lv_topi (fun x103 ex103 => ?_)
  obtain rfl : x103 = 2 := ex103.trans (by decide)
  refine va_sld hx hb hX hbl hbA hS (show vp_in 2 6 from by unfold vp_in; decide) dL_law_1913 ?_
  refine lv_topi (fun x104 ex104 => ?_)
  obtain rfl : w2 = x104 := hw2.trans ex104.symm
  refine lv_aload_n hx hb dL_law_1914 rfl (lv_at hl 0 rfl) ?_
  refine lv_iload hx hb dL_law_1915 (lv_at hl 4 rfl) ?_
  refine lv_iconst (v := 3) hx hb dL_law_1917 (by decide) ?_
  refine lv_iadd hx hb dL_law_1918  ?_
  refine lv_topi (fun x105 ex105 => ?_)
  obtain rfl : x105 = 3 := ex105.trans (by decide)
  refine va_sld hx hb hX hbl hbA hS (show vp_in 3 6 from by unfold vp_in; decide) dL_law_1919 ?_
  refine lv_topi (fun x106 ex106 => ?_)
  obtain rfl : w3 = x106 := hw3.trans ex106.symm
  refine lv_aload_n hx hb dL_law_1920 rfl (lv_at hl 0 rfl) ?_
  refine lv_iload hx hb dL_law_1921 (lv_at hl 4 rfl) ?_
  refine lv_iconst (v := 4) hx hb dL_law_1923 (by decide) ?_
  refine lv_iadd hx hb dL_law_1924  ?_
  refine lv_topi (fun x107 ex107 => ?_)
  obtain rfl : x107 = 4 := ex107.trans (by decide)
  refine va_sld hx hb hX hbl hbA hS (show vp_in 4 6 from by unfold vp_in; decide) dL_law_1925 ?_
  refine lv_topi (fun x108 ex108 => ?_)
  obtain rfl : w4 = x108 := hw4.trans ex108.symm
  refine lv_aload_n hx hb dL_law_1926 rfl (lv_at hl 3 rfl) ?_
  have hPc := hP.sub (ws' := [(aX, .inr (14, fsX)), (qP, .inl (kP, 4, .inr (.inr (.inr (.inr gP))))), (ap, .inr (8, fsp))]) [0, 1, 2] rfl
  have hDc := hD.sub (ws' := [(aX, .inr (14, fsX)), (qP, .inl (kP, 4, .inr (.inr (.inr (.inr gP))))), (ap, .inr (8, fsp))]) [0, 1, 2] (by decide) rfl
  have hKc := hK.sub (tys' := [(kP, .object "HeapWorks$Picture")]) [0] rfl
  have hFc := va_free (wc := [(aX, .inr (14, fsX)), (qP, .inl (kP, 4, .inr (.inr (.inr (.inr gP))))), (ap, .inr (8, fsp))]) hD hS hA [0, 1, 2] rfl
  refine vx_calli (vx_runSX (As := [.ref aX, .int w1, .int w2, .int w3, .int w4, .ref qO]) (rest := []) ⟨hx, hb, hml, hown, hts⟩ (z_L_holder l dC dI H.size aX fsX qP gP kP ap fsp w1 w2 w3 w4 qO (fh_sub o_fsX.2 [0] rfl) (fh_sub o_fsp.2 [0] rfl) hst hg) (vx_cwSW 6 hts g_lk_29_z_L_holder_238 rfl rfl rfl (by decide +kernel) ⟨Nat.le_of_ble_eq_true rfl, Nat.le_of_ble_eq_true rfl⟩) ⟨fun a U g mk q => by obtain ⟨q0, q1, qZ, qY, qP, qK, qD⟩ := q; exact ⟨q0, q1, Zz_call qZ, Yy_call qY, qP, va_K.moved (u := U) (U := U.calling g mk a) (Vm.Alike.refl U.vm) qK, qD⟩, fun U hU hW => ⟨rfl, by rw [hU], Zz_go hZ hS hFc hU hW, Yy_go hY hW, by rw [hU]; exact hPc, va_K.moved hW.alike hKc, hDc.weaken (fun _ _ _ _ => trivial)⟩⟩ rfl rfl hl.1 rfl (lv_room (Nat.le_of_ble_eq_true rfl)) dL_law_1927 ⟨Nat.le_of_ble_eq_true rfl, Nat.le_of_ble_eq_true rfl⟩) hS (fun q _ h => hFc q h) hFc (fun q _ h => hFc q h) (fun E ce q9 u t H1 locs ht hvm hpx hBX hz1 hk1 hS hce hcv hcl => ?_) (fun r109 u t H1 locs ht hvm hw hB hz1 hk1 hS => ?_)
  · exact False.elim hBX
  · skip
    obtain ⟨hP1, hK1, hD1⟩ := hB
    rw [ht] at hP1
    try dsimp only at hw
    obtain ⟨hP, hD⟩ := va_join (wr := [(aZ, .inr (15, fsZ)), (q_things, .inl (k_things, 5, .inl f_things))]) (w1 := []) hP hD [0, 1, 2] [3, 4] rfl rfl (by decide) (by decide) hk1 hFc hP1 hD1
    have hK := hK.sub (tys' := [(k_things, .int)]) [1] rfl
    generalize H1 = H at hP hS ⊢
    refine W.widen (k := 391) (n := 571365) (by omega) (by omega) ?_
    have hP : va_P (dC, dI) vwCl [(aZ, .inr (15, fsZ)), (q_things, .inl (k_things, 5, .inl f_things))] H := hP
    have hD : va_D A [(aZ, .inr (15, fsZ)), (q_things, .inl (k_things, 5, .inl f_things))] := hD
    rcases hw with ⟨c110, er111⟩ | ⟨c112, c113, er114⟩ | ⟨c115, c116, c117, er118⟩ | ⟨c119, c120, c121, c122, er123⟩
    · skip
      subst er111
      refine lv_istore (lv' := [(5, .int 1), (0, .ref b), (1, .ref aX), (2, .ref aZ), (3, .ref qO), (4, .int 0)]) hx hb dL_law_1930 hl (by decide) rfl (fun ls hl => ?_)
      refine lv_aload_n hx hb dL_law_1932 rfl (lv_at hl 3 rfl) ?_
      refine lv_aload_n hx hb dL_law_1933 rfl (lv_at hl 1 rfl) ?_
      refine lv_iload hx hb dL_law_1934 (lv_at hl 5 rfl) ?_
      refine lv_iconst (v := 1) hx hb dL_law_1936 (by decide) ?_
      refine lv_iadd hx hb dL_law_1937  ?_
      refine lv_topi (fun x124 ex124 => ?_)
      obtain rfl : x124 = 1 := ex124.trans (by decide)
      refine va_sld hx hb hX hbl hbA hS (show vp_in 1 6 from by unfold vp_in; decide) dL_law_1938 ?_
      refine lv_topi (fun x125 ex125 => ?_)
      obtain rfl : w1 = x125 := hw1.trans ex125.symm
      refine lv_aload_n hx hb dL_law_1939 rfl (lv_at hl 1 rfl) ?_
      refine lv_iload hx hb dL_law_1940 (lv_at hl 5 rfl) ?_
      refine lv_iconst (v := 2) hx hb dL_law_1942 (by decide) ?_
      refine lv_iadd hx hb dL_law_1943  ?_
      refine lv_topi (fun x126 ex126 => ?_)
      obtain rfl : x126 = 2 := ex126.trans (by decide)
      refine va_sld hx hb hX hbl hbA hS (show vp_in 2 6 from by unfold vp_in; decide) dL_law_1944 ?_
      refine lv_topi (fun x127 ex127 => ?_)
      obtain rfl : w2 = x127 := hw2.trans ex127.symm
      refine lv_aload_n hx hb dL_law_1945 rfl (lv_at hl 1 rfl) ?_
      refine lv_iload hx hb dL_law_1946 (lv_at hl 5 rfl) ?_
      refine lv_iconst (v := 3) hx hb dL_law_1948 (by decide) ?_
      refine lv_iadd hx hb dL_law_1949  ?_
      refine lv_topi (fun x128 ex128 => ?_)
      obtain rfl : x128 = 3 := ex128.trans (by decide)
      refine va_sld hx hb hX hbl hbA hS (show vp_in 3 6 from by unfold vp_in; decide) dL_law_1950 ?_
      refine lv_topi (fun x129 ex129 => ?_)
      obtain rfl : w3 = x129 := hw3.trans ex129.symm
      refine lv_aload_n hx hb dL_law_1951 rfl (lv_at hl 1 rfl) ?_
      refine lv_iload hx hb dL_law_1952 (lv_at hl 5 rfl) ?_
      refine lv_iconst (v := 4) hx hb dL_law_1954 (by decide) ?_
      refine lv_iadd hx hb dL_law_1955  ?_
      refine lv_topi (fun x130 ex130 => ?_)
      obtain rfl : x130 = 4 := ex130.trans (by decide)
      refine va_sld hx hb hX hbl hbA hS (show vp_in 4 6 from by unfold vp_in; decide) dL_law_1956 ?_
      refine lv_topi (fun x131 ex131 => ?_)
      obtain rfl : w4 = x131 := hw4.trans ex131.symm
      have hPc := hP.sub (ws' := [(aZ, .inr (15, fsZ)), (q_things, .inl (k_things, 5, .inl f_things))]) [0, 1] rfl
      have hDc := hD.sub (ws' := [(aZ, .inr (15, fsZ)), (q_things, .inl (k_things, 5, .inl f_things))]) [0, 1] (by decide) rfl
      have hKc := hK.sub (tys' := [(k_things, .int)]) [0] rfl
      have hFc := va_free (wc := [(aZ, .inr (15, fsZ)), (q_things, .inl (k_things, 5, .inl f_things))]) hD hS hA [0, 1] rfl
      refine va_calli (va_runV (As := [.int w1, .int w2, .int w3, .int w4]) (rest := []) ⟨hx, hb, hml, hown, hts⟩ (z_X12_holder l dC dI H.size aZ fsZ q_things f_things k_things w1 w2 w3 w4 (fh_sub o_fsZ.2 [0, 1] rfl) hz_f_things) (cwV 4 hts g_lk_29_z_X12_holder_241 rfl rfl rfl (by decide +kernel) ⟨Nat.le_of_ble_eq_true rfl, Nat.le_of_ble_eq_true rfl⟩) ⟨fun a U g mk q => by obtain ⟨q0, q1, qP, qK, qD⟩ := q; exact ⟨q0, q1, qP, va_K.moved (u := U) (U := U.calling g mk a) (Vm.Alike.refl U.vm) qK, qD⟩, va_recv hK hP (ci := 15) (q0 := 0) rfl rfl, fun U hU hW => ⟨rfl, by rw [hU], by rw [hU]; exact hPc, va_K.moved hW.alike hKc, hDc.weaken (fun _ _ _ _ => trivial)⟩⟩ rfl rfl hl.1 rfl (lv_room (Nat.le_of_ble_eq_true rfl)) dL_law_1957 ⟨Nat.le_of_ble_eq_true rfl, Nat.le_of_ble_eq_true rfl⟩) hS (fun q _ h => hFc q h) hFc (fun r132 u t H1 locs ht hvm hw hB hz1 hk1 hS => ?_)
      obtain ⟨s133, rfl⟩ : ∃ z, z = u := ⟨_, rfl⟩
      obtain ⟨hP1, hK1, hD1⟩ := hB
      rw [ht] at hP1
      try dsimp only at hw
      obtain ⟨hP, hD⟩ := va_join (wr := []) (w1 := [(aZ, .inr (15, s133)), (q_things, .inl (k_things, 5, .inl f_things))]) hP hD [0, 1] [] rfl rfl (by decide) (by decide) hk1 hFc hP1 hD1
      have hK := hK.sub (tys' := [(k_things, .int)]) [0] rfl
      generalize H1 = H at hP hS ⊢
      have hP : va_P (dC, dI) vwCl [(aZ, .inr (15, s133)), (q_things, .inl (k_things, 5, .inl f_things))] H := hP
      have hD : va_D A [(aZ, .inr (15, s133)), (q_things, .inl (k_things, 5, .inl f_things))] := hD
      rcases hw with ⟨c134, er135, o_s133⟩ | ⟨c136, c137, er138, o_s133⟩ | ⟨c139, c140, c141, er142, o_s133⟩ | ⟨c143, c144, c145, c146, er147, o_s133⟩
      · skip
        subst er135
        have o_s133 := ow_on o_fsZ o_s133 (l' := [(0, .int 1), (48, .ref q_things), (48, .ref q_things)]) (w' := [0]) rfl rfl
        refine lv_istore (lv' := [(6, .int 0), (5, .int 1), (0, .ref b), (1, .ref aX), (2, .ref aZ), (3, .ref qO), (4, .int 0)]) hx hb dL_law_1960 hl (by decide) rfl (fun ls hl => ?_)
        refine lv_aload_n hx hb dL_law_1962 rfl (lv_at hl 4 rfl) ?_
        have hPc := hP.sub (ws' := [(aZ, .inr (15, s133))]) [0] rfl
        have hDc := hD.sub (ws' := [(aZ, .inr (15, s133))]) [0] (by decide) rfl
        have hKc := hK.sub (tys' := []) [] rfl
        have hFc := va_free (wc := [(aZ, .inr (15, s133))]) hD hS hA [0] rfl
        refine va_calli (va_runV (As := []) (rest := []) ⟨hx, hb, hml, hown, hts⟩ (z_X12_thrown l dC dI H.size aZ s133 (fh_sub o_s133.2 [0] rfl) ) (cwV 0 hts g_lk_29_z_X12_thrown_149 rfl rfl rfl (by decide +kernel) ⟨Nat.le_of_ble_eq_true rfl, Nat.le_of_ble_eq_true rfl⟩) ⟨fun a U g mk q => by obtain ⟨q0, q1, qP, qK, qD⟩ := q; exact ⟨q0, q1, qP, va_K.moved (u := U) (U := U.calling g mk a) (Vm.Alike.refl U.vm) qK, qD⟩, va_recv hK hP (ci := 15) (q0 := 0) rfl rfl, fun U hU hW => ⟨rfl, by rw [hU], by rw [hU]; exact hPc, va_K.moved hW.alike hKc, hDc.weaken (fun _ _ _ _ => trivial)⟩⟩ rfl rfl hl.1 rfl (lv_room (Nat.le_of_ble_eq_true rfl)) dL_law_1963 ⟨Nat.le_of_ble_eq_true rfl, Nat.le_of_ble_eq_true rfl⟩) hS (fun q _ h => hFc q h) hFc (fun r148 u t H1 locs ht hvm hw hB hz1 hk1 hS => ?_)
        obtain ⟨hP1, hK1, hD1⟩ := hB
        rw [ht] at hP1
        try dsimp only at hw
        obtain ⟨hP, hD⟩ := va_join (wr := [(q_things, .inl (k_things, 5, .inl f_things))]) (w1 := [(aZ, .inr (15, s133))]) hP hD [0] [1] rfl rfl (by decide) (by decide) hk1 hFc hP1 hD1
        have hK := hK.sub (tys' := [(k_things, .int)]) [0] rfl
        generalize H1 = H at hP hS ⊢
        have hP : va_P (dC, dI) vwCl [(q_things, .inl (k_things, 5, .inl f_things)), (aZ, .inr (15, s133))] H := hP
        have hD : va_D A [(q_things, .inl (k_things, 5, .inl f_things)), (aZ, .inr (15, s133))] := hD
        have er149 := hw
        subst er149
        refine lv_iload hx hb dL_law_1966 (lv_at hl 1 rfl) ?_
        refine lv_icmp_eq (tgt := 1973) hx hb dL_law_1968 (by decide) (fun c150 => ?_) (fun c150 => absurd c150 (by decide))
        refine lv_iload hx hb dL_law_1973 (lv_at hl 1 rfl) ?_
        refine lv_if_ne (tgt := 1990) hx hb dL_law_1975 (by decide) (fun c151 => ?_) (fun c151 => absurd c151 (by decide))
        refine lv_goto (tgt := 3111) hx hb dL_law_1990 (by decide) ?_
        exact lw_end hst C0 hA hAf hZ hY (Nat.le_of_ble_eq_true rfl) (Nat.le_of_ble_eq_true rfl) dC dI P0k P0 D0 hS ls (lv_sub hl [2, 6] rfl)
      · exact (by exfalso; (try simp only [i_lt, i_le, i_eq, kc_0, kc_4] at c110 c136 c137); omega)
      · exact (by exfalso; (try simp only [i_lt, i_le, i_eq, kc_0, kc_4] at c110 c139 c140); omega)
      · exact (by exfalso; (try simp only [i_lt, i_le, i_eq, kc_0, kc_4] at c110 c143 c144); omega)
    · skip
      subst er114
      refine lv_istore (lv' := [(5, .int 1), (0, .ref b), (1, .ref aX), (2, .ref aZ), (3, .ref qO), (4, .int 0)]) hx hb dL_law_1930 hl (by decide) rfl (fun ls hl => ?_)
      refine lv_aload_n hx hb dL_law_1932 rfl (lv_at hl 3 rfl) ?_
      refine lv_aload_n hx hb dL_law_1933 rfl (lv_at hl 1 rfl) ?_
      refine lv_iload hx hb dL_law_1934 (lv_at hl 5 rfl) ?_
      refine lv_iconst (v := 1) hx hb dL_law_1936 (by decide) ?_
      refine lv_iadd hx hb dL_law_1937  ?_
      refine lv_topi (fun x152 ex152 => ?_)
      obtain rfl : x152 = 1 := ex152.trans (by decide)
      refine va_sld hx hb hX hbl hbA hS (show vp_in 1 6 from by unfold vp_in; decide) dL_law_1938 ?_
      refine lv_topi (fun x153 ex153 => ?_)
      obtain rfl : w1 = x153 := hw1.trans ex153.symm
      refine lv_aload_n hx hb dL_law_1939 rfl (lv_at hl 1 rfl) ?_
      refine lv_iload hx hb dL_law_1940 (lv_at hl 5 rfl) ?_
      refine lv_iconst (v := 2) hx hb dL_law_1942 (by decide) ?_
      refine lv_iadd hx hb dL_law_1943  ?_
      refine lv_topi (fun x154 ex154 => ?_)
      obtain rfl : x154 = 2 := ex154.trans (by decide)
      refine va_sld hx hb hX hbl hbA hS (show vp_in 2 6 from by unfold vp_in; decide) dL_law_1944 ?_
      refine lv_topi (fun x155 ex155 => ?_)
      obtain rfl : w2 = x155 := hw2.trans ex155.symm
      refine lv_aload_n hx hb dL_law_1945 rfl (lv_at hl 1 rfl) ?_
      refine lv_iload hx hb dL_law_1946 (lv_at hl 5 rfl) ?_
      refine lv_iconst (v := 3) hx hb dL_law_1948 (by decide) ?_
      refine lv_iadd hx hb dL_law_1949  ?_
      refine lv_topi (fun x156 ex156 => ?_)
      obtain rfl : x156 = 3 := ex156.trans (by decide)
      refine va_sld hx hb hX hbl hbA hS (show vp_in 3 6 from by unfold vp_in; decide) dL_law_1950 ?_
      refine lv_topi (fun x157 ex157 => ?_)
      obtain rfl : w3 = x157 := hw3.trans ex157.symm
      refine lv_aload_n hx hb dL_law_1951 rfl (lv_at hl 1 rfl) ?_
      refine lv_iload hx hb dL_law_1952 (lv_at hl 5 rfl) ?_
      refine lv_iconst (v := 4) hx hb dL_law_1954 (by decide) ?_
      refine lv_iadd hx hb dL_law_1955  ?_
      refine lv_topi (fun x158 ex158 => ?_)
      obtain rfl : x158 = 4 := ex158.trans (by decide)
      refine va_sld hx hb hX hbl hbA hS (show vp_in 4 6 from by unfold vp_in; decide) dL_law_1956 ?_
      refine lv_topi (fun x159 ex159 => ?_)
      obtain rfl : w4 = x159 := hw4.trans ex159.symm
      have hPc := hP.sub (ws' := [(aZ, .inr (15, fsZ)), (q_things, .inl (k_things, 5, .inl f_things))]) [0, 1] rfl
      have hDc := hD.sub (ws' := [(aZ, .inr (15, fsZ)), (q_things, .inl (k_things, 5, .inl f_things))]) [0, 1] (by decide) rfl
      have hKc := hK.sub (tys' := [(k_things, .int)]) [0] rfl
      have hFc := va_free (wc := [(aZ, .inr (15, fsZ)), (q_things, .inl (k_things, 5, .inl f_things))]) hD hS hA [0, 1] rfl
      refine va_calli (va_runV (As := [.int w1, .int w2, .int w3, .int w4]) (rest := []) ⟨hx, hb, hml, hown, hts⟩ (z_X12_holder l dC dI H.size aZ fsZ q_things f_things k_things w1 w2 w3 w4 (fh_sub o_fsZ.2 [0, 1] rfl) hz_f_things) (cwV 4 hts g_lk_29_z_X12_holder_241 rfl rfl rfl (by decide +kernel) ⟨Nat.le_of_ble_eq_true rfl, Nat.le_of_ble_eq_true rfl⟩) ⟨fun a U g mk q => by obtain ⟨q0, q1, qP, qK, qD⟩ := q; exact ⟨q0, q1, qP, va_K.moved (u := U) (U := U.calling g mk a) (Vm.Alike.refl U.vm) qK, qD⟩, va_recv hK hP (ci := 15) (q0 := 0) rfl rfl, fun U hU hW => ⟨rfl, by rw [hU], by rw [hU]; exact hPc, va_K.moved hW.alike hKc, hDc.weaken (fun _ _ _ _ => trivial)⟩⟩ rfl rfl hl.1 rfl (lv_room (Nat.le_of_ble_eq_true rfl)) dL_law_1957 ⟨Nat.le_of_ble_eq_true rfl, Nat.le_of_ble_eq_true rfl⟩) hS (fun q _ h => hFc q h) hFc (fun r160 u t H1 locs ht hvm hw hB hz1 hk1 hS => ?_)
      obtain ⟨s161, rfl⟩ : ∃ z, z = u := ⟨_, rfl⟩
      obtain ⟨hP1, hK1, hD1⟩ := hB
      rw [ht] at hP1
      try dsimp only at hw
      obtain ⟨hP, hD⟩ := va_join (wr := []) (w1 := [(aZ, .inr (15, s161)), (q_things, .inl (k_things, 5, .inl f_things))]) hP hD [0, 1] [] rfl rfl (by decide) (by decide) hk1 hFc hP1 hD1
      have hK := hK.sub (tys' := [(k_things, .int)]) [0] rfl
      generalize H1 = H at hP hS ⊢
      have hP : va_P (dC, dI) vwCl [(aZ, .inr (15, s161)), (q_things, .inl (k_things, 5, .inl f_things))] H := hP
      have hD : va_D A [(aZ, .inr (15, s161)), (q_things, .inl (k_things, 5, .inl f_things))] := hD
      rcases hw with ⟨c162, er163, o_s161⟩ | ⟨c164, c165, er166, o_s161⟩ | ⟨c167, c168, c169, er170, o_s161⟩ | ⟨c171, c172, c173, c174, er175, o_s161⟩
      · exact (by exfalso; (try simp only [i_lt, i_le, i_eq, kc_0, kc_4] at c112 c113 c162); omega)
      · skip
        subst er166
        have o_s161 := ow_on o_fsZ o_s161 (l' := [(0, .int 1), (48, .ref q_things), (48, .ref q_things)]) (w' := [0]) rfl rfl
        refine lv_istore (lv' := [(6, .int 0), (5, .int 1), (0, .ref b), (1, .ref aX), (2, .ref aZ), (3, .ref qO), (4, .int 0)]) hx hb dL_law_1960 hl (by decide) rfl (fun ls hl => ?_)
        refine lv_aload_n hx hb dL_law_1962 rfl (lv_at hl 4 rfl) ?_
        have hPc := hP.sub (ws' := [(aZ, .inr (15, s161))]) [0] rfl
        have hDc := hD.sub (ws' := [(aZ, .inr (15, s161))]) [0] (by decide) rfl
        have hKc := hK.sub (tys' := []) [] rfl
        have hFc := va_free (wc := [(aZ, .inr (15, s161))]) hD hS hA [0] rfl
        refine va_calli (va_runV (As := []) (rest := []) ⟨hx, hb, hml, hown, hts⟩ (z_X12_thrown l dC dI H.size aZ s161 (fh_sub o_s161.2 [0] rfl) ) (cwV 0 hts g_lk_29_z_X12_thrown_149 rfl rfl rfl (by decide +kernel) ⟨Nat.le_of_ble_eq_true rfl, Nat.le_of_ble_eq_true rfl⟩) ⟨fun a U g mk q => by obtain ⟨q0, q1, qP, qK, qD⟩ := q; exact ⟨q0, q1, qP, va_K.moved (u := U) (U := U.calling g mk a) (Vm.Alike.refl U.vm) qK, qD⟩, va_recv hK hP (ci := 15) (q0 := 0) rfl rfl, fun U hU hW => ⟨rfl, by rw [hU], by rw [hU]; exact hPc, va_K.moved hW.alike hKc, hDc.weaken (fun _ _ _ _ => trivial)⟩⟩ rfl rfl hl.1 rfl (lv_room (Nat.le_of_ble_eq_true rfl)) dL_law_1963 ⟨Nat.le_of_ble_eq_true rfl, Nat.le_of_ble_eq_true rfl⟩) hS (fun q _ h => hFc q h) hFc (fun r176 u t H1 locs ht hvm hw hB hz1 hk1 hS => ?_)
        obtain ⟨hP1, hK1, hD1⟩ := hB
        rw [ht] at hP1
        try dsimp only at hw
        obtain ⟨hP, hD⟩ := va_join (wr := [(q_things, .inl (k_things, 5, .inl f_things))]) (w1 := [(aZ, .inr (15, s161))]) hP hD [0] [1] rfl rfl (by decide) (by decide) hk1 hFc hP1 hD1
        have hK := hK.sub (tys' := [(k_things, .int)]) [0] rfl
        generalize H1 = H at hP hS ⊢
        have hP : va_P (dC, dI) vwCl [(q_things, .inl (k_things, 5, .inl f_things)), (aZ, .inr (15, s161))] H := hP
        have hD : va_D A [(q_things, .inl (k_things, 5, .inl f_things)), (aZ, .inr (15, s161))] := hD
        have er177 := hw
        subst er177
        refine lv_iload hx hb dL_law_1966 (lv_at hl 1 rfl) ?_
        refine lv_icmp_eq (tgt := 1973) hx hb dL_law_1968 (by decide) (fun c178 => ?_) (fun c178 => absurd c178 (by decide))
        refine lv_iload hx hb dL_law_1973 (lv_at hl 1 rfl) ?_
        refine lv_if_ne (tgt := 1990) hx hb dL_law_1975 (by decide) (fun c179 => ?_) (fun c179 => absurd c179 (by decide))
        refine lv_goto (tgt := 3111) hx hb dL_law_1990 (by decide) ?_
        exact lw_end hst C0 hA hAf hZ hY (Nat.le_of_ble_eq_true rfl) (Nat.le_of_ble_eq_true rfl) dC dI P0k P0 D0 hS ls (lv_sub hl [2, 6] rfl)
      · exact (by exfalso; (try simp only [i_lt, i_le, i_eq, kc_0, kc_4] at c112 c113 c167 c168); omega)
      · exact (by exfalso; (try simp only [i_lt, i_le, i_eq, kc_0, kc_4] at c112 c113 c171 c172); omega)
    · skip
      subst er118
      refine lv_istore (lv' := [(5, .int 1), (0, .ref b), (1, .ref aX), (2, .ref aZ), (3, .ref qO), (4, .int 0)]) hx hb dL_law_1930 hl (by decide) rfl (fun ls hl => ?_)
      refine lv_aload_n hx hb dL_law_1932 rfl (lv_at hl 3 rfl) ?_
      refine lv_aload_n hx hb dL_law_1933 rfl (lv_at hl 1 rfl) ?_
      refine lv_iload hx hb dL_law_1934 (lv_at hl 5 rfl) ?_
      refine lv_iconst (v := 1) hx hb dL_law_1936 (by decide) ?_
      refine lv_iadd hx hb dL_law_1937  ?_
      refine lv_topi (fun x180 ex180 => ?_)
      obtain rfl : x180 = 1 := ex180.trans (by decide)
      refine va_sld hx hb hX hbl hbA hS (show vp_in 1 6 from by unfold vp_in; decide) dL_law_1938 ?_
      refine lv_topi (fun x181 ex181 => ?_)
      obtain rfl : w1 = x181 := hw1.trans ex181.symm
      refine lv_aload_n hx hb dL_law_1939 rfl (lv_at hl 1 rfl) ?_
      refine lv_iload hx hb dL_law_1940 (lv_at hl 5 rfl) ?_
      refine lv_iconst (v := 2) hx hb dL_law_1942 (by decide) ?_
      refine lv_iadd hx hb dL_law_1943  ?_
      refine lv_topi (fun x182 ex182 => ?_)
      obtain rfl : x182 = 2 := ex182.trans (by decide)
      refine va_sld hx hb hX hbl hbA hS (show vp_in 2 6 from by unfold vp_in; decide) dL_law_1944 ?_
      refine lv_topi (fun x183 ex183 => ?_)
      obtain rfl : w2 = x183 := hw2.trans ex183.symm
      refine lv_aload_n hx hb dL_law_1945 rfl (lv_at hl 1 rfl) ?_
      refine lv_iload hx hb dL_law_1946 (lv_at hl 5 rfl) ?_
      refine lv_iconst (v := 3) hx hb dL_law_1948 (by decide) ?_
      refine lv_iadd hx hb dL_law_1949  ?_
      refine lv_topi (fun x184 ex184 => ?_)
      obtain rfl : x184 = 3 := ex184.trans (by decide)
      refine va_sld hx hb hX hbl hbA hS (show vp_in 3 6 from by unfold vp_in; decide) dL_law_1950 ?_
      refine lv_topi (fun x185 ex185 => ?_)
      obtain rfl : w3 = x185 := hw3.trans ex185.symm
      refine lv_aload_n hx hb dL_law_1951 rfl (lv_at hl 1 rfl) ?_
      refine lv_iload hx hb dL_law_1952 (lv_at hl 5 rfl) ?_
      refine lv_iconst (v := 4) hx hb dL_law_1954 (by decide) ?_
      refine lv_iadd hx hb dL_law_1955  ?_
      refine lv_topi (fun x186 ex186 => ?_)
      obtain rfl : x186 = 4 := ex186.trans (by decide)
      refine va_sld hx hb hX hbl hbA hS (show vp_in 4 6 from by unfold vp_in; decide) dL_law_1956 ?_
      refine lv_topi (fun x187 ex187 => ?_)
      obtain rfl : w4 = x187 := hw4.trans ex187.symm
      have hPc := hP.sub (ws' := [(aZ, .inr (15, fsZ)), (q_things, .inl (k_things, 5, .inl f_things))]) [0, 1] rfl
      have hDc := hD.sub (ws' := [(aZ, .inr (15, fsZ)), (q_things, .inl (k_things, 5, .inl f_things))]) [0, 1] (by decide) rfl
      have hKc := hK.sub (tys' := [(k_things, .int)]) [0] rfl
      have hFc := va_free (wc := [(aZ, .inr (15, fsZ)), (q_things, .inl (k_things, 5, .inl f_things))]) hD hS hA [0, 1] rfl
      refine va_calli (va_runV (As := [.int w1, .int w2, .int w3, .int w4]) (rest := []) ⟨hx, hb, hml, hown, hts⟩ (z_X12_holder l dC dI H.size aZ fsZ q_things f_things k_things w1 w2 w3 w4 (fh_sub o_fsZ.2 [0, 1] rfl) hz_f_things) (cwV 4 hts g_lk_29_z_X12_holder_241 rfl rfl rfl (by decide +kernel) ⟨Nat.le_of_ble_eq_true rfl, Nat.le_of_ble_eq_true rfl⟩) ⟨fun a U g mk q => by obtain ⟨q0, q1, qP, qK, qD⟩ := q; exact ⟨q0, q1, qP, va_K.moved (u := U) (U := U.calling g mk a) (Vm.Alike.refl U.vm) qK, qD⟩, va_recv hK hP (ci := 15) (q0 := 0) rfl rfl, fun U hU hW => ⟨rfl, by rw [hU], by rw [hU]; exact hPc, va_K.moved hW.alike hKc, hDc.weaken (fun _ _ _ _ => trivial)⟩⟩ rfl rfl hl.1 rfl (lv_room (Nat.le_of_ble_eq_true rfl)) dL_law_1957 ⟨Nat.le_of_ble_eq_true rfl, Nat.le_of_ble_eq_true rfl⟩) hS (fun q _ h => hFc q h) hFc (fun r188 u t H1 locs ht hvm hw hB hz1 hk1 hS => ?_)
      obtain ⟨s189, rfl⟩ : ∃ z, z = u := ⟨_, rfl⟩
      obtain ⟨hP1, hK1, hD1⟩ := hB
      rw [ht] at hP1
      try dsimp only at hw
      obtain ⟨hP, hD⟩ := va_join (wr := []) (w1 := [(aZ, .inr (15, s189)), (q_things, .inl (k_things, 5, .inl f_things))]) hP hD [0, 1] [] rfl rfl (by decide) (by decide) hk1 hFc hP1 hD1
      have hK := hK.sub (tys' := [(k_things, .int)]) [0] rfl
      generalize H1 = H at hP hS ⊢
      have hP : va_P (dC, dI) vwCl [(aZ, .inr (15, s189)), (q_things, .inl (k_things, 5, .inl f_things))] H := hP
      have hD : va_D A [(aZ, .inr (15, s189)), (q_things, .inl (k_things, 5, .inl f_things))] := hD
      rcases hw with ⟨c190, er191, o_s189⟩ | ⟨c192, c193, er194, o_s189⟩ | ⟨c195, c196, c197, er198, o_s189⟩ | ⟨c199, c200, c201, c202, er203, o_s189⟩
      · exact (by exfalso; (try simp only [i_lt, i_le, i_eq, kc_0, kc_4] at c115 c116 c190); omega)
      · exact (by exfalso; (try simp only [i_lt, i_le, i_eq, kc_0, kc_4] at c115 c116 c192 c193); omega)
      · skip
        subst er198
        have o_s189 := ow_on o_fsZ o_s189 (l' := [(0, .int 1), (48, .ref q_things), (48, .ref q_things)]) (w' := [0]) rfl rfl
        refine lv_istore (lv' := [(6, .int 0), (5, .int 1), (0, .ref b), (1, .ref aX), (2, .ref aZ), (3, .ref qO), (4, .int 0)]) hx hb dL_law_1960 hl (by decide) rfl (fun ls hl => ?_)
        refine lv_aload_n hx hb dL_law_1962 rfl (lv_at hl 4 rfl) ?_
        have hPc := hP.sub (ws' := [(aZ, .inr (15, s189))]) [0] rfl
        have hDc := hD.sub (ws' := [(aZ, .inr (15, s189))]) [0] (by decide) rfl
        have hKc := hK.sub (tys' := []) [] rfl
        have hFc := va_free (wc := [(aZ, .inr (15, s189))]) hD hS hA [0] rfl
        refine va_calli (va_runV (As := []) (rest := []) ⟨hx, hb, hml, hown, hts⟩ (z_X12_thrown l dC dI H.size aZ s189 (fh_sub o_s189.2 [0] rfl) ) (cwV 0 hts g_lk_29_z_X12_thrown_149 rfl rfl rfl (by decide +kernel) ⟨Nat.le_of_ble_eq_true rfl, Nat.le_of_ble_eq_true rfl⟩) ⟨fun a U g mk q => by obtain ⟨q0, q1, qP, qK, qD⟩ := q; exact ⟨q0, q1, qP, va_K.moved (u := U) (U := U.calling g mk a) (Vm.Alike.refl U.vm) qK, qD⟩, va_recv hK hP (ci := 15) (q0 := 0) rfl rfl, fun U hU hW => ⟨rfl, by rw [hU], by rw [hU]; exact hPc, va_K.moved hW.alike hKc, hDc.weaken (fun _ _ _ _ => trivial)⟩⟩ rfl rfl hl.1 rfl (lv_room (Nat.le_of_ble_eq_true rfl)) dL_law_1963 ⟨Nat.le_of_ble_eq_true rfl, Nat.le_of_ble_eq_true rfl⟩) hS (fun q _ h => hFc q h) hFc (fun r204 u t H1 locs ht hvm hw hB hz1 hk1 hS => ?_)
        obtain ⟨hP1, hK1, hD1⟩ := hB
        rw [ht] at hP1
        try dsimp only at hw
        obtain ⟨hP, hD⟩ := va_join (wr := [(q_things, .inl (k_things, 5, .inl f_things))]) (w1 := [(aZ, .inr (15, s189))]) hP hD [0] [1] rfl rfl (by decide) (by decide) hk1 hFc hP1 hD1
        have hK := hK.sub (tys' := [(k_things, .int)]) [0] rfl
        generalize H1 = H at hP hS ⊢
        have hP : va_P (dC, dI) vwCl [(q_things, .inl (k_things, 5, .inl f_things)), (aZ, .inr (15, s189))] H := hP
        have hD : va_D A [(q_things, .inl (k_things, 5, .inl f_things)), (aZ, .inr (15, s189))] := hD
        have er205 := hw
        subst er205
        refine lv_iload hx hb dL_law_1966 (lv_at hl 1 rfl) ?_
        refine lv_icmp_eq (tgt := 1973) hx hb dL_law_1968 (by decide) (fun c206 => ?_) (fun c206 => absurd c206 (by decide))
        refine lv_iload hx hb dL_law_1973 (lv_at hl 1 rfl) ?_
        refine lv_if_ne (tgt := 1990) hx hb dL_law_1975 (by decide) (fun c207 => ?_) (fun c207 => absurd c207 (by decide))
        refine lv_goto (tgt := 3111) hx hb dL_law_1990 (by decide) ?_
        exact lw_end hst C0 hA hAf hZ hY (Nat.le_of_ble_eq_true rfl) (Nat.le_of_ble_eq_true rfl) dC dI P0k P0 D0 hS ls (lv_sub hl [2, 6] rfl)
      · exact (by exfalso; (try simp only [i_lt, i_le, i_eq, kc_0] at c117 c201 c202); omega)
    · skip
      subst er123
      refine lv_istore (lv' := [(5, .int 1), (0, .ref b), (1, .ref aX), (2, .ref aZ), (3, .ref qO), (4, .int 0)]) hx hb dL_law_1930 hl (by decide) rfl (fun ls hl => ?_)
      refine lv_aload_n hx hb dL_law_1932 rfl (lv_at hl 3 rfl) ?_
      refine lv_aload_n hx hb dL_law_1933 rfl (lv_at hl 1 rfl) ?_
      refine lv_iload hx hb dL_law_1934 (lv_at hl 5 rfl) ?_
      refine lv_iconst (v := 1) hx hb dL_law_1936 (by decide) ?_
      refine lv_iadd hx hb dL_law_1937  ?_
      refine lv_topi (fun x208 ex208 => ?_)
      obtain rfl : x208 = 1 := ex208.trans (by decide)
      refine va_sld hx hb hX hbl hbA hS (show vp_in 1 6 from by unfold vp_in; decide) dL_law_1938 ?_
      refine lv_topi (fun x209 ex209 => ?_)
      obtain rfl : w1 = x209 := hw1.trans ex209.symm
      refine lv_aload_n hx hb dL_law_1939 rfl (lv_at hl 1 rfl) ?_
      refine lv_iload hx hb dL_law_1940 (lv_at hl 5 rfl) ?_
      refine lv_iconst (v := 2) hx hb dL_law_1942 (by decide) ?_
      refine lv_iadd hx hb dL_law_1943  ?_
      refine lv_topi (fun x210 ex210 => ?_)
      obtain rfl : x210 = 2 := ex210.trans (by decide)
      refine va_sld hx hb hX hbl hbA hS (show vp_in 2 6 from by unfold vp_in; decide) dL_law_1944 ?_
      refine lv_topi (fun x211 ex211 => ?_)
      obtain rfl : w2 = x211 := hw2.trans ex211.symm
      refine lv_aload_n hx hb dL_law_1945 rfl (lv_at hl 1 rfl) ?_
      refine lv_iload hx hb dL_law_1946 (lv_at hl 5 rfl) ?_
      refine lv_iconst (v := 3) hx hb dL_law_1948 (by decide) ?_
      refine lv_iadd hx hb dL_law_1949  ?_
      refine lv_topi (fun x212 ex212 => ?_)
      obtain rfl : x212 = 3 := ex212.trans (by decide)
      refine va_sld hx hb hX hbl hbA hS (show vp_in 3 6 from by unfold vp_in; decide) dL_law_1950 ?_
      refine lv_topi (fun x213 ex213 => ?_)
      obtain rfl : w3 = x213 := hw3.trans ex213.symm
      refine lv_aload_n hx hb dL_law_1951 rfl (lv_at hl 1 rfl) ?_
      refine lv_iload hx hb dL_law_1952 (lv_at hl 5 rfl) ?_
      refine lv_iconst (v := 4) hx hb dL_law_1954 (by decide) ?_
      refine lv_iadd hx hb dL_law_1955  ?_
      refine lv_topi (fun x214 ex214 => ?_)
      obtain rfl : x214 = 4 := ex214.trans (by decide)
      refine va_sld hx hb hX hbl hbA hS (show vp_in 4 6 from by unfold vp_in; decide) dL_law_1956 ?_
      refine lv_topi (fun x215 ex215 => ?_)
      obtain rfl : w4 = x215 := hw4.trans ex215.symm
      have hPc := hP.sub (ws' := [(aZ, .inr (15, fsZ)), (q_things, .inl (k_things, 5, .inl f_things))]) [0, 1] rfl
      have hDc := hD.sub (ws' := [(aZ, .inr (15, fsZ)), (q_things, .inl (k_things, 5, .inl f_things))]) [0, 1] (by decide) rfl
      have hKc := hK.sub (tys' := [(k_things, .int)]) [0] rfl
      have hFc := va_free (wc := [(aZ, .inr (15, fsZ)), (q_things, .inl (k_things, 5, .inl f_things))]) hD hS hA [0, 1] rfl
      refine va_calli (va_runV (As := [.int w1, .int w2, .int w3, .int w4]) (rest := []) ⟨hx, hb, hml, hown, hts⟩ (z_X12_holder l dC dI H.size aZ fsZ q_things f_things k_things w1 w2 w3 w4 (fh_sub o_fsZ.2 [0, 1] rfl) hz_f_things) (cwV 4 hts g_lk_29_z_X12_holder_241 rfl rfl rfl (by decide +kernel) ⟨Nat.le_of_ble_eq_true rfl, Nat.le_of_ble_eq_true rfl⟩) ⟨fun a U g mk q => by obtain ⟨q0, q1, qP, qK, qD⟩ := q; exact ⟨q0, q1, qP, va_K.moved (u := U) (U := U.calling g mk a) (Vm.Alike.refl U.vm) qK, qD⟩, va_recv hK hP (ci := 15) (q0 := 0) rfl rfl, fun U hU hW => ⟨rfl, by rw [hU], by rw [hU]; exact hPc, va_K.moved hW.alike hKc, hDc.weaken (fun _ _ _ _ => trivial)⟩⟩ rfl rfl hl.1 rfl (lv_room (Nat.le_of_ble_eq_true rfl)) dL_law_1957 ⟨Nat.le_of_ble_eq_true rfl, Nat.le_of_ble_eq_true rfl⟩) hS (fun q _ h => hFc q h) hFc (fun r216 u t H1 locs ht hvm hw hB hz1 hk1 hS => ?_)
      obtain ⟨s217, rfl⟩ : ∃ z, z = u := ⟨_, rfl⟩
      obtain ⟨hP1, hK1, hD1⟩ := hB
      rw [ht] at hP1
      try dsimp only at hw
      obtain ⟨hP, hD⟩ := va_join (wr := []) (w1 := [(aZ, .inr (15, s217)), (q_things, .inl (k_things, 5, .inl f_things))]) hP hD [0, 1] [] rfl rfl (by decide) (by decide) hk1 hFc hP1 hD1
      have hK := hK.sub (tys' := [(k_things, .int)]) [0] rfl
      generalize H1 = H at hP hS ⊢
      have hP : va_P (dC, dI) vwCl [(aZ, .inr (15, s217)), (q_things, .inl (k_things, 5, .inl f_things))] H := hP
      have hD : va_D A [(aZ, .inr (15, s217)), (q_things, .inl (k_things, 5, .inl f_things))] := hD
      rcases hw with ⟨c218, er219, o_s217⟩ | ⟨c220, c221, er222, o_s217⟩ | ⟨c223, c224, c225, er226, o_s217⟩ | ⟨c227, c228, c229, c230, er231, o_s217⟩
      · exact (by exfalso; (try simp only [i_lt, i_le, i_eq, kc_0, kc_4] at c119 c120 c218); omega)
      · exact (by exfalso; (try simp only [i_lt, i_le, i_eq, kc_0, kc_4] at c119 c120 c220 c221); omega)
      · exact (by exfalso; (try simp only [i_lt, i_le, i_eq, kc_0] at c121 c122 c225); omega)
      · skip
        subst er231
        have o_s217 := ow_on o_fsZ o_s217 (l' := [(0, .int 1), (48, .ref q_things), (48, .ref q_things)]) (w' := [0]) rfl rfl
        refine lv_istore (lv' := [(6, .int 0), (5, .int 1), (0, .ref b), (1, .ref aX), (2, .ref aZ), (3, .ref qO), (4, .int 0)]) hx hb dL_law_1960 hl (by decide) rfl (fun ls hl => ?_)
        refine lv_aload_n hx hb dL_law_1962 rfl (lv_at hl 4 rfl) ?_
        have hPc := hP.sub (ws' := [(aZ, .inr (15, s217))]) [0] rfl
        have hDc := hD.sub (ws' := [(aZ, .inr (15, s217))]) [0] (by decide) rfl
        have hKc := hK.sub (tys' := []) [] rfl
        have hFc := va_free (wc := [(aZ, .inr (15, s217))]) hD hS hA [0] rfl
        refine va_calli (va_runV (As := []) (rest := []) ⟨hx, hb, hml, hown, hts⟩ (z_X12_thrown l dC dI H.size aZ s217 (fh_sub o_s217.2 [0] rfl) ) (cwV 0 hts g_lk_29_z_X12_thrown_149 rfl rfl rfl (by decide +kernel) ⟨Nat.le_of_ble_eq_true rfl, Nat.le_of_ble_eq_true rfl⟩) ⟨fun a U g mk q => by obtain ⟨q0, q1, qP, qK, qD⟩ := q; exact ⟨q0, q1, qP, va_K.moved (u := U) (U := U.calling g mk a) (Vm.Alike.refl U.vm) qK, qD⟩, va_recv hK hP (ci := 15) (q0 := 0) rfl rfl, fun U hU hW => ⟨rfl, by rw [hU], by rw [hU]; exact hPc, va_K.moved hW.alike hKc, hDc.weaken (fun _ _ _ _ => trivial)⟩⟩ rfl rfl hl.1 rfl (lv_room (Nat.le_of_ble_eq_true rfl)) dL_law_1963 ⟨Nat.le_of_ble_eq_true rfl, Nat.le_of_ble_eq_true rfl⟩) hS (fun q _ h => hFc q h) hFc (fun r232 u t H1 locs ht hvm hw hB hz1 hk1 hS => ?_)
        obtain ⟨hP1, hK1, hD1⟩ := hB
        rw [ht] at hP1
        try dsimp only at hw
        obtain ⟨hP, hD⟩ := va_join (wr := [(q_things, .inl (k_things, 5, .inl f_things))]) (w1 := [(aZ, .inr (15, s217))]) hP hD [0] [1] rfl rfl (by decide) (by decide) hk1 hFc hP1 hD1
        have hK := hK.sub (tys' := [(k_things, .int)]) [0] rfl
        generalize H1 = H at hP hS ⊢
        have hP : va_P (dC, dI) vwCl [(q_things, .inl (k_things, 5, .inl f_things)), (aZ, .inr (15, s217))] H := hP
        have hD : va_D A [(q_things, .inl (k_things, 5, .inl f_things)), (aZ, .inr (15, s217))] := hD
        have er233 := hw
        subst er233
        refine lv_iload hx hb dL_law_1966 (lv_at hl 1 rfl) ?_
        refine lv_icmp_eq (tgt := 1973) hx hb dL_law_1968 (by decide) (fun c234 => ?_) (fun c234 => absurd c234 (by decide))
        refine lv_iload hx hb dL_law_1973 (lv_at hl 1 rfl) ?_
        refine lv_if_ne (tgt := 1990) hx hb dL_law_1975 (by decide) (fun c235 => ?_) (fun c235 => absurd c235 (by decide))
        refine lv_goto (tgt := 3111) hx hb dL_law_1990 (by decide) ?_
        exact lw_end hst C0 hA hAf hZ hY (Nat.le_of_ble_eq_true rfl) (Nat.le_of_ble_eq_true rfl) dC dI P0k P0 D0 hS ls (lv_sub hl [2, 6] rfl)

set_option maxRecDepth 20000 in
theorem g_lk_30_z_X11_picture_242 : GoodIn lwW (wsV RL 242 RX11 yX11_picture w_z_X11_picture) := goodIn_app (goodIn_sub (ws := ([.methodLink RL 242 yX11_picture, .instanceMethod yX11_picture, .selects RX11 yX11_picture yX11_picture, .initialized RX11] : List Cond)) (gm_c (gm_at lwV_62_in 11 rfl) (gm_c (gm_at lwV_63_in 0 rfl) (gm_c (gm_at lwV_63_in 1 rfl) (gm_c (gm_at lwV_0_in 3 rfl) gm_nil)))) (by decide +kernel)) (goodIn_ca (goodIn_sub (ws := .code yX11_picture cX11_picture 4 (some .int) :: l_z_X11_picture) (gm_c (gm_at lwV_63_in 5 rfl) (gm_c (gm_at lwV_55_in 7 rfl) (gm_c (gm_at lwV_55_in 8 rfl) (gm_c (gm_at lwV_0_in 3 rfl) (gm_c (gm_at lwV_55_in 0 rfl) (gm_c (gm_at lwV_55_in 5 rfl) (gm_c (gm_at lwV_63_in 6 rfl) (gm_c (gm_at lwV_63_in 7 rfl) (gm_c (gm_at lwV_63_in 8 rfl) (gm_c (gm_at lwV_55_in 4 rfl) (gm_c (gm_at lwV_63_in 9 rfl) (gm_c (gm_at lwV_63_in 10 rfl) (gm_c (gm_at lwV_63_in 11 rfl) (gm_c (gm_at lwV_7_in 7 rfl) (gm_c (gm_at lwV_64_in 0 rfl) (gm_c (gm_at lwV_64_in 1 rfl) (gm_c (gm_at lwV_64_in 2 rfl) (gm_c (gm_at lwV_64_in 3 rfl) (gm_c (gm_at lwV_64_in 4 rfl) (gm_c (gm_at lwV_64_in 5 rfl) (gm_c (gm_at lwV_7_in 8 rfl) (gm_c (gm_at lwV_7_in 9 rfl) (gm_c (gm_at lwV_7_in 10 rfl) (gm_c (gm_at lwV_7_in 11 rfl) (gm_c (gm_at lwV_55_in 9 rfl) (gm_c (gm_at lwV_64_in 6 rfl) (gm_c (gm_at lwV_56_in 9 rfl) (gm_c (gm_at lwV_64_in 7 rfl) (gm_c (gm_at lwV_64_in 8 rfl) (gm_c (gm_at lwV_64_in 9 rfl) (gm_c (gm_at lwV_64_in 10 rfl) (gm_c (gm_at lwV_64_in 11 rfl) (gm_c (gm_at lwV_65_in 0 rfl) (gm_c (gm_at lwV_65_in 1 rfl) (gm_c (gm_at lwV_65_in 2 rfl) (gm_c (gm_at lwV_65_in 3 rfl) (gm_c (gm_at lwV_65_in 4 rfl) (gm_c (gm_at lwV_65_in 5 rfl) (gm_c (gm_at lwV_65_in 6 rfl) (gm_c (gm_at lwV_65_in 7 rfl) (gm_c (gm_at lwV_65_in 8 rfl) (gm_c (gm_at lwV_28_in 9 rfl) (gm_c (gm_at lwV_3_in 2 rfl) (gm_c (gm_at lwV_65_in 9 rfl) (gm_c (gm_at lwV_65_in 10 rfl) (gm_c (gm_at lwV_28_in 10 rfl) (gm_c (gm_at lwV_28_in 11 rfl) (gm_c (gm_at lwV_29_in 0 rfl) (gm_c (gm_at lwV_29_in 1 rfl) (gm_c (gm_at lwV_65_in 11 rfl) (gm_c (gm_at lwV_66_in 0 rfl) (gm_c (gm_at lwV_66_in 1 rfl) (gm_c (gm_at lwV_66_in 2 rfl) (gm_c (gm_at lwV_66_in 3 rfl) (gm_c (gm_at lwV_66_in 4 rfl) (gm_c (gm_at lwV_66_in 5 rfl) (gm_c (gm_at lwV_66_in 6 rfl) (gm_c (gm_at lwV_3_in 1 rfl) (gm_c (gm_at lwV_66_in 7 rfl) (gm_c (gm_at lwV_3_in 3 rfl) (gm_c (gm_at lwV_66_in 8 rfl) (gm_c (gm_at lwV_56_in 5 rfl) (gm_c (gm_at lwV_66_in 9 rfl) (gm_c (gm_at lwV_8_in 9 rfl) (gm_c (gm_at lwV_8_in 10 rfl) gm_nil))))))))))))))))))))))))))))))))))))))))))))))))))))))))))))))))) (by decide +kernel)) (goodIn_app (goodIn_in il_X11 gd_X11) (goodIn_app (goodIn_in il_X5 gd_X5) (goodIn_app (goodIn_in il_X8 gd_X8) (goodIn_in il_X10 gd_X10)))))
set_option maxRecDepth 20000 in
theorem g_lk_30_z_X12_picture_245 : GoodIn lwW (wsV RL 245 RX12 yX12_picture w_z_X12_picture) := goodIn_app (goodIn_sub (ws := ([.methodLink RL 245 yX12_picture, .instanceMethod yX12_picture, .selects RX12 yX12_picture yX12_picture, .initialized RX12] : List Cond)) (gm_c (gm_at lwV_63_in 2 rfl) (gm_c (gm_at lwV_63_in 3 rfl) (gm_c (gm_at lwV_63_in 4 rfl) (gm_c (gm_at lwV_0_in 7 rfl) gm_nil)))) (by decide +kernel)) (goodIn_ca (goodIn_sub (ws := .code yX12_picture cX12_picture 10 (some .int) :: l_z_X12_picture) (gm_c (gm_at lwV_66_in 10 rfl) (gm_c (gm_at lwV_1_in 5 rfl) (gm_c (gm_at lwV_57_in 0 rfl) (gm_c (gm_at lwV_57_in 1 rfl) (gm_c (gm_at lwV_57_in 2 rfl) (gm_c (gm_at lwV_0_in 7 rfl) (gm_c (gm_at lwV_57_in 9 rfl) (gm_c (gm_at lwV_59_in 8 rfl) (gm_c (gm_at lwV_59_in 6 rfl) (gm_c (gm_at lwV_9_in 3 rfl) (gm_c (gm_at lwV_9_in 4 rfl) (gm_c (gm_at lwV_9_in 5 rfl) (gm_c (gm_at lwV_57_in 10 rfl) (gm_c (gm_at lwV_9_in 7 rfl) (gm_c (gm_at lwV_9_in 8 rfl) gm_nil))))))))))))))) (by decide +kernel)) (goodIn_in il_X12 gd_X12))
set_option maxHeartbeats 4000000 in
set_option maxRecDepth 100000 in
/-- the law, one call: picture -/
theorem lk_30 {p : Program} {l : Launch} {e : Env} {s : State} {m : MethodId} {below : List Frame} {meth : Method} {c : Code} {b : Nat} {xs : Nat → Int32} (hst : l.stackTraces = false) (C0 : lw_At p s m meth c b 6 xs) {A : Nat → Prop} (hA : ∀ q : Nat, s.heap.size ≤ q → A q) (hAf : ∀ q : Nat, A q → s.heap.size ≤ q) (hZ : Zz A s) (hY : Yy s) (dC : Nat → ClassId) (dI : Nat → Nat → Nat) (aX : Nat) (fsX : List Value) (aY : Nat) (fsY : List Value) (qP : Nat) (gP : Nat → Option Nat) (kP : ClassId) (ap : Nat) (fsp : List Value) (aSh : Nat) (fss : List Value) (ql : Nat) (fl : Nat → Int32) (kl : ClassId) (qt : Nat) (ft : Nat → Int32) (kt : ClassId) (qk : Nat) (fk : Nat → Int32) (kk : ClassId) (aZ : Nat) (fsZ : List Value) (q_things : Nat) (f_things : Nat → Int32) (k_things : ClassId) (q_ringMany : Nat) (f_ringMany : Nat → Int32) (k_ringMany : ClassId) (q_groupMany : Nat) (f_groupMany : Nat → Int32) (k_groupMany : ClassId) (qO : Nat) (w1 : Int32) (hw1 : w1 = xs (1 : Int32).toNatClampNeg) (w2 : Int32) (hw2 : w2 = xs (2 : Int32).toNatClampNeg) (w3 : Int32) (hw3 : w3 = xs (3 : Int32).toNatClampNeg) (w4 : Int32) (hw4 : w4 = xs (4 : Int32).toNatClampNeg) (w5 : Int32) (hw5 : w5 = xs (5 : Int32).toNatClampNeg) (k_fsX : fh fsX 18 [(1, .ref aY), (4, .ref qP)]) (k_fsY : fh fsY 18 [(0, .int 0)]) (k_fsp : fh fsp 21 [(0, .int 0), (20, .ref aSh)]) (k_fss : fh fss 18 [(1, .int 0), (13, .ref ql), (15, .ref qt), (17, .ref qk), (9, .int 0), (11, .int 0)]) (k_fsZ : fh fsZ 150 [(20, .int 0), (48, .ref q_things), (63, .ref q_ringMany), (64, .ref q_groupMany)]) (hg : gP w1.toNatClampNeg = some ap) (hz_f_things : ∀ j, f_things j = 0) (hz_f_ringMany : ∀ j, f_ringMany j = 0) (hz_f_groupMany : ∀ j, f_groupMany j = 0) {H : Heap} {locs : List Loc} (hK : va_K (dC, dI) vwCl [(kP, .object "HeapWorks$Picture"), (kl, .int), (kt, .int), (kk, .int), (k_things, .int), (k_ringMany, .int), (k_groupMany, .int)] s) (hP : va_P (dC, dI) vwCl [(aX, .inr (14, fsX)), (aY, .inr (13, fsY)), (qP, .inl (kP, 4, .inr (.inr (.inr (.inr gP))))), (ap, .inr (8, fsp)), (aSh, .inr (11, fss)), (ql, .inl (kl, 400, .inl fl)), (qt, .inl (kt, 400, .inl ft)), (qk, .inl (kk, 512, .inl fk)), (aZ, .inr (15, fsZ)), (q_things, .inl (k_things, 5, .inl f_things)), (q_ringMany, .inl (k_ringMany, 5, .inl f_ringMany)), (q_groupMany, .inl (k_groupMany, 5, .inl f_groupMany))] H) (hD : va_D A [(aX, .inr (14, fsX)), (aY, .inr (13, fsY)), (qP, .inl (kP, 4, .inr (.inr (.inr (.inr gP))))), (ap, .inr (8, fsp)), (aSh, .inr (11, fss)), (ql, .inl (kl, 400, .inl fl)), (qt, .inl (kt, 400, .inl ft)), (qk, .inl (kk, 512, .inl fk)), (aZ, .inr (15, fsZ)), (q_things, .inl (k_things, 5, .inl f_things)), (q_ringMany, .inl (k_ringMany, 5, .inl f_ringMany)), (q_groupMany, .inl (k_groupMany, 5, .inl f_groupMany))]) (hS : va_S A s.heap H locs) (ls : Array Slot) (hl : lv_has ls 8 [(0, .ref b), (1, .ref aX), (2, .ref aZ), (3, .ref qO), (4, .int 0)]) : W p l e room_1 s m #[Value.ref b] below meth c H locs 390 571359 (lw_Z below #[Value.ref b] s) (F0 m 1993 ls []) := by
  obtain ⟨hx, hb, hr, hml, hown0, hts0, hX, hbl, hlocks, hgv⟩ := id C0
  have hown : s.vm.findClass RL = some m.cls := hown0
  have hts : ∀ w ∈ lwW, w.before #[Value.ref b] s = true := fun w h => hts0 w (lwW_in w h)
  have hbA : ¬ A b := fun h => absurd (hAf b h) (Nat.not_le.mpr hbl)
  have o_fsX := ow_0 k_fsX
  have o_fsY := ow_0 k_fsY
  have o_fsp := ow_0 k_fsp
  have o_fss := ow_0 k_fss
  have o_fsZ := ow_0 k_fsZ
  refine lv_aload_n hx hb dL_law_1993 rfl (lv_at hl 1 rfl) ?_
  refine lv_aload_n hx hb dL_law_1994 rfl (lv_at hl 0 rfl) ?_
  refine lv_iload hx hb dL_law_1995 (lv_at hl 4 rfl) ?_
  refine lv_iconst (v := 1) hx hb dL_law_1997 (by decide) ?_
  refine lv_iadd hx hb dL_law_1998  ?_
  refine lv_topi (fun x101 ex101 => ?_)
  obtain rfl : x101 = 1 := ex101.trans (by decide)
  refine va_sld hx hb hX hbl hbA hS (show vp_in 1 6 from by unfold vp_in; decide) dL_law_1999 ?_
  refine lv_topi (fun x102 ex102 => ?_)
  obtain rfl : w1 = x102 := hw1.trans ex102.symm
  refine lv_aload_n hx hb dL_law_2000 rfl (lv_at hl 0 rfl) ?_
  refine lv_iload hx hb dL_law_2001 (lv_at hl 4 rfl) ?_
  refine lv_iconst (v := 2) hx hb dL_law_2003 (by decide) ?_
  refine lv_iadd hx hb dL_law_2004  ?_
  refine lv_topi (fun x103 ex103 => ?_)
  obtain rfl : x103 = 2 := ex103.trans (by decide)
  refine va_sld hx hb hX hbl hbA hS (show vp_in 2 6 from by unfold vp_in; decide) dL_law_2005 ?_
  refine lv_topi (fun x104 ex104 => ?_)
  obtain rfl : w2 = x104 := hw2.trans ex104.symm
  have hPc := hP.sub (ws' := [(aX, .inr (14, fsX)), (aY, .inr (13, fsY)), (qP, .inl (kP, 4, .inr (.inr (.inr (.inr gP))))), (ap, .inr (8, fsp)), (aSh, .inr (11, fss)), (ql, .inl (kl, 400, .inl fl)), (qt, .inl (kt, 400, .inl ft)), (qk, .inl (kk, 512, .inl fk))]) [0, 1, 2, 3, 4, 5, 6, 7] rfl
  have hDc := hD.sub (ws' := [(aX, .inr (14, fsX)), (aY, .inr (13, fsY)), (qP, .inl (kP, 4, .inr (.inr (.inr (.inr gP))))), (ap, .inr (8, fsp)), (aSh, .inr (11, fss)), (ql, .inl (kl, 400, .inl fl)), (qt, .inl (kt, 400, .inl ft)), (qk, .inl (kk, 512, .inl fk))]) [0, 1, 2, 3, 4, 5, 6, 7] (by decide) rfl
  have hKc := hK.sub (tys' := [(kP, .object "HeapWorks$Picture"), (kl, .int), (kt, .int), (kk, .int)]) [0, 1, 2, 3] rfl
  have hFc := va_free (wc := [(aX, .inr (14, fsX)), (aY, .inr (13, fsY)), (qP, .inl (kP, 4, .inr (.inr (.inr (.inr gP))))), (ap, .inr (8, fsp)), (aSh, .inr (11, fss)), (ql, .inl (kl, 400, .inl fl)), (qt, .inl (kt, 400, .inl ft)), (qk, .inl (kk, 512, .inl fk))]) hD hS hA [0, 1, 2, 3, 4, 5, 6, 7] rfl
  refine va_calli (va_runV (As := [.int w1, .int w2]) (rest := []) ⟨hx, hb, hml, hown, hts⟩ (z_X11_picture l dC dI H.size aX fsX aY fsY qP gP kP ap fsp aSh fss ql fl kl qt ft kt qk fk kk w1 w2 (fh_sub o_fsX.2 [0, 1] rfl) (fh_sub o_fsY.2 [0] rfl) (fh_sub o_fsp.2 [0, 1] rfl) (fh_sub o_fss.2 [0, 1, 2, 3, 4, 5] rfl) hg) (cwV 2 hts g_lk_30_z_X11_picture_242 rfl rfl rfl (by decide +kernel) ⟨Nat.le_of_ble_eq_true rfl, Nat.le_of_ble_eq_true rfl⟩) ⟨fun a U g mk q => by obtain ⟨q0, q1, qP, qK, qD⟩ := q; exact ⟨q0, q1, qP, va_K.moved (u := U) (U := U.calling g mk a) (Vm.Alike.refl U.vm) qK, qD⟩, va_recv hK hP (ci := 14) (q0 := 0) rfl rfl, fun U hU hW => ⟨rfl, by rw [hU], by rw [hU]; exact hPc, va_K.moved hW.alike hKc, hDc.weaken (fun _ _ _ _ => trivial)⟩⟩ rfl rfl hl.1 rfl (lv_room (Nat.le_of_ble_eq_true rfl)) dL_law_2006 ⟨Nat.le_of_ble_eq_true rfl, Nat.le_of_ble_eq_true rfl⟩) hS (fun q _ h => hFc q h) hFc (fun r105 u t H1 locs ht hvm hw hB hz1 hk1 hS => ?_)
  obtain ⟨s106, f107⟩ := u
  obtain ⟨hP1, hK1, hD1⟩ := hB
  rw [ht] at hP1
  try dsimp only at hw
  obtain ⟨hP, hD⟩ := va_join (wr := [(aZ, .inr (15, fsZ)), (q_things, .inl (k_things, 5, .inl f_things)), (q_ringMany, .inl (k_ringMany, 5, .inl f_ringMany)), (q_groupMany, .inl (k_groupMany, 5, .inl f_groupMany))]) (w1 := [(aX, .inr (14, fsX)), (aY, .inr (13, fsY)), (qP, .inl (kP, 4, .inr (.inr (.inr (.inr gP))))), (ap, .inr (8, fsp)), (aSh, .inr (11, s106)), (ql, .inl (kl, 400, .inl fl)), (qt, .inl (kt, 400, .inl ft)), (qk, .inl (kk, 512, .inl f107))]) hP hD [0, 1, 2, 3, 4, 5, 6, 7] [8, 9, 10, 11] rfl rfl (by decide) (by decide) hk1 hFc hP1 hD1
  have hK := hK.sub (tys' := [(k_things, .int), (k_ringMany, .int), (k_groupMany, .int), (kP, .object "HeapWorks$Picture"), (kl, .int), (kt, .int), (kk, .int)]) [4, 5, 6, 0, 1, 2, 3] rfl
  generalize H1 = H at hP hS ⊢
  have hP : va_P (dC, dI) vwCl [(aZ, .inr (15, fsZ)), (q_things, .inl (k_things, 5, .inl f_things)), (q_ringMany, .inl (k_ringMany, 5, .inl f_ringMany)), (q_groupMany, .inl (k_groupMany, 5, .inl f_groupMany)), (aX, .inr (14, fsX)), (aY, .inr (13, fsY)), (qP, .inl (kP, 4, .inr (.inr (.inr (.inr gP))))), (ap, .inr (8, fsp)), (aSh, .inr (11, s106)), (ql, .inl (kl, 400, .inl fl)), (qt, .inl (kt, 400, .inl ft)), (qk, .inl (kk, 512, .inl f107))] H := hP
  have hD : va_D A [(aZ, .inr (15, fsZ)), (q_things, .inl (k_things, 5, .inl f_things)), (q_ringMany, .inl (k_ringMany, 5, .inl f_ringMany)), (q_groupMany, .inl (k_groupMany, 5, .inl f_groupMany)), (aX, .inr (14, fsX)), (aY, .inr (13, fsY)), (qP, .inl (kP, 4, .inr (.inr (.inr (.inr gP))))), (ap, .inr (8, fsp)), (aSh, .inr (11, s106)), (ql, .inl (kl, 400, .inl fl)), (qt, .inl (kt, 400, .inl ft)), (qk, .inl (kk, 512, .inl f107))] := hD
  rcases hw with ⟨c108, er109, o_s106⟩ | ⟨c110, c111, er112, o_s106⟩ | ⟨c113, c114, c115, er116, o_s106⟩ | ⟨c117, c118, c119, er120, o_s106⟩ | ⟨c121, c122, c123, er124, o_s106⟩ | ⟨c125, c126, c127, er128, o_s106⟩ | ⟨c129, c130, c131, er132, o_s106⟩ | ⟨c133, c134, c135, er136, o_s106⟩ | ⟨c137, c138, c139, c140, c141, c142, c143, c144, c145, c146, er147, o_s106⟩ | ⟨c148, c149, c150, c151, c152, c153, c154, c155, c156, c157, er158, o_s106⟩ | ⟨c159, c160, c161, c162, c163, c164, c165, c166, c167, er168, o_s106⟩
  · skip
    subst er109
    have o_s106 := ow_on o_fss o_s106 (l' := [(1, .int 0), (13, .ref ql), (15, .ref qt), (17, .ref qk), (9, .int 0), (11, .int 0), (1, .int 0), (13, .ref ql), (15, .ref qt), (17, .ref qk), (9, .int 0), (11, .int 0)]) (w' := []) rfl rfl
    refine lv_aload_n hx hb dL_law_2009 rfl (lv_at hl 2 rfl) ?_
    refine lv_aload_n hx hb dL_law_2010 rfl (lv_at hl 0 rfl) ?_
    refine lv_iload hx hb dL_law_2011 (lv_at hl 4 rfl) ?_
    refine lv_iconst (v := 1) hx hb dL_law_2013 (by decide) ?_
    refine lv_iadd hx hb dL_law_2014  ?_
    refine lv_topi (fun x169 ex169 => ?_)
    obtain rfl : x169 = 1 := ex169.trans (by decide)
    refine va_sld hx hb hX hbl hbA hS (show vp_in 1 6 from by unfold vp_in; decide) dL_law_2015 ?_
    refine lv_topi (fun x170 ex170 => ?_)
    obtain rfl : w1 = x170 := hw1.trans ex170.symm
    refine lv_aload_n hx hb dL_law_2016 rfl (lv_at hl 0 rfl) ?_
    refine lv_iload hx hb dL_law_2017 (lv_at hl 4 rfl) ?_
    refine lv_iconst (v := 2) hx hb dL_law_2019 (by decide) ?_
    refine lv_iadd hx hb dL_law_2020  ?_
    refine lv_topi (fun x171 ex171 => ?_)
    obtain rfl : x171 = 2 := ex171.trans (by decide)
    refine va_sld hx hb hX hbl hbA hS (show vp_in 2 6 from by unfold vp_in; decide) dL_law_2021 ?_
    refine lv_topi (fun x172 ex172 => ?_)
    obtain rfl : w2 = x172 := hw2.trans ex172.symm
    have hPc := hP.sub (ws' := [(aZ, .inr (15, fsZ)), (q_things, .inl (k_things, 5, .inl f_things)), (q_ringMany, .inl (k_ringMany, 5, .inl f_ringMany)), (q_groupMany, .inl (k_groupMany, 5, .inl f_groupMany))]) [0, 1, 2, 3] rfl
    have hDc := hD.sub (ws' := [(aZ, .inr (15, fsZ)), (q_things, .inl (k_things, 5, .inl f_things)), (q_ringMany, .inl (k_ringMany, 5, .inl f_ringMany)), (q_groupMany, .inl (k_groupMany, 5, .inl f_groupMany))]) [0, 1, 2, 3] (by decide) rfl
    have hKc := hK.sub (tys' := [(k_things, .int), (k_ringMany, .int), (k_groupMany, .int)]) [0, 1, 2] rfl
    have hFc := va_free (wc := [(aZ, .inr (15, fsZ)), (q_things, .inl (k_things, 5, .inl f_things)), (q_ringMany, .inl (k_ringMany, 5, .inl f_ringMany)), (q_groupMany, .inl (k_groupMany, 5, .inl f_groupMany))]) hD hS hA [0, 1, 2, 3] rfl
    refine va_calli (va_runV (As := [.int w1, .int w2]) (rest := [.int (-1)]) ⟨hx, hb, hml, hown, hts⟩ (z_X12_picture l dC dI H.size aZ fsZ q_things f_things k_things q_ringMany f_ringMany k_ringMany q_groupMany f_groupMany k_groupMany w1 w2 (fh_sub o_fsZ.2 [0, 1, 2, 3] rfl) hz_f_things hz_f_ringMany hz_f_groupMany) (cwV 2 hts g_lk_30_z_X12_picture_245 rfl rfl rfl (by decide +kernel) ⟨Nat.le_of_ble_eq_true rfl, Nat.le_of_ble_eq_true rfl⟩) ⟨fun a U g mk q => by obtain ⟨q0, q1, qP, qK, qD⟩ := q; exact ⟨q0, q1, qP, va_K.moved (u := U) (U := U.calling g mk a) (Vm.Alike.refl U.vm) qK, qD⟩, va_recv hK hP (ci := 15) (q0 := 0) rfl rfl, fun U hU hW => ⟨rfl, by rw [hU], by rw [hU]; exact hPc, va_K.moved hW.alike hKc, hDc.weaken (fun _ _ _ _ => trivial)⟩⟩ rfl rfl hl.1 rfl (lv_room (Nat.le_of_ble_eq_true rfl)) dL_law_2022 ⟨Nat.le_of_ble_eq_true rfl, Nat.le_of_ble_eq_true rfl⟩) hS (fun q _ h => hFc q h) hFc (fun r173 u t H1 locs ht hvm hw hB hz1 hk1 hS => ?_)
    obtain ⟨s174, rfl⟩ : ∃ z, z = u := ⟨_, rfl⟩
    obtain ⟨hP1, hK1, hD1⟩ := hB
    rw [ht] at hP1
    try dsimp only at hw
    obtain ⟨hP, hD⟩ := va_join (wr := [(aX, .inr (14, fsX)), (aY, .inr (13, fsY)), (qP, .inl (kP, 4, .inr (.inr (.inr (.inr gP))))), (ap, .inr (8, fsp)), (aSh, .inr (11, s106)), (ql, .inl (kl, 400, .inl fl)), (qt, .inl (kt, 400, .inl ft)), (qk, .inl (kk, 512, .inl f107))]) (w1 := [(aZ, .inr (15, s174)), (q_things, .inl (k_things, 5, .inl f_things)), (q_ringMany, .inl (k_ringMany, 5, .inl f_ringMany)), (q_groupMany, .inl (k_groupMany, 5, .inl f_groupMany))]) hP hD [0, 1, 2, 3] [4, 5, 6, 7, 8, 9, 10, 11] rfl rfl (by decide) (by decide) hk1 hFc hP1 hD1
    have hK := hK.sub (tys' := [(kP, .object "HeapWorks$Picture"), (kl, .int), (kt, .int), (kk, .int), (k_things, .int), (k_ringMany, .int), (k_groupMany, .int)]) [3, 4, 5, 6, 0, 1, 2] rfl
    generalize H1 = H at hP hS ⊢
    have hP : va_P (dC, dI) vwCl [(aX, .inr (14, fsX)), (aY, .inr (13, fsY)), (qP, .inl (kP, 4, .inr (.inr (.inr (.inr gP))))), (ap, .inr (8, fsp)), (aSh, .inr (11, s106)), (ql, .inl (kl, 400, .inl fl)), (qt, .inl (kt, 400, .inl ft)), (qk, .inl (kk, 512, .inl f107)), (aZ, .inr (15, s174)), (q_things, .inl (k_things, 5, .inl f_things)), (q_ringMany, .inl (k_ringMany, 5, .inl f_ringMany)), (q_groupMany, .inl (k_groupMany, 5, .inl f_groupMany))] H := hP
    have hD : va_D A [(aX, .inr (14, fsX)), (aY, .inr (13, fsY)), (qP, .inl (kP, 4, .inr (.inr (.inr (.inr gP))))), (ap, .inr (8, fsp)), (aSh, .inr (11, s106)), (ql, .inl (kl, 400, .inl fl)), (qt, .inl (kt, 400, .inl ft)), (qk, .inl (kk, 512, .inl f107)), (aZ, .inr (15, s174)), (q_things, .inl (k_things, 5, .inl f_things)), (q_ringMany, .inl (k_ringMany, 5, .inl f_ringMany)), (q_groupMany, .inl (k_groupMany, 5, .inl f_groupMany))] := hD
    rcases hw with ⟨c175, er176, o_s174⟩ | ⟨c177, c178, er179, o_s174⟩ | ⟨c180, c181, c182, c183, c184, c185, c186, c187, c188, c189, er190, o_s174⟩ | ⟨c191, c192, c193, c194, c195, c196, c197, c198, c199, c200, er201, o_s174⟩ | ⟨c202, c203, c204, c205, c206, c207, c208, c209, c210, er211, o_s174⟩ | ⟨c212, c213, c214, c215, c216, c217, c218, c219, er220, o_s174⟩ | ⟨c221, c222, c223, c224, c225, c226, c227, er228, o_s174⟩ | ⟨c229, c230, c231, c232, c233, c234, er235, o_s174⟩ | ⟨c236, c237, c238, c239, c240, er241, o_s174⟩ | ⟨c242, c243, c244, c245, er246, o_s174⟩ | ⟨c247, c248, c249, er250, o_s174⟩
    · skip
      subst er176
      have o_s174 := ow_on o_fsZ o_s174 (l' := [(0, .int 0), (20, .int 0), (48, .ref q_things), (63, .ref q_ringMany), (64, .ref q_groupMany), (20, .int 0), (48, .ref q_things), (63, .ref q_ringMany), (64, .ref q_groupMany)]) (w' := [0]) rfl rfl
      refine lv_icmp_eq (tgt := 3111) hx hb dL_law_2025 (by decide) (fun c251 => ?_) (fun c251 => absurd c251 (by decide))
      exact lw_end hst C0 hA hAf hZ hY (Nat.le_of_ble_eq_true rfl) (Nat.le_of_ble_eq_true rfl) dC dI P0k P0 D0 hS ls (lv_sub hl [0, 4] rfl)
    · exact (by exfalso; (try simp only [i_lt, i_le, i_eq, kc_0, kc_4] at c108 c177 c178); omega)
    · exact (by exfalso; (try simp only [i_lt, i_le, i_eq, kc_0, kc_4] at c108 c180 c181); omega)
    · exact (by exfalso; (try simp only [i_lt, i_le, i_eq, kc_0, kc_4] at c108 c191 c192); omega)
    · exact (by exfalso; (try simp only [i_lt, i_le, i_eq, kc_0, kc_4] at c108 c202 c203); omega)
    · exact (by exfalso; (try simp only [i_lt, i_le, i_eq, kc_0, kc_4] at c108 c212 c213); omega)
    · exact (by exfalso; (try simp only [i_lt, i_le, i_eq, kc_0, kc_4] at c108 c221 c222); omega)
    · exact (by exfalso; (try simp only [i_lt, i_le, i_eq, kc_0, kc_4] at c108 c229 c230); omega)
    · exact (by exfalso; (try simp only [i_lt, i_le, i_eq, kc_0, kc_4] at c108 c236 c237); omega)
    · exact (by exfalso; (try simp only [i_lt, i_le, i_eq, kc_0, kc_4] at c108 c242 c243); omega)
    · exact (by exfalso; (try simp only [i_lt, i_le, i_eq, kc_0, kc_4] at c108 c247 c248); omega)
  · skip
    subst er112
    have o_s106 := ow_on o_fss o_s106 (l' := [(1, .int 0), (13, .ref ql), (15, .ref qt), (17, .ref qk), (9, .int 0), (11, .int 0), (1, .int 0), (13, .ref ql), (15, .ref qt), (17, .ref qk), (9, .int 0), (11, .int 0)]) (w' := []) rfl rfl
    refine lv_aload_n hx hb dL_law_2009 rfl (lv_at hl 2 rfl) ?_
    refine lv_aload_n hx hb dL_law_2010 rfl (lv_at hl 0 rfl) ?_
    refine lv_iload hx hb dL_law_2011 (lv_at hl 4 rfl) ?_
    refine lv_iconst (v := 1) hx hb dL_law_2013 (by decide) ?_
    refine lv_iadd hx hb dL_law_2014  ?_
    refine lv_topi (fun x252 ex252 => ?_)
    obtain rfl : x252 = 1 := ex252.trans (by decide)
    refine va_sld hx hb hX hbl hbA hS (show vp_in 1 6 from by unfold vp_in; decide) dL_law_2015 ?_
    refine lv_topi (fun x253 ex253 => ?_)
    obtain rfl : w1 = x253 := hw1.trans ex253.symm
    refine lv_aload_n hx hb dL_law_2016 rfl (lv_at hl 0 rfl) ?_
    refine lv_iload hx hb dL_law_2017 (lv_at hl 4 rfl) ?_
    refine lv_iconst (v := 2) hx hb dL_law_2019 (by decide) ?_
    refine lv_iadd hx hb dL_law_2020  ?_
    refine lv_topi (fun x254 ex254 => ?_)
    obtain rfl : x254 = 2 := ex254.trans (by decide)
    refine va_sld hx hb hX hbl hbA hS (show vp_in 2 6 from by unfold vp_in; decide) dL_law_2021 ?_
    refine lv_topi (fun x255 ex255 => ?_)
    obtain rfl : w2 = x255 := hw2.trans ex255.symm
    have hPc := hP.sub (ws' := [(aZ, .inr (15, fsZ)), (q_things, .inl (k_things, 5, .inl f_things)), (q_ringMany, .inl (k_ringMany, 5, .inl f_ringMany)), (q_groupMany, .inl (k_groupMany, 5, .inl f_groupMany))]) [0, 1, 2, 3] rfl
    have hDc := hD.sub (ws' := [(aZ, .inr (15, fsZ)), (q_things, .inl (k_things, 5, .inl f_things)), (q_ringMany, .inl (k_ringMany, 5, .inl f_ringMany)), (q_groupMany, .inl (k_groupMany, 5, .inl f_groupMany))]) [0, 1, 2, 3] (by decide) rfl
    have hKc := hK.sub (tys' := [(k_things, .int), (k_ringMany, .int), (k_groupMany, .int)]) [0, 1, 2] rfl
    have hFc := va_free (wc := [(aZ, .inr (15, fsZ)), (q_things, .inl (k_things, 5, .inl f_things)), (q_ringMany, .inl (k_ringMany, 5, .inl f_ringMany)), (q_groupMany, .inl (k_groupMany, 5, .inl f_groupMany))]) hD hS hA [0, 1, 2, 3] rfl
    refine va_calli (va_runV (As := [.int w1, .int w2]) (rest := [.int (-1)]) ⟨hx, hb, hml, hown, hts⟩ (z_X12_picture l dC dI H.size aZ fsZ q_things f_things k_things q_ringMany f_ringMany k_ringMany q_groupMany f_groupMany k_groupMany w1 w2 (fh_sub o_fsZ.2 [0, 1, 2, 3] rfl) hz_f_things hz_f_ringMany hz_f_groupMany) (cwV 2 hts g_lk_30_z_X12_picture_245 rfl rfl rfl (by decide +kernel) ⟨Nat.le_of_ble_eq_true rfl, Nat.le_of_ble_eq_true rfl⟩) ⟨fun a U g mk q => by obtain ⟨q0, q1, qP, qK, qD⟩ := q; exact ⟨q0, q1, qP, va_K.moved (u := U) (U := U.calling g mk a) (Vm.Alike.refl U.vm) qK, qD⟩, va_recv hK hP (ci := 15) (q0 := 0) rfl rfl, fun U hU hW => ⟨rfl, by rw [hU], by rw [hU]; exact hPc, va_K.moved hW.alike hKc, hDc.weaken (fun _ _ _ _ => trivial)⟩⟩ rfl rfl hl.1 rfl (lv_room (Nat.le_of_ble_eq_true rfl)) dL_law_2022 ⟨Nat.le_of_ble_eq_true rfl, Nat.le_of_ble_eq_true rfl⟩) hS (fun q _ h => hFc q h) hFc (fun r256 u t H1 locs ht hvm hw hB hz1 hk1 hS => ?_)
    obtain ⟨s257, rfl⟩ : ∃ z, z = u := ⟨_, rfl⟩
    obtain ⟨hP1, hK1, hD1⟩ := hB
    rw [ht] at hP1
    try dsimp only at hw
    obtain ⟨hP, hD⟩ := va_join (wr := [(aX, .inr (14, fsX)), (aY, .inr (13, fsY)), (qP, .inl (kP, 4, .inr (.inr (.inr (.inr gP))))), (ap, .inr (8, fsp)), (aSh, .inr (11, s106)), (ql, .inl (kl, 400, .inl fl)), (qt, .inl (kt, 400, .inl ft)), (qk, .inl (kk, 512, .inl f107))]) (w1 := [(aZ, .inr (15, s257)), (q_things, .inl (k_things, 5, .inl f_things)), (q_ringMany, .inl (k_ringMany, 5, .inl f_ringMany)), (q_groupMany, .inl (k_groupMany, 5, .inl f_groupMany))]) hP hD [0, 1, 2, 3] [4, 5, 6, 7, 8, 9, 10, 11] rfl rfl (by decide) (by decide) hk1 hFc hP1 hD1
    have hK := hK.sub (tys' := [(kP, .object "HeapWorks$Picture"), (kl, .int), (kt, .int), (kk, .int), (k_things, .int), (k_ringMany, .int), (k_groupMany, .int)]) [3, 4, 5, 6, 0, 1, 2] rfl
    generalize H1 = H at hP hS ⊢
    have hP : va_P (dC, dI) vwCl [(aX, .inr (14, fsX)), (aY, .inr (13, fsY)), (qP, .inl (kP, 4, .inr (.inr (.inr (.inr gP))))), (ap, .inr (8, fsp)), (aSh, .inr (11, s106)), (ql, .inl (kl, 400, .inl fl)), (qt, .inl (kt, 400, .inl ft)), (qk, .inl (kk, 512, .inl f107)), (aZ, .inr (15, s257)), (q_things, .inl (k_things, 5, .inl f_things)), (q_ringMany, .inl (k_ringMany, 5, .inl f_ringMany)), (q_groupMany, .inl (k_groupMany, 5, .inl f_groupMany))] H := hP
    have hD : va_D A [(aX, .inr (14, fsX)), (aY, .inr (13, fsY)), (qP, .inl (kP, 4, .inr (.inr (.inr (.inr gP))))), (ap, .inr (8, fsp)), (aSh, .inr (11, s106)), (ql, .inl (kl, 400, .inl fl)), (qt, .inl (kt, 400, .inl ft)), (qk, .inl (kk, 512, .inl f107)), (aZ, .inr (15, s257)), (q_things, .inl (k_things, 5, .inl f_things)), (q_ringMany, .inl (k_ringMany, 5, .inl f_ringMany)), (q_groupMany, .inl (k_groupMany, 5, .inl f_groupMany))] := hD
    rcases hw with ⟨c258, er259, o_s257⟩ | ⟨c260, c261, er262, o_s257⟩ | ⟨c263, c264, c265, c266, c267, c268, c269, c270, c271, c272, er273, o_s257⟩ | ⟨c274, c275, c276, c277, c278, c279, c280, c281, c282, c283, er284, o_s257⟩ | ⟨c285, c286, c287, c288, c289, c290, c291, c292, c293, er294, o_s257⟩ | ⟨c295, c296, c297, c298, c299, c300, c301, c302, er303, o_s257⟩ | ⟨c304, c305, c306, c307, c308, c309, c310, er311, o_s257⟩ | ⟨c312, c313, c314, c315, c316, c317, er318, o_s257⟩ | ⟨c319, c320, c321, c322, c323, er324, o_s257⟩ | ⟨c325, c326, c327, c328, er329, o_s257⟩ | ⟨c330, c331, c332, er333, o_s257⟩
    · exact (by exfalso; (try simp only [i_lt, i_le, i_eq, kc_0, kc_4] at c110 c111 c258); omega)
    · skip
      subst er262
      have o_s257 := ow_on o_fsZ o_s257 (l' := [(0, .int 0), (20, .int 0), (48, .ref q_things), (63, .ref q_ringMany), (64, .ref q_groupMany), (20, .int 0), (48, .ref q_things), (63, .ref q_ringMany), (64, .ref q_groupMany)]) (w' := [0]) rfl rfl
      refine lv_icmp_eq (tgt := 3111) hx hb dL_law_2025 (by decide) (fun c334 => ?_) (fun c334 => absurd c334 (by decide))
      exact lw_end hst C0 hA hAf hZ hY (Nat.le_of_ble_eq_true rfl) (Nat.le_of_ble_eq_true rfl) dC dI P0k P0 D0 hS ls (lv_sub hl [0, 4] rfl)
    · exact (by exfalso; (try simp only [i_lt, i_le, i_eq, kc_0, kc_4] at c110 c111 c263 c264); omega)
    · exact (by exfalso; (try simp only [i_lt, i_le, i_eq, kc_0, kc_4] at c110 c111 c274 c275); omega)
    · exact (by exfalso; (try simp only [i_lt, i_le, i_eq, kc_0, kc_4] at c110 c111 c285 c286); omega)
    · exact (by exfalso; (try simp only [i_lt, i_le, i_eq, kc_0, kc_4] at c110 c111 c295 c296); omega)
    · exact (by exfalso; (try simp only [i_lt, i_le, i_eq, kc_0, kc_4] at c110 c111 c304 c305); omega)
    · exact (by exfalso; (try simp only [i_lt, i_le, i_eq, kc_0, kc_4] at c110 c111 c312 c313); omega)
    · exact (by exfalso; (try simp only [i_lt, i_le, i_eq, kc_0, kc_4] at c110 c111 c319 c320); omega)
    · exact (by exfalso; (try simp only [i_lt, i_le, i_eq, kc_0, kc_4] at c110 c111 c325 c326); omega)
    · exact (by exfalso; (try simp only [i_lt, i_le, i_eq, kc_0, kc_4] at c110 c111 c330 c331); omega)
  · skip
    subst er116
    have o_s106 := ow_on o_fss o_s106 (l' := [(1, .int 0), (13, .ref ql), (15, .ref qt), (17, .ref qk), (9, .int 0), (11, .int 0), (1, .int 0), (13, .ref ql), (15, .ref qt), (17, .ref qk), (9, .int 0), (11, .int 0)]) (w' := []) rfl rfl
    refine lv_aload_n hx hb dL_law_2009 rfl (lv_at hl 2 rfl) ?_
    refine lv_aload_n hx hb dL_law_2010 rfl (lv_at hl 0 rfl) ?_
    refine lv_iload hx hb dL_law_2011 (lv_at hl 4 rfl) ?_
    refine lv_iconst (v := 1) hx hb dL_law_2013 (by decide) ?_
    refine lv_iadd hx hb dL_law_2014  ?_
    refine lv_topi (fun x335 ex335 => ?_)
    obtain rfl : x335 = 1 := ex335.trans (by decide)
    refine va_sld hx hb hX hbl hbA hS (show vp_in 1 6 from by unfold vp_in; decide) dL_law_2015 ?_
    refine lv_topi (fun x336 ex336 => ?_)
    obtain rfl : w1 = x336 := hw1.trans ex336.symm
    refine lv_aload_n hx hb dL_law_2016 rfl (lv_at hl 0 rfl) ?_
    refine lv_iload hx hb dL_law_2017 (lv_at hl 4 rfl) ?_
    refine lv_iconst (v := 2) hx hb dL_law_2019 (by decide) ?_
    refine lv_iadd hx hb dL_law_2020  ?_
    refine lv_topi (fun x337 ex337 => ?_)
    obtain rfl : x337 = 2 := ex337.trans (by decide)
    refine va_sld hx hb hX hbl hbA hS (show vp_in 2 6 from by unfold vp_in; decide) dL_law_2021 ?_
    refine lv_topi (fun x338 ex338 => ?_)
    obtain rfl : w2 = x338 := hw2.trans ex338.symm
    have hPc := hP.sub (ws' := [(aZ, .inr (15, fsZ)), (q_things, .inl (k_things, 5, .inl f_things)), (q_ringMany, .inl (k_ringMany, 5, .inl f_ringMany)), (q_groupMany, .inl (k_groupMany, 5, .inl f_groupMany))]) [0, 1, 2, 3] rfl
    have hDc := hD.sub (ws' := [(aZ, .inr (15, fsZ)), (q_things, .inl (k_things, 5, .inl f_things)), (q_ringMany, .inl (k_ringMany, 5, .inl f_ringMany)), (q_groupMany, .inl (k_groupMany, 5, .inl f_groupMany))]) [0, 1, 2, 3] (by decide) rfl
    have hKc := hK.sub (tys' := [(k_things, .int), (k_ringMany, .int), (k_groupMany, .int)]) [0, 1, 2] rfl
    have hFc := va_free (wc := [(aZ, .inr (15, fsZ)), (q_things, .inl (k_things, 5, .inl f_things)), (q_ringMany, .inl (k_ringMany, 5, .inl f_ringMany)), (q_groupMany, .inl (k_groupMany, 5, .inl f_groupMany))]) hD hS hA [0, 1, 2, 3] rfl
    refine va_calli (va_runV (As := [.int w1, .int w2]) (rest := [.int 0]) ⟨hx, hb, hml, hown, hts⟩ (z_X12_picture l dC dI H.size aZ fsZ q_things f_things k_things q_ringMany f_ringMany k_ringMany q_groupMany f_groupMany k_groupMany w1 w2 (fh_sub o_fsZ.2 [0, 1, 2, 3] rfl) hz_f_things hz_f_ringMany hz_f_groupMany) (cwV 2 hts g_lk_30_z_X12_picture_245 rfl rfl rfl (by decide +kernel) ⟨Nat.le_of_ble_eq_true rfl, Nat.le_of_ble_eq_true rfl⟩) ⟨fun a U g mk q => by obtain ⟨q0, q1, qP, qK, qD⟩ := q; exact ⟨q0, q1, qP, va_K.moved (u := U) (U := U.calling g mk a) (Vm.Alike.refl U.vm) qK, qD⟩, va_recv hK hP (ci := 15) (q0 := 0) rfl rfl, fun U hU hW => ⟨rfl, by rw [hU], by rw [hU]; exact hPc, va_K.moved hW.alike hKc, hDc.weaken (fun _ _ _ _ => trivial)⟩⟩ rfl rfl hl.1 rfl (lv_room (Nat.le_of_ble_eq_true rfl)) dL_law_2022 ⟨Nat.le_of_ble_eq_true rfl, Nat.le_of_ble_eq_true rfl⟩) hS (fun q _ h => hFc q h) hFc (fun r339 u t H1 locs ht hvm hw hB hz1 hk1 hS => ?_)
    obtain ⟨s340, rfl⟩ : ∃ z, z = u := ⟨_, rfl⟩
    obtain ⟨hP1, hK1, hD1⟩ := hB
    rw [ht] at hP1
    try dsimp only at hw
    obtain ⟨hP, hD⟩ := va_join (wr := [(aX, .inr (14, fsX)), (aY, .inr (13, fsY)), (qP, .inl (kP, 4, .inr (.inr (.inr (.inr gP))))), (ap, .inr (8, fsp)), (aSh, .inr (11, s106)), (ql, .inl (kl, 400, .inl fl)), (qt, .inl (kt, 400, .inl ft)), (qk, .inl (kk, 512, .inl f107))]) (w1 := [(aZ, .inr (15, s340)), (q_things, .inl (k_things, 5, .inl f_things)), (q_ringMany, .inl (k_ringMany, 5, .inl f_ringMany)), (q_groupMany, .inl (k_groupMany, 5, .inl f_groupMany))]) hP hD [0, 1, 2, 3] [4, 5, 6, 7, 8, 9, 10, 11] rfl rfl (by decide) (by decide) hk1 hFc hP1 hD1
    have hK := hK.sub (tys' := [(kP, .object "HeapWorks$Picture"), (kl, .int), (kt, .int), (kk, .int), (k_things, .int), (k_ringMany, .int), (k_groupMany, .int)]) [3, 4, 5, 6, 0, 1, 2] rfl
    generalize H1 = H at hP hS ⊢
    have hP : va_P (dC, dI) vwCl [(aX, .inr (14, fsX)), (aY, .inr (13, fsY)), (qP, .inl (kP, 4, .inr (.inr (.inr (.inr gP))))), (ap, .inr (8, fsp)), (aSh, .inr (11, s106)), (ql, .inl (kl, 400, .inl fl)), (qt, .inl (kt, 400, .inl ft)), (qk, .inl (kk, 512, .inl f107)), (aZ, .inr (15, s340)), (q_things, .inl (k_things, 5, .inl f_things)), (q_ringMany, .inl (k_ringMany, 5, .inl f_ringMany)), (q_groupMany, .inl (k_groupMany, 5, .inl f_groupMany))] H := hP
    have hD : va_D A [(aX, .inr (14, fsX)), (aY, .inr (13, fsY)), (qP, .inl (kP, 4, .inr (.inr (.inr (.inr gP))))), (ap, .inr (8, fsp)), (aSh, .inr (11, s106)), (ql, .inl (kl, 400, .inl fl)), (qt, .inl (kt, 400, .inl ft)), (qk, .inl (kk, 512, .inl f107)), (aZ, .inr (15, s340)), (q_things, .inl (k_things, 5, .inl f_things)), (q_ringMany, .inl (k_ringMany, 5, .inl f_ringMany)), (q_groupMany, .inl (k_groupMany, 5, .inl f_groupMany))] := hD
    rcases hw with ⟨c341, er342, o_s340⟩ | ⟨c343, c344, er345, o_s340⟩ | ⟨c346, c347, c348, c349, c350, c351, c352, c353, c354, c355, er356, o_s340⟩ | ⟨c357, c358, c359, c360, c361, c362, c363, c364, c365, c366, er367, o_s340⟩ | ⟨c368, c369, c370, c371, c372, c373, c374, c375, c376, er377, o_s340⟩ | ⟨c378, c379, c380, c381, c382, c383, c384, c385, er386, o_s340⟩ | ⟨c387, c388, c389, c390, c391, c392, c393, er394, o_s340⟩ | ⟨c395, c396, c397, c398, c399, c400, er401, o_s340⟩ | ⟨c402, c403, c404, c405, c406, er407, o_s340⟩ | ⟨c408, c409, c410, c411, er412, o_s340⟩ | ⟨c413, c414, c415, er416, o_s340⟩
    · exact (by exfalso; (try simp only [i_lt, i_le, i_eq, kc_0, kc_4] at c113 c114 c341); omega)
    · exact (by exfalso; (try simp only [i_lt, i_le, i_eq, kc_0, kc_4] at c113 c114 c343 c344); omega)
    · exact (by exfalso; (try simp only [i_lt, i_le, i_eq, kc_0, kc_200, kc_100, kc_1, kc_2, kc_3, kc_4, kc_5] at c115 c348 c349 c350 c351 c352 c353 c354 c355); omega)
    · exact (by exfalso; (try simp only [i_lt, i_le, i_eq, kc_0, kc_200, kc_100, kc_1, kc_2, kc_3, kc_4, kc_5] at c115 c359 c360 c361 c362 c363 c364 c365 c366); omega)
    · exact (by exfalso; (try simp only [i_lt, i_le, i_eq, kc_0, kc_200, kc_100, kc_1, kc_2, kc_3, kc_4] at c115 c370 c371 c372 c373 c374 c375 c376); omega)
    · exact (by exfalso; (try simp only [i_lt, i_le, i_eq, kc_0, kc_200, kc_100, kc_1, kc_2, kc_3] at c115 c380 c381 c382 c383 c384 c385); omega)
    · exact (by exfalso; (try simp only [i_lt, i_le, i_eq, kc_0, kc_200, kc_100, kc_1, kc_2] at c115 c389 c390 c391 c392 c393); omega)
    · exact (by exfalso; (try simp only [i_lt, i_le, i_eq, kc_0, kc_200, kc_100, kc_1] at c115 c397 c398 c399 c400); omega)
    · skip
      subst er407
      have o_s340 := ow_on o_fsZ o_s340 (l' := [(0, .int 0), (20, .int 0), (48, .ref q_things), (63, .ref q_ringMany), (64, .ref q_groupMany), (20, .int 0), (48, .ref q_things), (63, .ref q_ringMany), (64, .ref q_groupMany)]) (w' := [0]) rfl rfl
      refine lv_icmp_eq (tgt := 3111) hx hb dL_law_2025 (by decide) (fun c417 => ?_) (fun c417 => absurd c417 (by decide))
      exact lw_end hst C0 hA hAf hZ hY (Nat.le_of_ble_eq_true rfl) (Nat.le_of_ble_eq_true rfl) dC dI P0k P0 D0 hS ls (lv_sub hl [0, 4] rfl)
    · exact (by exfalso; (try simp only [i_lt, i_le, i_eq, kc_0, kc_200, kc_100] at c115 c410 c411); omega)
    · exact (by exfalso; (try simp only [i_lt, i_le, i_eq, kc_0, kc_200] at c115 c415); omega)
  · skip
    subst er120
    have o_s106 := ow_on o_fss o_s106 (l' := [(9, .int 0), (13, .ref ql), (15, .ref qt), (1, .int 4), (13, .ref ql), (15, .ref qt), (13, .ref ql), (15, .ref qt), (13, .ref ql), (15, .ref qt), (17, .ref qk), (11, .int 0), (13, .ref ql), (15, .ref qt), (17, .ref qk), (11, .int 0)]) (w' := [9, 1]) rfl rfl
    refine lv_aload_n hx hb dL_law_2009 rfl (lv_at hl 2 rfl) ?_
    refine lv_aload_n hx hb dL_law_2010 rfl (lv_at hl 0 rfl) ?_
    refine lv_iload hx hb dL_law_2011 (lv_at hl 4 rfl) ?_
    refine lv_iconst (v := 1) hx hb dL_law_2013 (by decide) ?_
    refine lv_iadd hx hb dL_law_2014  ?_
    refine lv_topi (fun x418 ex418 => ?_)
    obtain rfl : x418 = 1 := ex418.trans (by decide)
    refine va_sld hx hb hX hbl hbA hS (show vp_in 1 6 from by unfold vp_in; decide) dL_law_2015 ?_
    refine lv_topi (fun x419 ex419 => ?_)
    obtain rfl : w1 = x419 := hw1.trans ex419.symm
    refine lv_aload_n hx hb dL_law_2016 rfl (lv_at hl 0 rfl) ?_
    refine lv_iload hx hb dL_law_2017 (lv_at hl 4 rfl) ?_
    refine lv_iconst (v := 2) hx hb dL_law_2019 (by decide) ?_
    refine lv_iadd hx hb dL_law_2020  ?_
    refine lv_topi (fun x420 ex420 => ?_)
    obtain rfl : x420 = 2 := ex420.trans (by decide)
    refine va_sld hx hb hX hbl hbA hS (show vp_in 2 6 from by unfold vp_in; decide) dL_law_2021 ?_
    refine lv_topi (fun x421 ex421 => ?_)
    obtain rfl : w2 = x421 := hw2.trans ex421.symm
    have hPc := hP.sub (ws' := [(aZ, .inr (15, fsZ)), (q_things, .inl (k_things, 5, .inl f_things)), (q_ringMany, .inl (k_ringMany, 5, .inl f_ringMany)), (q_groupMany, .inl (k_groupMany, 5, .inl f_groupMany))]) [0, 1, 2, 3] rfl
    have hDc := hD.sub (ws' := [(aZ, .inr (15, fsZ)), (q_things, .inl (k_things, 5, .inl f_things)), (q_ringMany, .inl (k_ringMany, 5, .inl f_ringMany)), (q_groupMany, .inl (k_groupMany, 5, .inl f_groupMany))]) [0, 1, 2, 3] (by decide) rfl
    have hKc := hK.sub (tys' := [(k_things, .int), (k_ringMany, .int), (k_groupMany, .int)]) [0, 1, 2] rfl
    have hFc := va_free (wc := [(aZ, .inr (15, fsZ)), (q_things, .inl (k_things, 5, .inl f_things)), (q_ringMany, .inl (k_ringMany, 5, .inl f_ringMany)), (q_groupMany, .inl (k_groupMany, 5, .inl f_groupMany))]) hD hS hA [0, 1, 2, 3] rfl
    refine va_calli (va_runV (As := [.int w1, .int w2]) (rest := [.int 0]) ⟨hx, hb, hml, hown, hts⟩ (z_X12_picture l dC dI H.size aZ fsZ q_things f_things k_things q_ringMany f_ringMany k_ringMany q_groupMany f_groupMany k_groupMany w1 w2 (fh_sub o_fsZ.2 [0, 1, 2, 3] rfl) hz_f_things hz_f_ringMany hz_f_groupMany) (cwV 2 hts g_lk_30_z_X12_picture_245 rfl rfl rfl (by decide +kernel) ⟨Nat.le_of_ble_eq_true rfl, Nat.le_of_ble_eq_true rfl⟩) ⟨fun a U g mk q => by obtain ⟨q0, q1, qP, qK, qD⟩ := q; exact ⟨q0, q1, qP, va_K.moved (u := U) (U := U.calling g mk a) (Vm.Alike.refl U.vm) qK, qD⟩, va_recv hK hP (ci := 15) (q0 := 0) rfl rfl, fun U hU hW => ⟨rfl, by rw [hU], by rw [hU]; exact hPc, va_K.moved hW.alike hKc, hDc.weaken (fun _ _ _ _ => trivial)⟩⟩ rfl rfl hl.1 rfl (lv_room (Nat.le_of_ble_eq_true rfl)) dL_law_2022 ⟨Nat.le_of_ble_eq_true rfl, Nat.le_of_ble_eq_true rfl⟩) hS (fun q _ h => hFc q h) hFc (fun r422 u t H1 locs ht hvm hw hB hz1 hk1 hS => ?_)
    obtain ⟨s423, rfl⟩ : ∃ z, z = u := ⟨_, rfl⟩
    obtain ⟨hP1, hK1, hD1⟩ := hB
    rw [ht] at hP1
    try dsimp only at hw
    obtain ⟨hP, hD⟩ := va_join (wr := [(aX, .inr (14, fsX)), (aY, .inr (13, fsY)), (qP, .inl (kP, 4, .inr (.inr (.inr (.inr gP))))), (ap, .inr (8, fsp)), (aSh, .inr (11, s106)), (ql, .inl (kl, 400, .inl fl)), (qt, .inl (kt, 400, .inl ft)), (qk, .inl (kk, 512, .inl f107))]) (w1 := [(aZ, .inr (15, s423)), (q_things, .inl (k_things, 5, .inl f_things)), (q_ringMany, .inl (k_ringMany, 5, .inl f_ringMany)), (q_groupMany, .inl (k_groupMany, 5, .inl f_groupMany))]) hP hD [0, 1, 2, 3] [4, 5, 6, 7, 8, 9, 10, 11] rfl rfl (by decide) (by decide) hk1 hFc hP1 hD1
    have hK := hK.sub (tys' := [(kP, .object "HeapWorks$Picture"), (kl, .int), (kt, .int), (kk, .int), (k_things, .int), (k_ringMany, .int), (k_groupMany, .int)]) [3, 4, 5, 6, 0, 1, 2] rfl
    generalize H1 = H at hP hS ⊢
    have hP : va_P (dC, dI) vwCl [(aX, .inr (14, fsX)), (aY, .inr (13, fsY)), (qP, .inl (kP, 4, .inr (.inr (.inr (.inr gP))))), (ap, .inr (8, fsp)), (aSh, .inr (11, s106)), (ql, .inl (kl, 400, .inl fl)), (qt, .inl (kt, 400, .inl ft)), (qk, .inl (kk, 512, .inl f107)), (aZ, .inr (15, s423)), (q_things, .inl (k_things, 5, .inl f_things)), (q_ringMany, .inl (k_ringMany, 5, .inl f_ringMany)), (q_groupMany, .inl (k_groupMany, 5, .inl f_groupMany))] H := hP
    have hD : va_D A [(aX, .inr (14, fsX)), (aY, .inr (13, fsY)), (qP, .inl (kP, 4, .inr (.inr (.inr (.inr gP))))), (ap, .inr (8, fsp)), (aSh, .inr (11, s106)), (ql, .inl (kl, 400, .inl fl)), (qt, .inl (kt, 400, .inl ft)), (qk, .inl (kk, 512, .inl f107)), (aZ, .inr (15, s423)), (q_things, .inl (k_things, 5, .inl f_things)), (q_ringMany, .inl (k_ringMany, 5, .inl f_ringMany)), (q_groupMany, .inl (k_groupMany, 5, .inl f_groupMany))] := hD
    rcases hw with ⟨c424, er425, o_s423⟩ | ⟨c426, c427, er428, o_s423⟩ | ⟨c429, c430, c431, c432, c433, c434, c435, c436, c437, c438, er439, o_s423⟩ | ⟨c440, c441, c442, c443, c444, c445, c446, c447, c448, c449, er450, o_s423⟩ | ⟨c451, c452, c453, c454, c455, c456, c457, c458, c459, er460, o_s423⟩ | ⟨c461, c462, c463, c464, c465, c466, c467, c468, er469, o_s423⟩ | ⟨c470, c471, c472, c473, c474, c475, c476, er477, o_s423⟩ | ⟨c478, c479, c480, c481, c482, c483, er484, o_s423⟩ | ⟨c485, c486, c487, c488, c489, er490, o_s423⟩ | ⟨c491, c492, c493, c494, er495, o_s423⟩ | ⟨c496, c497, c498, er499, o_s423⟩
    · exact (by exfalso; (try simp only [i_lt, i_le, i_eq, kc_0, kc_4] at c117 c118 c424); omega)
    · exact (by exfalso; (try simp only [i_lt, i_le, i_eq, kc_0, kc_4] at c117 c118 c426 c427); omega)
    · exact (by exfalso; (try simp only [i_lt, i_le, i_eq, kc_1, kc_200, kc_100, kc_0, kc_2, kc_3, kc_4, kc_5] at c119 c431 c432 c433 c434 c435 c436 c437 c438); omega)
    · exact (by exfalso; (try simp only [i_lt, i_le, i_eq, kc_1, kc_200, kc_100, kc_0, kc_2, kc_3, kc_4, kc_5] at c119 c442 c443 c444 c445 c446 c447 c448 c449); omega)
    · exact (by exfalso; (try simp only [i_lt, i_le, i_eq, kc_1, kc_200, kc_100, kc_0, kc_2, kc_3, kc_4] at c119 c453 c454 c455 c456 c457 c458 c459); omega)
    · exact (by exfalso; (try simp only [i_lt, i_le, i_eq, kc_1, kc_200, kc_100, kc_0, kc_2, kc_3] at c119 c463 c464 c465 c466 c467 c468); omega)
    · exact (by exfalso; (try simp only [i_lt, i_le, i_eq, kc_1, kc_200, kc_100, kc_0, kc_2] at c119 c472 c473 c474 c475 c476); omega)
    · skip
      subst er484
      have o_s423 := ow_on o_fsZ o_s423 (l' := [(0, .int 0), (20, .int 0), (48, .ref q_things), (63, .ref q_ringMany), (64, .ref q_groupMany), (20, .int 0), (48, .ref q_things), (63, .ref q_ringMany), (64, .ref q_groupMany)]) (w' := [0]) rfl rfl
      refine lv_icmp_eq (tgt := 3111) hx hb dL_law_2025 (by decide) (fun c500 => ?_) (fun c500 => absurd c500 (by decide))
      exact lw_end hst C0 hA hAf hZ hY (Nat.le_of_ble_eq_true rfl) (Nat.le_of_ble_eq_true rfl) dC dI P0k P0 D0 hS ls (lv_sub hl [0, 4] rfl)
    · exact (by exfalso; (try simp only [i_lt, i_le, i_eq, kc_1, kc_200, kc_100, kc_0] at c119 c487 c488 c489); omega)
    · exact (by exfalso; (try simp only [i_lt, i_le, i_eq, kc_1, kc_200, kc_100] at c119 c493 c494); omega)
    · exact (by exfalso; (try simp only [i_lt, i_le, i_eq, kc_1, kc_200] at c119 c498); omega)
  · skip
    subst er124
    have o_s106 := ow_on o_fss o_s106 (l' := [(11, .int 0), (1, .int 8), (17, .ref qk), (17, .ref qk), (13, .ref ql), (15, .ref qt), (17, .ref qk), (9, .int 0), (13, .ref ql), (15, .ref qt), (17, .ref qk), (9, .int 0)]) (w' := [11, 1]) rfl rfl
    refine lv_aload_n hx hb dL_law_2009 rfl (lv_at hl 2 rfl) ?_
    refine lv_aload_n hx hb dL_law_2010 rfl (lv_at hl 0 rfl) ?_
    refine lv_iload hx hb dL_law_2011 (lv_at hl 4 rfl) ?_
    refine lv_iconst (v := 1) hx hb dL_law_2013 (by decide) ?_
    refine lv_iadd hx hb dL_law_2014  ?_
    refine lv_topi (fun x501 ex501 => ?_)
    obtain rfl : x501 = 1 := ex501.trans (by decide)
    refine va_sld hx hb hX hbl hbA hS (show vp_in 1 6 from by unfold vp_in; decide) dL_law_2015 ?_
    refine lv_topi (fun x502 ex502 => ?_)
    obtain rfl : w1 = x502 := hw1.trans ex502.symm
    refine lv_aload_n hx hb dL_law_2016 rfl (lv_at hl 0 rfl) ?_
    refine lv_iload hx hb dL_law_2017 (lv_at hl 4 rfl) ?_
    refine lv_iconst (v := 2) hx hb dL_law_2019 (by decide) ?_
    refine lv_iadd hx hb dL_law_2020  ?_
    refine lv_topi (fun x503 ex503 => ?_)
    obtain rfl : x503 = 2 := ex503.trans (by decide)
    refine va_sld hx hb hX hbl hbA hS (show vp_in 2 6 from by unfold vp_in; decide) dL_law_2021 ?_
    refine lv_topi (fun x504 ex504 => ?_)
    obtain rfl : w2 = x504 := hw2.trans ex504.symm
    have hPc := hP.sub (ws' := [(aZ, .inr (15, fsZ)), (q_things, .inl (k_things, 5, .inl f_things)), (q_ringMany, .inl (k_ringMany, 5, .inl f_ringMany)), (q_groupMany, .inl (k_groupMany, 5, .inl f_groupMany))]) [0, 1, 2, 3] rfl
    have hDc := hD.sub (ws' := [(aZ, .inr (15, fsZ)), (q_things, .inl (k_things, 5, .inl f_things)), (q_ringMany, .inl (k_ringMany, 5, .inl f_ringMany)), (q_groupMany, .inl (k_groupMany, 5, .inl f_groupMany))]) [0, 1, 2, 3] (by decide) rfl
    have hKc := hK.sub (tys' := [(k_things, .int), (k_ringMany, .int), (k_groupMany, .int)]) [0, 1, 2] rfl
    have hFc := va_free (wc := [(aZ, .inr (15, fsZ)), (q_things, .inl (k_things, 5, .inl f_things)), (q_ringMany, .inl (k_ringMany, 5, .inl f_ringMany)), (q_groupMany, .inl (k_groupMany, 5, .inl f_groupMany))]) hD hS hA [0, 1, 2, 3] rfl
    refine va_calli (va_runV (As := [.int w1, .int w2]) (rest := [.int 0]) ⟨hx, hb, hml, hown, hts⟩ (z_X12_picture l dC dI H.size aZ fsZ q_things f_things k_things q_ringMany f_ringMany k_ringMany q_groupMany f_groupMany k_groupMany w1 w2 (fh_sub o_fsZ.2 [0, 1, 2, 3] rfl) hz_f_things hz_f_ringMany hz_f_groupMany) (cwV 2 hts g_lk_30_z_X12_picture_245 rfl rfl rfl (by decide +kernel) ⟨Nat.le_of_ble_eq_true rfl, Nat.le_of_ble_eq_true rfl⟩) ⟨fun a U g mk q => by obtain ⟨q0, q1, qP, qK, qD⟩ := q; exact ⟨q0, q1, qP, va_K.moved (u := U) (U := U.calling g mk a) (Vm.Alike.refl U.vm) qK, qD⟩, va_recv hK hP (ci := 15) (q0 := 0) rfl rfl, fun U hU hW => ⟨rfl, by rw [hU], by rw [hU]; exact hPc, va_K.moved hW.alike hKc, hDc.weaken (fun _ _ _ _ => trivial)⟩⟩ rfl rfl hl.1 rfl (lv_room (Nat.le_of_ble_eq_true rfl)) dL_law_2022 ⟨Nat.le_of_ble_eq_true rfl, Nat.le_of_ble_eq_true rfl⟩) hS (fun q _ h => hFc q h) hFc (fun r505 u t H1 locs ht hvm hw hB hz1 hk1 hS => ?_)
    obtain ⟨s506, rfl⟩ : ∃ z, z = u := ⟨_, rfl⟩
    obtain ⟨hP1, hK1, hD1⟩ := hB
    rw [ht] at hP1
    try dsimp only at hw
    obtain ⟨hP, hD⟩ := va_join (wr := [(aX, .inr (14, fsX)), (aY, .inr (13, fsY)), (qP, .inl (kP, 4, .inr (.inr (.inr (.inr gP))))), (ap, .inr (8, fsp)), (aSh, .inr (11, s106)), (ql, .inl (kl, 400, .inl fl)), (qt, .inl (kt, 400, .inl ft)), (qk, .inl (kk, 512, .inl f107))]) (w1 := [(aZ, .inr (15, s506)), (q_things, .inl (k_things, 5, .inl f_things)), (q_ringMany, .inl (k_ringMany, 5, .inl f_ringMany)), (q_groupMany, .inl (k_groupMany, 5, .inl f_groupMany))]) hP hD [0, 1, 2, 3] [4, 5, 6, 7, 8, 9, 10, 11] rfl rfl (by decide) (by decide) hk1 hFc hP1 hD1
    have hK := hK.sub (tys' := [(kP, .object "HeapWorks$Picture"), (kl, .int), (kt, .int), (kk, .int), (k_things, .int), (k_ringMany, .int), (k_groupMany, .int)]) [3, 4, 5, 6, 0, 1, 2] rfl
    generalize H1 = H at hP hS ⊢
    have hP : va_P (dC, dI) vwCl [(aX, .inr (14, fsX)), (aY, .inr (13, fsY)), (qP, .inl (kP, 4, .inr (.inr (.inr (.inr gP))))), (ap, .inr (8, fsp)), (aSh, .inr (11, s106)), (ql, .inl (kl, 400, .inl fl)), (qt, .inl (kt, 400, .inl ft)), (qk, .inl (kk, 512, .inl f107)), (aZ, .inr (15, s506)), (q_things, .inl (k_things, 5, .inl f_things)), (q_ringMany, .inl (k_ringMany, 5, .inl f_ringMany)), (q_groupMany, .inl (k_groupMany, 5, .inl f_groupMany))] H := hP
    have hD : va_D A [(aX, .inr (14, fsX)), (aY, .inr (13, fsY)), (qP, .inl (kP, 4, .inr (.inr (.inr (.inr gP))))), (ap, .inr (8, fsp)), (aSh, .inr (11, s106)), (ql, .inl (kl, 400, .inl fl)), (qt, .inl (kt, 400, .inl ft)), (qk, .inl (kk, 512, .inl f107)), (aZ, .inr (15, s506)), (q_things, .inl (k_things, 5, .inl f_things)), (q_ringMany, .inl (k_ringMany, 5, .inl f_ringMany)), (q_groupMany, .inl (k_groupMany, 5, .inl f_groupMany))] := hD
    rcases hw with ⟨c507, er508, o_s506⟩ | ⟨c509, c510, er511, o_s506⟩ | ⟨c512, c513, c514, c515, c516, c517, c518, c519, c520, c521, er522, o_s506⟩ | ⟨c523, c524, c525, c526, c527, c528, c529, c530, c531, c532, er533, o_s506⟩ | ⟨c534, c535, c536, c537, c538, c539, c540, c541, c542, er543, o_s506⟩ | ⟨c544, c545, c546, c547, c548, c549, c550, c551, er552, o_s506⟩ | ⟨c553, c554, c555, c556, c557, c558, c559, er560, o_s506⟩ | ⟨c561, c562, c563, c564, c565, c566, er567, o_s506⟩ | ⟨c568, c569, c570, c571, c572, er573, o_s506⟩ | ⟨c574, c575, c576, c577, er578, o_s506⟩ | ⟨c579, c580, c581, er582, o_s506⟩
    · exact (by exfalso; (try simp only [i_lt, i_le, i_eq, kc_0, kc_4] at c121 c122 c507); omega)
    · exact (by exfalso; (try simp only [i_lt, i_le, i_eq, kc_0, kc_4] at c121 c122 c509 c510); omega)
    · exact (by exfalso; (try simp only [i_lt, i_le, i_eq, kc_2, kc_200, kc_100, kc_0, kc_1, kc_3, kc_4, kc_5] at c123 c514 c515 c516 c517 c518 c519 c520 c521); omega)
    · exact (by exfalso; (try simp only [i_lt, i_le, i_eq, kc_2, kc_200, kc_100, kc_0, kc_1, kc_3, kc_4, kc_5] at c123 c525 c526 c527 c528 c529 c530 c531 c532); omega)
    · exact (by exfalso; (try simp only [i_lt, i_le, i_eq, kc_2, kc_200, kc_100, kc_0, kc_1, kc_3, kc_4] at c123 c536 c537 c538 c539 c540 c541 c542); omega)
    · exact (by exfalso; (try simp only [i_lt, i_le, i_eq, kc_2, kc_200, kc_100, kc_0, kc_1, kc_3] at c123 c546 c547 c548 c549 c550 c551); omega)
    · skip
      subst er560
      have o_s506 := ow_on o_fsZ o_s506 (l' := [(0, .int 0), (20, .int 0), (48, .ref q_things), (63, .ref q_ringMany), (64, .ref q_groupMany), (20, .int 0), (48, .ref q_things), (63, .ref q_ringMany), (64, .ref q_groupMany)]) (w' := [0]) rfl rfl
      refine lv_icmp_eq (tgt := 3111) hx hb dL_law_2025 (by decide) (fun c583 => ?_) (fun c583 => absurd c583 (by decide))
      exact lw_end hst C0 hA hAf hZ hY (Nat.le_of_ble_eq_true rfl) (Nat.le_of_ble_eq_true rfl) dC dI P0k P0 D0 hS ls (lv_sub hl [0, 4] rfl)
    · exact (by exfalso; (try simp only [i_lt, i_le, i_eq, kc_2, kc_200, kc_100, kc_0, kc_1] at c123 c563 c564 c565 c566); omega)
    · exact (by exfalso; (try simp only [i_lt, i_le, i_eq, kc_2, kc_200, kc_100, kc_0] at c123 c570 c571 c572); omega)
    · exact (by exfalso; (try simp only [i_lt, i_le, i_eq, kc_2, kc_200, kc_100] at c123 c576 c577); omega)
    · exact (by exfalso; (try simp only [i_lt, i_le, i_eq, kc_2, kc_200] at c123 c581); omega)
  · skip
    subst er128
    have o_s106 := ow_on o_fss o_s106 (l' := [(1, .int 0), (13, .ref ql), (15, .ref qt), (17, .ref qk), (9, .int 0), (11, .int 0), (1, .int 0), (13, .ref ql), (15, .ref qt), (17, .ref qk), (9, .int 0), (11, .int 0)]) (w' := []) rfl rfl
    refine lv_aload_n hx hb dL_law_2009 rfl (lv_at hl 2 rfl) ?_
    refine lv_aload_n hx hb dL_law_2010 rfl (lv_at hl 0 rfl) ?_
    refine lv_iload hx hb dL_law_2011 (lv_at hl 4 rfl) ?_
    refine lv_iconst (v := 1) hx hb dL_law_2013 (by decide) ?_
    refine lv_iadd hx hb dL_law_2014  ?_
    refine lv_topi (fun x584 ex584 => ?_)
    obtain rfl : x584 = 1 := ex584.trans (by decide)
    refine va_sld hx hb hX hbl hbA hS (show vp_in 1 6 from by unfold vp_in; decide) dL_law_2015 ?_
    refine lv_topi (fun x585 ex585 => ?_)
    obtain rfl : w1 = x585 := hw1.trans ex585.symm
    refine lv_aload_n hx hb dL_law_2016 rfl (lv_at hl 0 rfl) ?_
    refine lv_iload hx hb dL_law_2017 (lv_at hl 4 rfl) ?_
    refine lv_iconst (v := 2) hx hb dL_law_2019 (by decide) ?_
    refine lv_iadd hx hb dL_law_2020  ?_
    refine lv_topi (fun x586 ex586 => ?_)
    obtain rfl : x586 = 2 := ex586.trans (by decide)
    refine va_sld hx hb hX hbl hbA hS (show vp_in 2 6 from by unfold vp_in; decide) dL_law_2021 ?_
    refine lv_topi (fun x587 ex587 => ?_)
    obtain rfl : w2 = x587 := hw2.trans ex587.symm
    have hPc := hP.sub (ws' := [(aZ, .inr (15, fsZ)), (q_things, .inl (k_things, 5, .inl f_things)), (q_ringMany, .inl (k_ringMany, 5, .inl f_ringMany)), (q_groupMany, .inl (k_groupMany, 5, .inl f_groupMany))]) [0, 1, 2, 3] rfl
    have hDc := hD.sub (ws' := [(aZ, .inr (15, fsZ)), (q_things, .inl (k_things, 5, .inl f_things)), (q_ringMany, .inl (k_ringMany, 5, .inl f_ringMany)), (q_groupMany, .inl (k_groupMany, 5, .inl f_groupMany))]) [0, 1, 2, 3] (by decide) rfl
    have hKc := hK.sub (tys' := [(k_things, .int), (k_ringMany, .int), (k_groupMany, .int)]) [0, 1, 2] rfl
    have hFc := va_free (wc := [(aZ, .inr (15, fsZ)), (q_things, .inl (k_things, 5, .inl f_things)), (q_ringMany, .inl (k_ringMany, 5, .inl f_ringMany)), (q_groupMany, .inl (k_groupMany, 5, .inl f_groupMany))]) hD hS hA [0, 1, 2, 3] rfl
    refine va_calli (va_runV (As := [.int w1, .int w2]) (rest := [.int 0]) ⟨hx, hb, hml, hown, hts⟩ (z_X12_picture l dC dI H.size aZ fsZ q_things f_things k_things q_ringMany f_ringMany k_ringMany q_groupMany f_groupMany k_groupMany w1 w2 (fh_sub o_fsZ.2 [0, 1, 2, 3] rfl) hz_f_things hz_f_ringMany hz_f_groupMany) (cwV 2 hts g_lk_30_z_X12_picture_245 rfl rfl rfl (by decide +kernel) ⟨Nat.le_of_ble_eq_true rfl, Nat.le_of_ble_eq_true rfl⟩) ⟨fun a U g mk q => by obtain ⟨q0, q1, qP, qK, qD⟩ := q; exact ⟨q0, q1, qP, va_K.moved (u := U) (U := U.calling g mk a) (Vm.Alike.refl U.vm) qK, qD⟩, va_recv hK hP (ci := 15) (q0 := 0) rfl rfl, fun U hU hW => ⟨rfl, by rw [hU], by rw [hU]; exact hPc, va_K.moved hW.alike hKc, hDc.weaken (fun _ _ _ _ => trivial)⟩⟩ rfl rfl hl.1 rfl (lv_room (Nat.le_of_ble_eq_true rfl)) dL_law_2022 ⟨Nat.le_of_ble_eq_true rfl, Nat.le_of_ble_eq_true rfl⟩) hS (fun q _ h => hFc q h) hFc (fun r588 u t H1 locs ht hvm hw hB hz1 hk1 hS => ?_)
    obtain ⟨s589, rfl⟩ : ∃ z, z = u := ⟨_, rfl⟩
    obtain ⟨hP1, hK1, hD1⟩ := hB
    rw [ht] at hP1
    try dsimp only at hw
    obtain ⟨hP, hD⟩ := va_join (wr := [(aX, .inr (14, fsX)), (aY, .inr (13, fsY)), (qP, .inl (kP, 4, .inr (.inr (.inr (.inr gP))))), (ap, .inr (8, fsp)), (aSh, .inr (11, s106)), (ql, .inl (kl, 400, .inl fl)), (qt, .inl (kt, 400, .inl ft)), (qk, .inl (kk, 512, .inl f107))]) (w1 := [(aZ, .inr (15, s589)), (q_things, .inl (k_things, 5, .inl f_things)), (q_ringMany, .inl (k_ringMany, 5, .inl f_ringMany)), (q_groupMany, .inl (k_groupMany, 5, .inl f_groupMany))]) hP hD [0, 1, 2, 3] [4, 5, 6, 7, 8, 9, 10, 11] rfl rfl (by decide) (by decide) hk1 hFc hP1 hD1
    have hK := hK.sub (tys' := [(kP, .object "HeapWorks$Picture"), (kl, .int), (kt, .int), (kk, .int), (k_things, .int), (k_ringMany, .int), (k_groupMany, .int)]) [3, 4, 5, 6, 0, 1, 2] rfl
    generalize H1 = H at hP hS ⊢
    have hP : va_P (dC, dI) vwCl [(aX, .inr (14, fsX)), (aY, .inr (13, fsY)), (qP, .inl (kP, 4, .inr (.inr (.inr (.inr gP))))), (ap, .inr (8, fsp)), (aSh, .inr (11, s106)), (ql, .inl (kl, 400, .inl fl)), (qt, .inl (kt, 400, .inl ft)), (qk, .inl (kk, 512, .inl f107)), (aZ, .inr (15, s589)), (q_things, .inl (k_things, 5, .inl f_things)), (q_ringMany, .inl (k_ringMany, 5, .inl f_ringMany)), (q_groupMany, .inl (k_groupMany, 5, .inl f_groupMany))] H := hP
    have hD : va_D A [(aX, .inr (14, fsX)), (aY, .inr (13, fsY)), (qP, .inl (kP, 4, .inr (.inr (.inr (.inr gP))))), (ap, .inr (8, fsp)), (aSh, .inr (11, s106)), (ql, .inl (kl, 400, .inl fl)), (qt, .inl (kt, 400, .inl ft)), (qk, .inl (kk, 512, .inl f107)), (aZ, .inr (15, s589)), (q_things, .inl (k_things, 5, .inl f_things)), (q_ringMany, .inl (k_ringMany, 5, .inl f_ringMany)), (q_groupMany, .inl (k_groupMany, 5, .inl f_groupMany))] := hD
    rcases hw with ⟨c590, er591, o_s589⟩ | ⟨c592, c593, er594, o_s589⟩ | ⟨c595, c596, c597, c598, c599, c600, c601, c602, c603, c604, er605, o_s589⟩ | ⟨c606, c607, c608, c609, c610, c611, c612, c613, c614, c615, er616, o_s589⟩ | ⟨c617, c618, c619, c620, c621, c622, c623, c624, c625, er626, o_s589⟩ | ⟨c627, c628, c629, c630, c631, c632, c633, c634, er635, o_s589⟩ | ⟨c636, c637, c638, c639, c640, c641, c642, er643, o_s589⟩ | ⟨c644, c645, c646, c647, c648, c649, er650, o_s589⟩ | ⟨c651, c652, c653, c654, c655, er656, o_s589⟩ | ⟨c657, c658, c659, c660, er661, o_s589⟩ | ⟨c662, c663, c664, er665, o_s589⟩
    · exact (by exfalso; (try simp only [i_lt, i_le, i_eq, kc_0, kc_4] at c125 c126 c590); omega)
    · exact (by exfalso; (try simp only [i_lt, i_le, i_eq, kc_0, kc_4] at c125 c126 c592 c593); omega)
    · exact (by exfalso; (try simp only [i_lt, i_le, i_eq, kc_3, kc_200, kc_100, kc_0, kc_1, kc_2, kc_4, kc_5] at c127 c597 c598 c599 c600 c601 c602 c603 c604); omega)
    · exact (by exfalso; (try simp only [i_lt, i_le, i_eq, kc_3, kc_200, kc_100, kc_0, kc_1, kc_2, kc_4, kc_5] at c127 c608 c609 c610 c611 c612 c613 c614 c615); omega)
    · exact (by exfalso; (try simp only [i_lt, i_le, i_eq, kc_3, kc_200, kc_100, kc_0, kc_1, kc_2, kc_4] at c127 c619 c620 c621 c622 c623 c624 c625); omega)
    · skip
      subst er635
      have o_s589 := ow_on o_fsZ o_s589 (l' := [(0, .int 0), (20, .int 0), (48, .ref q_things), (63, .ref q_ringMany), (64, .ref q_groupMany), (20, .int 0), (48, .ref q_things), (63, .ref q_ringMany), (64, .ref q_groupMany)]) (w' := [0]) rfl rfl
      refine lv_icmp_eq (tgt := 3111) hx hb dL_law_2025 (by decide) (fun c666 => ?_) (fun c666 => absurd c666 (by decide))
      exact lw_end hst C0 hA hAf hZ hY (Nat.le_of_ble_eq_true rfl) (Nat.le_of_ble_eq_true rfl) dC dI P0k P0 D0 hS ls (lv_sub hl [0, 4] rfl)
    · exact (by exfalso; (try simp only [i_lt, i_le, i_eq, kc_3, kc_200, kc_100, kc_0, kc_1, kc_2] at c127 c638 c639 c640 c641 c642); omega)
    · exact (by exfalso; (try simp only [i_lt, i_le, i_eq, kc_3, kc_200, kc_100, kc_0, kc_1] at c127 c646 c647 c648 c649); omega)
    · exact (by exfalso; (try simp only [i_lt, i_le, i_eq, kc_3, kc_200, kc_100, kc_0] at c127 c653 c654 c655); omega)
    · exact (by exfalso; (try simp only [i_lt, i_le, i_eq, kc_3, kc_200, kc_100] at c127 c659 c660); omega)
    · exact (by exfalso; (try simp only [i_lt, i_le, i_eq, kc_3, kc_200] at c127 c664); omega)
  · skip
    subst er132
    have o_s106 := ow_on o_fss o_s106 (l' := [(11, .int 0), (1, .int 8), (17, .ref qk), (17, .ref qk), (13, .ref ql), (15, .ref qt), (17, .ref qk), (9, .int 0), (13, .ref ql), (15, .ref qt), (17, .ref qk), (9, .int 0)]) (w' := [11, 1]) rfl rfl
    refine lv_aload_n hx hb dL_law_2009 rfl (lv_at hl 2 rfl) ?_
    refine lv_aload_n hx hb dL_law_2010 rfl (lv_at hl 0 rfl) ?_
    refine lv_iload hx hb dL_law_2011 (lv_at hl 4 rfl) ?_
    refine lv_iconst (v := 1) hx hb dL_law_2013 (by decide) ?_
    refine lv_iadd hx hb dL_law_2014  ?_
    refine lv_topi (fun x667 ex667 => ?_)
    obtain rfl : x667 = 1 := ex667.trans (by decide)
    refine va_sld hx hb hX hbl hbA hS (show vp_in 1 6 from by unfold vp_in; decide) dL_law_2015 ?_
    refine lv_topi (fun x668 ex668 => ?_)
    obtain rfl : w1 = x668 := hw1.trans ex668.symm
    refine lv_aload_n hx hb dL_law_2016 rfl (lv_at hl 0 rfl) ?_
    refine lv_iload hx hb dL_law_2017 (lv_at hl 4 rfl) ?_
    refine lv_iconst (v := 2) hx hb dL_law_2019 (by decide) ?_
    refine lv_iadd hx hb dL_law_2020  ?_
    refine lv_topi (fun x669 ex669 => ?_)
    obtain rfl : x669 = 2 := ex669.trans (by decide)
    refine va_sld hx hb hX hbl hbA hS (show vp_in 2 6 from by unfold vp_in; decide) dL_law_2021 ?_
    refine lv_topi (fun x670 ex670 => ?_)
    obtain rfl : w2 = x670 := hw2.trans ex670.symm
    have hPc := hP.sub (ws' := [(aZ, .inr (15, fsZ)), (q_things, .inl (k_things, 5, .inl f_things)), (q_ringMany, .inl (k_ringMany, 5, .inl f_ringMany)), (q_groupMany, .inl (k_groupMany, 5, .inl f_groupMany))]) [0, 1, 2, 3] rfl
    have hDc := hD.sub (ws' := [(aZ, .inr (15, fsZ)), (q_things, .inl (k_things, 5, .inl f_things)), (q_ringMany, .inl (k_ringMany, 5, .inl f_ringMany)), (q_groupMany, .inl (k_groupMany, 5, .inl f_groupMany))]) [0, 1, 2, 3] (by decide) rfl
    have hKc := hK.sub (tys' := [(k_things, .int), (k_ringMany, .int), (k_groupMany, .int)]) [0, 1, 2] rfl
    have hFc := va_free (wc := [(aZ, .inr (15, fsZ)), (q_things, .inl (k_things, 5, .inl f_things)), (q_ringMany, .inl (k_ringMany, 5, .inl f_ringMany)), (q_groupMany, .inl (k_groupMany, 5, .inl f_groupMany))]) hD hS hA [0, 1, 2, 3] rfl
    refine va_calli (va_runV (As := [.int w1, .int w2]) (rest := [.int 0]) ⟨hx, hb, hml, hown, hts⟩ (z_X12_picture l dC dI H.size aZ fsZ q_things f_things k_things q_ringMany f_ringMany k_ringMany q_groupMany f_groupMany k_groupMany w1 w2 (fh_sub o_fsZ.2 [0, 1, 2, 3] rfl) hz_f_things hz_f_ringMany hz_f_groupMany) (cwV 2 hts g_lk_30_z_X12_picture_245 rfl rfl rfl (by decide +kernel) ⟨Nat.le_of_ble_eq_true rfl, Nat.le_of_ble_eq_true rfl⟩) ⟨fun a U g mk q => by obtain ⟨q0, q1, qP, qK, qD⟩ := q; exact ⟨q0, q1, qP, va_K.moved (u := U) (U := U.calling g mk a) (Vm.Alike.refl U.vm) qK, qD⟩, va_recv hK hP (ci := 15) (q0 := 0) rfl rfl, fun U hU hW => ⟨rfl, by rw [hU], by rw [hU]; exact hPc, va_K.moved hW.alike hKc, hDc.weaken (fun _ _ _ _ => trivial)⟩⟩ rfl rfl hl.1 rfl (lv_room (Nat.le_of_ble_eq_true rfl)) dL_law_2022 ⟨Nat.le_of_ble_eq_true rfl, Nat.le_of_ble_eq_true rfl⟩) hS (fun q _ h => hFc q h) hFc (fun r671 u t H1 locs ht hvm hw hB hz1 hk1 hS => ?_)
    obtain ⟨s672, rfl⟩ : ∃ z, z = u := ⟨_, rfl⟩
    obtain ⟨hP1, hK1, hD1⟩ := hB
    rw [ht] at hP1
    try dsimp only at hw
    obtain ⟨hP, hD⟩ := va_join (wr := [(aX, .inr (14, fsX)), (aY, .inr (13, fsY)), (qP, .inl (kP, 4, .inr (.inr (.inr (.inr gP))))), (ap, .inr (8, fsp)), (aSh, .inr (11, s106)), (ql, .inl (kl, 400, .inl fl)), (qt, .inl (kt, 400, .inl ft)), (qk, .inl (kk, 512, .inl f107))]) (w1 := [(aZ, .inr (15, s672)), (q_things, .inl (k_things, 5, .inl f_things)), (q_ringMany, .inl (k_ringMany, 5, .inl f_ringMany)), (q_groupMany, .inl (k_groupMany, 5, .inl f_groupMany))]) hP hD [0, 1, 2, 3] [4, 5, 6, 7, 8, 9, 10, 11] rfl rfl (by decide) (by decide) hk1 hFc hP1 hD1
    have hK := hK.sub (tys' := [(kP, .object "HeapWorks$Picture"), (kl, .int), (kt, .int), (kk, .int), (k_things, .int), (k_ringMany, .int), (k_groupMany, .int)]) [3, 4, 5, 6, 0, 1, 2] rfl
    generalize H1 = H at hP hS ⊢
    have hP : va_P (dC, dI) vwCl [(aX, .inr (14, fsX)), (aY, .inr (13, fsY)), (qP, .inl (kP, 4, .inr (.inr (.inr (.inr gP))))), (ap, .inr (8, fsp)), (aSh, .inr (11, s106)), (ql, .inl (kl, 400, .inl fl)), (qt, .inl (kt, 400, .inl ft)), (qk, .inl (kk, 512, .inl f107)), (aZ, .inr (15, s672)), (q_things, .inl (k_things, 5, .inl f_things)), (q_ringMany, .inl (k_ringMany, 5, .inl f_ringMany)), (q_groupMany, .inl (k_groupMany, 5, .inl f_groupMany))] H := hP
    have hD : va_D A [(aX, .inr (14, fsX)), (aY, .inr (13, fsY)), (qP, .inl (kP, 4, .inr (.inr (.inr (.inr gP))))), (ap, .inr (8, fsp)), (aSh, .inr (11, s106)), (ql, .inl (kl, 400, .inl fl)), (qt, .inl (kt, 400, .inl ft)), (qk, .inl (kk, 512, .inl f107)), (aZ, .inr (15, s672)), (q_things, .inl (k_things, 5, .inl f_things)), (q_ringMany, .inl (k_ringMany, 5, .inl f_ringMany)), (q_groupMany, .inl (k_groupMany, 5, .inl f_groupMany))] := hD
    rcases hw with ⟨c673, er674, o_s672⟩ | ⟨c675, c676, er677, o_s672⟩ | ⟨c678, c679, c680, c681, c682, c683, c684, c685, c686, c687, er688, o_s672⟩ | ⟨c689, c690, c691, c692, c693, c694, c695, c696, c697, c698, er699, o_s672⟩ | ⟨c700, c701, c702, c703, c704, c705, c706, c707, c708, er709, o_s672⟩ | ⟨c710, c711, c712, c713, c714, c715, c716, c717, er718, o_s672⟩ | ⟨c719, c720, c721, c722, c723, c724, c725, er726, o_s672⟩ | ⟨c727, c728, c729, c730, c731, c732, er733, o_s672⟩ | ⟨c734, c735, c736, c737, c738, er739, o_s672⟩ | ⟨c740, c741, c742, c743, er744, o_s672⟩ | ⟨c745, c746, c747, er748, o_s672⟩
    · exact (by exfalso; (try simp only [i_lt, i_le, i_eq, kc_0, kc_4] at c129 c130 c673); omega)
    · exact (by exfalso; (try simp only [i_lt, i_le, i_eq, kc_0, kc_4] at c129 c130 c675 c676); omega)
    · exact (by exfalso; (try simp only [i_lt, i_le, i_eq, kc_4, kc_200, kc_100, kc_0, kc_1, kc_2, kc_3, kc_5] at c131 c680 c681 c682 c683 c684 c685 c686 c687); omega)
    · exact (by exfalso; (try simp only [i_lt, i_le, i_eq, kc_4, kc_200, kc_100, kc_0, kc_1, kc_2, kc_3, kc_5] at c131 c691 c692 c693 c694 c695 c696 c697 c698); omega)
    · skip
      subst er709
      have o_s672 := ow_on o_fsZ o_s672 (l' := [(0, .int 0), (20, .int 0), (48, .ref q_things), (63, .ref q_ringMany), (64, .ref q_groupMany), (20, .int 0), (48, .ref q_things), (63, .ref q_ringMany), (64, .ref q_groupMany)]) (w' := [0]) rfl rfl
      refine lv_icmp_eq (tgt := 3111) hx hb dL_law_2025 (by decide) (fun c749 => ?_) (fun c749 => absurd c749 (by decide))
      exact lw_end hst C0 hA hAf hZ hY (Nat.le_of_ble_eq_true rfl) (Nat.le_of_ble_eq_true rfl) dC dI P0k P0 D0 hS ls (lv_sub hl [0, 4] rfl)
    · exact (by exfalso; (try simp only [i_lt, i_le, i_eq, kc_4, kc_200, kc_100, kc_0, kc_1, kc_2, kc_3] at c131 c712 c713 c714 c715 c716 c717); omega)
    · exact (by exfalso; (try simp only [i_lt, i_le, i_eq, kc_4, kc_200, kc_100, kc_0, kc_1, kc_2] at c131 c721 c722 c723 c724 c725); omega)
    · exact (by exfalso; (try simp only [i_lt, i_le, i_eq, kc_4, kc_200, kc_100, kc_0, kc_1] at c131 c729 c730 c731 c732); omega)
    · exact (by exfalso; (try simp only [i_lt, i_le, i_eq, kc_4, kc_200, kc_100, kc_0] at c131 c736 c737 c738); omega)
    · exact (by exfalso; (try simp only [i_lt, i_le, i_eq, kc_4, kc_200, kc_100] at c131 c742 c743); omega)
    · exact (by exfalso; (try simp only [i_lt, i_le, i_eq, kc_4, kc_200] at c131 c747); omega)
  · skip
    subst er136
    have o_s106 := ow_on o_fss o_s106 (l' := [(1, .int 0), (13, .ref ql), (15, .ref qt), (17, .ref qk), (9, .int 0), (11, .int 0), (1, .int 0), (13, .ref ql), (15, .ref qt), (17, .ref qk), (9, .int 0), (11, .int 0)]) (w' := []) rfl rfl
    refine lv_aload_n hx hb dL_law_2009 rfl (lv_at hl 2 rfl) ?_
    refine lv_aload_n hx hb dL_law_2010 rfl (lv_at hl 0 rfl) ?_
    refine lv_iload hx hb dL_law_2011 (lv_at hl 4 rfl) ?_
    refine lv_iconst (v := 1) hx hb dL_law_2013 (by decide) ?_
    refine lv_iadd hx hb dL_law_2014  ?_
    refine lv_topi (fun x750 ex750 => ?_)
    obtain rfl : x750 = 1 := ex750.trans (by decide)
    refine va_sld hx hb hX hbl hbA hS (show vp_in 1 6 from by unfold vp_in; decide) dL_law_2015 ?_
    refine lv_topi (fun x751 ex751 => ?_)
    obtain rfl : w1 = x751 := hw1.trans ex751.symm
    refine lv_aload_n hx hb dL_law_2016 rfl (lv_at hl 0 rfl) ?_
    refine lv_iload hx hb dL_law_2017 (lv_at hl 4 rfl) ?_
    refine lv_iconst (v := 2) hx hb dL_law_2019 (by decide) ?_
    refine lv_iadd hx hb dL_law_2020  ?_
    refine lv_topi (fun x752 ex752 => ?_)
    obtain rfl : x752 = 2 := ex752.trans (by decide)
    refine va_sld hx hb hX hbl hbA hS (show vp_in 2 6 from by unfold vp_in; decide) dL_law_2021 ?_
    refine lv_topi (fun x753 ex753 => ?_)
    obtain rfl : w2 = x753 := hw2.trans ex753.symm
    have hPc := hP.sub (ws' := [(aZ, .inr (15, fsZ)), (q_things, .inl (k_things, 5, .inl f_things)), (q_ringMany, .inl (k_ringMany, 5, .inl f_ringMany)), (q_groupMany, .inl (k_groupMany, 5, .inl f_groupMany))]) [0, 1, 2, 3] rfl
    have hDc := hD.sub (ws' := [(aZ, .inr (15, fsZ)), (q_things, .inl (k_things, 5, .inl f_things)), (q_ringMany, .inl (k_ringMany, 5, .inl f_ringMany)), (q_groupMany, .inl (k_groupMany, 5, .inl f_groupMany))]) [0, 1, 2, 3] (by decide) rfl
    have hKc := hK.sub (tys' := [(k_things, .int), (k_ringMany, .int), (k_groupMany, .int)]) [0, 1, 2] rfl
    have hFc := va_free (wc := [(aZ, .inr (15, fsZ)), (q_things, .inl (k_things, 5, .inl f_things)), (q_ringMany, .inl (k_ringMany, 5, .inl f_ringMany)), (q_groupMany, .inl (k_groupMany, 5, .inl f_groupMany))]) hD hS hA [0, 1, 2, 3] rfl
    refine va_calli (va_runV (As := [.int w1, .int w2]) (rest := [.int (-1)]) ⟨hx, hb, hml, hown, hts⟩ (z_X12_picture l dC dI H.size aZ fsZ q_things f_things k_things q_ringMany f_ringMany k_ringMany q_groupMany f_groupMany k_groupMany w1 w2 (fh_sub o_fsZ.2 [0, 1, 2, 3] rfl) hz_f_things hz_f_ringMany hz_f_groupMany) (cwV 2 hts g_lk_30_z_X12_picture_245 rfl rfl rfl (by decide +kernel) ⟨Nat.le_of_ble_eq_true rfl, Nat.le_of_ble_eq_true rfl⟩) ⟨fun a U g mk q => by obtain ⟨q0, q1, qP, qK, qD⟩ := q; exact ⟨q0, q1, qP, va_K.moved (u := U) (U := U.calling g mk a) (Vm.Alike.refl U.vm) qK, qD⟩, va_recv hK hP (ci := 15) (q0 := 0) rfl rfl, fun U hU hW => ⟨rfl, by rw [hU], by rw [hU]; exact hPc, va_K.moved hW.alike hKc, hDc.weaken (fun _ _ _ _ => trivial)⟩⟩ rfl rfl hl.1 rfl (lv_room (Nat.le_of_ble_eq_true rfl)) dL_law_2022 ⟨Nat.le_of_ble_eq_true rfl, Nat.le_of_ble_eq_true rfl⟩) hS (fun q _ h => hFc q h) hFc (fun r754 u t H1 locs ht hvm hw hB hz1 hk1 hS => ?_)
    obtain ⟨s755, rfl⟩ : ∃ z, z = u := ⟨_, rfl⟩
    obtain ⟨hP1, hK1, hD1⟩ := hB
    rw [ht] at hP1
    try dsimp only at hw
    obtain ⟨hP, hD⟩ := va_join (wr := [(aX, .inr (14, fsX)), (aY, .inr (13, fsY)), (qP, .inl (kP, 4, .inr (.inr (.inr (.inr gP))))), (ap, .inr (8, fsp)), (aSh, .inr (11, s106)), (ql, .inl (kl, 400, .inl fl)), (qt, .inl (kt, 400, .inl ft)), (qk, .inl (kk, 512, .inl f107))]) (w1 := [(aZ, .inr (15, s755)), (q_things, .inl (k_things, 5, .inl f_things)), (q_ringMany, .inl (k_ringMany, 5, .inl f_ringMany)), (q_groupMany, .inl (k_groupMany, 5, .inl f_groupMany))]) hP hD [0, 1, 2, 3] [4, 5, 6, 7, 8, 9, 10, 11] rfl rfl (by decide) (by decide) hk1 hFc hP1 hD1
    have hK := hK.sub (tys' := [(kP, .object "HeapWorks$Picture"), (kl, .int), (kt, .int), (kk, .int), (k_things, .int), (k_ringMany, .int), (k_groupMany, .int)]) [3, 4, 5, 6, 0, 1, 2] rfl
    generalize H1 = H at hP hS ⊢
    have hP : va_P (dC, dI) vwCl [(aX, .inr (14, fsX)), (aY, .inr (13, fsY)), (qP, .inl (kP, 4, .inr (.inr (.inr (.inr gP))))), (ap, .inr (8, fsp)), (aSh, .inr (11, s106)), (ql, .inl (kl, 400, .inl fl)), (qt, .inl (kt, 400, .inl ft)), (qk, .inl (kk, 512, .inl f107)), (aZ, .inr (15, s755)), (q_things, .inl (k_things, 5, .inl f_things)), (q_ringMany, .inl (k_ringMany, 5, .inl f_ringMany)), (q_groupMany, .inl (k_groupMany, 5, .inl f_groupMany))] H := hP
    have hD : va_D A [(aX, .inr (14, fsX)), (aY, .inr (13, fsY)), (qP, .inl (kP, 4, .inr (.inr (.inr (.inr gP))))), (ap, .inr (8, fsp)), (aSh, .inr (11, s106)), (ql, .inl (kl, 400, .inl fl)), (qt, .inl (kt, 400, .inl ft)), (qk, .inl (kk, 512, .inl f107)), (aZ, .inr (15, s755)), (q_things, .inl (k_things, 5, .inl f_things)), (q_ringMany, .inl (k_ringMany, 5, .inl f_ringMany)), (q_groupMany, .inl (k_groupMany, 5, .inl f_groupMany))] := hD
    rcases hw with ⟨c756, er757, o_s755⟩ | ⟨c758, c759, er760, o_s755⟩ | ⟨c761, c762, c763, c764, c765, c766, c767, c768, c769, c770, er771, o_s755⟩ | ⟨c772, c773, c774, c775, c776, c777, c778, c779, c780, c781, er782, o_s755⟩ | ⟨c783, c784, c785, c786, c787, c788, c789, c790, c791, er792, o_s755⟩ | ⟨c793, c794, c795, c796, c797, c798, c799, c800, er801, o_s755⟩ | ⟨c802, c803, c804, c805, c806, c807, c808, er809, o_s755⟩ | ⟨c810, c811, c812, c813, c814, c815, er816, o_s755⟩ | ⟨c817, c818, c819, c820, c821, er822, o_s755⟩ | ⟨c823, c824, c825, c826, er827, o_s755⟩ | ⟨c828, c829, c830, er831, o_s755⟩
    · exact (by exfalso; (try simp only [i_lt, i_le, i_eq, kc_0, kc_4] at c133 c134 c756); omega)
    · exact (by exfalso; (try simp only [i_lt, i_le, i_eq, kc_0, kc_4] at c133 c134 c758 c759); omega)
    · exact (by exfalso; (try simp only [i_lt, i_le, i_eq, kc_5, kc_200, kc_100, kc_0, kc_1, kc_2, kc_3, kc_4] at c135 c763 c764 c765 c766 c767 c768 c769 c770); omega)
    · skip
      subst er782
      have o_s755 := ow_on o_fsZ o_s755 (l' := [(0, .int 0), (20, .int 0), (48, .ref q_things), (63, .ref q_ringMany), (64, .ref q_groupMany), (20, .int 0), (48, .ref q_things), (63, .ref q_ringMany), (64, .ref q_groupMany)]) (w' := [0]) rfl rfl
      refine lv_icmp_eq (tgt := 3111) hx hb dL_law_2025 (by decide) (fun c832 => ?_) (fun c832 => absurd c832 (by decide))
      exact lw_end hst C0 hA hAf hZ hY (Nat.le_of_ble_eq_true rfl) (Nat.le_of_ble_eq_true rfl) dC dI P0k P0 D0 hS ls (lv_sub hl [0, 4] rfl)
    · exact (by exfalso; (try simp only [i_lt, i_le, i_eq, kc_5, kc_200, kc_100, kc_0, kc_1, kc_2, kc_3, kc_4] at c135 c785 c786 c787 c788 c789 c790 c791); omega)
    · exact (by exfalso; (try simp only [i_lt, i_le, i_eq, kc_5, kc_200, kc_100, kc_0, kc_1, kc_2, kc_3] at c135 c795 c796 c797 c798 c799 c800); omega)
    · exact (by exfalso; (try simp only [i_lt, i_le, i_eq, kc_5, kc_200, kc_100, kc_0, kc_1, kc_2] at c135 c804 c805 c806 c807 c808); omega)
    · exact (by exfalso; (try simp only [i_lt, i_le, i_eq, kc_5, kc_200, kc_100, kc_0, kc_1] at c135 c812 c813 c814 c815); omega)
    · exact (by exfalso; (try simp only [i_lt, i_le, i_eq, kc_5, kc_200, kc_100, kc_0] at c135 c819 c820 c821); omega)
    · exact (by exfalso; (try simp only [i_lt, i_le, i_eq, kc_5, kc_200, kc_100] at c135 c825 c826); omega)
    · exact (by exfalso; (try simp only [i_lt, i_le, i_eq, kc_5, kc_200] at c135 c830); omega)
  · skip
    subst er147
    have o_s106 := ow_on o_fss o_s106 (l' := [(1, .int 0), (13, .ref ql), (15, .ref qt), (17, .ref qk), (9, .int 0), (11, .int 0), (1, .int 0), (13, .ref ql), (15, .ref qt), (17, .ref qk), (9, .int 0), (11, .int 0)]) (w' := []) rfl rfl
    refine lv_aload_n hx hb dL_law_2009 rfl (lv_at hl 2 rfl) ?_
    refine lv_aload_n hx hb dL_law_2010 rfl (lv_at hl 0 rfl) ?_
    refine lv_iload hx hb dL_law_2011 (lv_at hl 4 rfl) ?_
    refine lv_iconst (v := 1) hx hb dL_law_2013 (by decide) ?_
    refine lv_iadd hx hb dL_law_2014  ?_
    refine lv_topi (fun x833 ex833 => ?_)
    obtain rfl : x833 = 1 := ex833.trans (by decide)
    refine va_sld hx hb hX hbl hbA hS (show vp_in 1 6 from by unfold vp_in; decide) dL_law_2015 ?_
    refine lv_topi (fun x834 ex834 => ?_)
    obtain rfl : w1 = x834 := hw1.trans ex834.symm
    refine lv_aload_n hx hb dL_law_2016 rfl (lv_at hl 0 rfl) ?_
    refine lv_iload hx hb dL_law_2017 (lv_at hl 4 rfl) ?_
    refine lv_iconst (v := 2) hx hb dL_law_2019 (by decide) ?_
    refine lv_iadd hx hb dL_law_2020  ?_
    refine lv_topi (fun x835 ex835 => ?_)
    obtain rfl : x835 = 2 := ex835.trans (by decide)
    refine va_sld hx hb hX hbl hbA hS (show vp_in 2 6 from by unfold vp_in; decide) dL_law_2021 ?_
    refine lv_topi (fun x836 ex836 => ?_)
    obtain rfl : w2 = x836 := hw2.trans ex836.symm
    have hPc := hP.sub (ws' := [(aZ, .inr (15, fsZ)), (q_things, .inl (k_things, 5, .inl f_things)), (q_ringMany, .inl (k_ringMany, 5, .inl f_ringMany)), (q_groupMany, .inl (k_groupMany, 5, .inl f_groupMany))]) [0, 1, 2, 3] rfl
    have hDc := hD.sub (ws' := [(aZ, .inr (15, fsZ)), (q_things, .inl (k_things, 5, .inl f_things)), (q_ringMany, .inl (k_ringMany, 5, .inl f_ringMany)), (q_groupMany, .inl (k_groupMany, 5, .inl f_groupMany))]) [0, 1, 2, 3] (by decide) rfl
    have hKc := hK.sub (tys' := [(k_things, .int), (k_ringMany, .int), (k_groupMany, .int)]) [0, 1, 2] rfl
    have hFc := va_free (wc := [(aZ, .inr (15, fsZ)), (q_things, .inl (k_things, 5, .inl f_things)), (q_ringMany, .inl (k_ringMany, 5, .inl f_ringMany)), (q_groupMany, .inl (k_groupMany, 5, .inl f_groupMany))]) hD hS hA [0, 1, 2, 3] rfl
    refine va_calli (va_runV (As := [.int w1, .int w2]) (rest := [.int (-1)]) ⟨hx, hb, hml, hown, hts⟩ (z_X12_picture l dC dI H.size aZ fsZ q_things f_things k_things q_ringMany f_ringMany k_ringMany q_groupMany f_groupMany k_groupMany w1 w2 (fh_sub o_fsZ.2 [0, 1, 2, 3] rfl) hz_f_things hz_f_ringMany hz_f_groupMany) (cwV 2 hts g_lk_30_z_X12_picture_245 rfl rfl rfl (by decide +kernel) ⟨Nat.le_of_ble_eq_true rfl, Nat.le_of_ble_eq_true rfl⟩) ⟨fun a U g mk q => by obtain ⟨q0, q1, qP, qK, qD⟩ := q; exact ⟨q0, q1, qP, va_K.moved (u := U) (U := U.calling g mk a) (Vm.Alike.refl U.vm) qK, qD⟩, va_recv hK hP (ci := 15) (q0 := 0) rfl rfl, fun U hU hW => ⟨rfl, by rw [hU], by rw [hU]; exact hPc, va_K.moved hW.alike hKc, hDc.weaken (fun _ _ _ _ => trivial)⟩⟩ rfl rfl hl.1 rfl (lv_room (Nat.le_of_ble_eq_true rfl)) dL_law_2022 ⟨Nat.le_of_ble_eq_true rfl, Nat.le_of_ble_eq_true rfl⟩) hS (fun q _ h => hFc q h) hFc (fun r837 u t H1 locs ht hvm hw hB hz1 hk1 hS => ?_)
    obtain ⟨s838, rfl⟩ : ∃ z, z = u := ⟨_, rfl⟩
    obtain ⟨hP1, hK1, hD1⟩ := hB
    rw [ht] at hP1
    try dsimp only at hw
    obtain ⟨hP, hD⟩ := va_join (wr := [(aX, .inr (14, fsX)), (aY, .inr (13, fsY)), (qP, .inl (kP, 4, .inr (.inr (.inr (.inr gP))))), (ap, .inr (8, fsp)), (aSh, .inr (11, s106)), (ql, .inl (kl, 400, .inl fl)), (qt, .inl (kt, 400, .inl ft)), (qk, .inl (kk, 512, .inl f107))]) (w1 := [(aZ, .inr (15, s838)), (q_things, .inl (k_things, 5, .inl f_things)), (q_ringMany, .inl (k_ringMany, 5, .inl f_ringMany)), (q_groupMany, .inl (k_groupMany, 5, .inl f_groupMany))]) hP hD [0, 1, 2, 3] [4, 5, 6, 7, 8, 9, 10, 11] rfl rfl (by decide) (by decide) hk1 hFc hP1 hD1
    have hK := hK.sub (tys' := [(kP, .object "HeapWorks$Picture"), (kl, .int), (kt, .int), (kk, .int), (k_things, .int), (k_ringMany, .int), (k_groupMany, .int)]) [3, 4, 5, 6, 0, 1, 2] rfl
    generalize H1 = H at hP hS ⊢
    have hP : va_P (dC, dI) vwCl [(aX, .inr (14, fsX)), (aY, .inr (13, fsY)), (qP, .inl (kP, 4, .inr (.inr (.inr (.inr gP))))), (ap, .inr (8, fsp)), (aSh, .inr (11, s106)), (ql, .inl (kl, 400, .inl fl)), (qt, .inl (kt, 400, .inl ft)), (qk, .inl (kk, 512, .inl f107)), (aZ, .inr (15, s838)), (q_things, .inl (k_things, 5, .inl f_things)), (q_ringMany, .inl (k_ringMany, 5, .inl f_ringMany)), (q_groupMany, .inl (k_groupMany, 5, .inl f_groupMany))] H := hP
    have hD : va_D A [(aX, .inr (14, fsX)), (aY, .inr (13, fsY)), (qP, .inl (kP, 4, .inr (.inr (.inr (.inr gP))))), (ap, .inr (8, fsp)), (aSh, .inr (11, s106)), (ql, .inl (kl, 400, .inl fl)), (qt, .inl (kt, 400, .inl ft)), (qk, .inl (kk, 512, .inl f107)), (aZ, .inr (15, s838)), (q_things, .inl (k_things, 5, .inl f_things)), (q_ringMany, .inl (k_ringMany, 5, .inl f_ringMany)), (q_groupMany, .inl (k_groupMany, 5, .inl f_groupMany))] := hD
    rcases hw with ⟨c839, er840, o_s838⟩ | ⟨c841, c842, er843, o_s838⟩ | ⟨c844, c845, c846, c847, c848, c849, c850, c851, c852, c853, er854, o_s838⟩ | ⟨c855, c856, c857, c858, c859, c860, c861, c862, c863, c864, er865, o_s838⟩ | ⟨c866, c867, c868, c869, c870, c871, c872, c873, c874, er875, o_s838⟩ | ⟨c876, c877, c878, c879, c880, c881, c882, c883, er884, o_s838⟩ | ⟨c885, c886, c887, c888, c889, c890, c891, er892, o_s838⟩ | ⟨c893, c894, c895, c896, c897, c898, er899, o_s838⟩ | ⟨c900, c901, c902, c903, c904, er905, o_s838⟩ | ⟨c906, c907, c908, c909, er910, o_s838⟩ | ⟨c911, c912, c913, er914, o_s838⟩
    · exact (by exfalso; (try simp only [i_lt, i_le, i_eq, kc_0, kc_4] at c137 c138 c839); omega)
    · exact (by exfalso; (try simp only [i_lt, i_le, i_eq, kc_0, kc_4] at c137 c138 c841 c842); omega)
    · skip
      subst er854
      have o_s838 := ow_on o_fsZ o_s838 (l' := [(0, .int 0), (20, .int 0), (48, .ref q_things), (63, .ref q_ringMany), (64, .ref q_groupMany), (20, .int 0), (48, .ref q_things), (63, .ref q_ringMany), (64, .ref q_groupMany)]) (w' := [0]) rfl rfl
      refine lv_icmp_eq (tgt := 3111) hx hb dL_law_2025 (by decide) (fun c915 => ?_) (fun c915 => absurd c915 (by decide))
      exact lw_end hst C0 hA hAf hZ hY (Nat.le_of_ble_eq_true rfl) (Nat.le_of_ble_eq_true rfl) dC dI P0k P0 D0 hS ls (lv_sub hl [0, 4] rfl)
    · skip
      subst er865
      have o_s838 := ow_on o_fsZ o_s838 (l' := [(0, .int 0), (20, .int 0), (48, .ref q_things), (63, .ref q_ringMany), (64, .ref q_groupMany), (20, .int 0), (48, .ref q_things), (63, .ref q_ringMany), (64, .ref q_groupMany)]) (w' := [0]) rfl rfl
      refine lv_icmp_eq (tgt := 3111) hx hb dL_law_2025 (by decide) (fun c916 => ?_) (fun c916 => absurd c916 (by decide))
      exact lw_end hst C0 hA hAf hZ hY (Nat.le_of_ble_eq_true rfl) (Nat.le_of_ble_eq_true rfl) dC dI P0k P0 D0 hS ls (lv_sub hl [0, 4] rfl)
    · skip
      subst er875
      have o_s838 := ow_on o_fsZ o_s838 (l' := [(0, .int 0), (20, .int 0), (48, .ref q_things), (63, .ref q_ringMany), (64, .ref q_groupMany), (20, .int 0), (48, .ref q_things), (63, .ref q_ringMany), (64, .ref q_groupMany)]) (w' := [0]) rfl rfl
      refine lv_icmp_eq (tgt := 3111) hx hb dL_law_2025 (by decide) (fun c917 => absurd c917 (by decide)) (fun c917 => ?_)
      refine lv_iconst (v := 0) hx hb dL_law_2028 (by decide) ?_
      exact (by exfalso; (try simp only [i_lt, i_le, i_eq, kc_0, kc_4, kc_1, kc_2, kc_3, kc_5, kc_200, kc_100] at c137 c138 c139 c140 c141 c142 c143 c144 c145 c146 c866 c867 c868 c869 c870 c871 c872 c873 c874) <;> omega)
    · skip
      subst er884
      have o_s838 := ow_on o_fsZ o_s838 (l' := [(0, .int 0), (20, .int 0), (48, .ref q_things), (63, .ref q_ringMany), (64, .ref q_groupMany), (20, .int 0), (48, .ref q_things), (63, .ref q_ringMany), (64, .ref q_groupMany)]) (w' := [0]) rfl rfl
      refine lv_icmp_eq (tgt := 3111) hx hb dL_law_2025 (by decide) (fun c918 => absurd c918 (by decide)) (fun c918 => ?_)
      refine lv_iconst (v := 0) hx hb dL_law_2028 (by decide) ?_
      exact (by exfalso; (try simp only [i_lt, i_le, i_eq, kc_0, kc_4, kc_1, kc_2, kc_3, kc_5, kc_200, kc_100] at c137 c138 c139 c140 c141 c142 c143 c144 c145 c146 c876 c877 c878 c879 c880 c881 c882 c883) <;> omega)
    · skip
      subst er892
      have o_s838 := ow_on o_fsZ o_s838 (l' := [(0, .int 0), (20, .int 0), (48, .ref q_things), (63, .ref q_ringMany), (64, .ref q_groupMany), (20, .int 0), (48, .ref q_things), (63, .ref q_ringMany), (64, .ref q_groupMany)]) (w' := [0]) rfl rfl
      refine lv_icmp_eq (tgt := 3111) hx hb dL_law_2025 (by decide) (fun c919 => absurd c919 (by decide)) (fun c919 => ?_)
      refine lv_iconst (v := 0) hx hb dL_law_2028 (by decide) ?_
      exact (by exfalso; (try simp only [i_lt, i_le, i_eq, kc_0, kc_4, kc_1, kc_2, kc_3, kc_5, kc_200, kc_100] at c137 c138 c139 c140 c141 c142 c143 c144 c145 c146 c885 c886 c887 c888 c889 c890 c891) <;> omega)
    · skip
      subst er899
      have o_s838 := ow_on o_fsZ o_s838 (l' := [(0, .int 0), (20, .int 0), (48, .ref q_things), (63, .ref q_ringMany), (64, .ref q_groupMany), (20, .int 0), (48, .ref q_things), (63, .ref q_ringMany), (64, .ref q_groupMany)]) (w' := [0]) rfl rfl
      refine lv_icmp_eq (tgt := 3111) hx hb dL_law_2025 (by decide) (fun c920 => absurd c920 (by decide)) (fun c920 => ?_)
      refine lv_iconst (v := 0) hx hb dL_law_2028 (by decide) ?_
      exact (by exfalso; (try simp only [i_lt, i_le, i_eq, kc_0, kc_4, kc_1, kc_2, kc_3, kc_5, kc_200, kc_100] at c137 c138 c139 c140 c141 c142 c143 c144 c145 c146 c893 c894 c895 c896 c897 c898) <;> omega)
    · skip
      subst er905
      have o_s838 := ow_on o_fsZ o_s838 (l' := [(0, .int 0), (20, .int 0), (48, .ref q_things), (63, .ref q_ringMany), (64, .ref q_groupMany), (20, .int 0), (48, .ref q_things), (63, .ref q_ringMany), (64, .ref q_groupMany)]) (w' := [0]) rfl rfl
      refine lv_icmp_eq (tgt := 3111) hx hb dL_law_2025 (by decide) (fun c921 => absurd c921 (by decide)) (fun c921 => ?_)
      refine lv_iconst (v := 0) hx hb dL_law_2028 (by decide) ?_
      exact (by exfalso; (try simp only [i_lt, i_le, i_eq, kc_0, kc_4, kc_1, kc_2, kc_3, kc_5, kc_200, kc_100] at c137 c138 c139 c140 c141 c142 c143 c144 c145 c146 c900 c901 c902 c903 c904) <;> omega)
    · exact (by exfalso; (try simp only [i_lt, i_le, i_eq, kc_0, kc_1, kc_2, kc_3, kc_4, kc_5, kc_200, kc_100] at c139 c140 c141 c142 c143 c144 c145 c146 c908 c909); omega)
    · exact (by exfalso; (try simp only [i_lt, i_le, i_eq, kc_0, kc_1, kc_2, kc_3, kc_4, kc_5, kc_200, kc_100] at c139 c140 c141 c142 c143 c144 c145 c146 c913); omega)
  · skip
    subst er158
    have o_s106 := ow_on o_fss o_s106 (l' := [(1, .int 0), (13, .ref ql), (15, .ref qt), (17, .ref qk), (9, .int 0), (11, .int 0), (1, .int 0), (13, .ref ql), (15, .ref qt), (17, .ref qk), (9, .int 0), (11, .int 0)]) (w' := []) rfl rfl
    refine lv_aload_n hx hb dL_law_2009 rfl (lv_at hl 2 rfl) ?_
    refine lv_aload_n hx hb dL_law_2010 rfl (lv_at hl 0 rfl) ?_
    refine lv_iload hx hb dL_law_2011 (lv_at hl 4 rfl) ?_
    refine lv_iconst (v := 1) hx hb dL_law_2013 (by decide) ?_
    refine lv_iadd hx hb dL_law_2014  ?_
    refine lv_topi (fun x922 ex922 => ?_)
    obtain rfl : x922 = 1 := ex922.trans (by decide)
    refine va_sld hx hb hX hbl hbA hS (show vp_in 1 6 from by unfold vp_in; decide) dL_law_2015 ?_
    refine lv_topi (fun x923 ex923 => ?_)
    obtain rfl : w1 = x923 := hw1.trans ex923.symm
    refine lv_aload_n hx hb dL_law_2016 rfl (lv_at hl 0 rfl) ?_
    refine lv_iload hx hb dL_law_2017 (lv_at hl 4 rfl) ?_
    refine lv_iconst (v := 2) hx hb dL_law_2019 (by decide) ?_
    refine lv_iadd hx hb dL_law_2020  ?_
    refine lv_topi (fun x924 ex924 => ?_)
    obtain rfl : x924 = 2 := ex924.trans (by decide)
    refine va_sld hx hb hX hbl hbA hS (show vp_in 2 6 from by unfold vp_in; decide) dL_law_2021 ?_
    refine lv_topi (fun x925 ex925 => ?_)
    obtain rfl : w2 = x925 := hw2.trans ex925.symm
    have hPc := hP.sub (ws' := [(aZ, .inr (15, fsZ)), (q_things, .inl (k_things, 5, .inl f_things)), (q_ringMany, .inl (k_ringMany, 5, .inl f_ringMany)), (q_groupMany, .inl (k_groupMany, 5, .inl f_groupMany))]) [0, 1, 2, 3] rfl
    have hDc := hD.sub (ws' := [(aZ, .inr (15, fsZ)), (q_things, .inl (k_things, 5, .inl f_things)), (q_ringMany, .inl (k_ringMany, 5, .inl f_ringMany)), (q_groupMany, .inl (k_groupMany, 5, .inl f_groupMany))]) [0, 1, 2, 3] (by decide) rfl
    have hKc := hK.sub (tys' := [(k_things, .int), (k_ringMany, .int), (k_groupMany, .int)]) [0, 1, 2] rfl
    have hFc := va_free (wc := [(aZ, .inr (15, fsZ)), (q_things, .inl (k_things, 5, .inl f_things)), (q_ringMany, .inl (k_ringMany, 5, .inl f_ringMany)), (q_groupMany, .inl (k_groupMany, 5, .inl f_groupMany))]) hD hS hA [0, 1, 2, 3] rfl
    refine va_calli (va_runV (As := [.int w1, .int w2]) (rest := [.int (-1)]) ⟨hx, hb, hml, hown, hts⟩ (z_X12_picture l dC dI H.size aZ fsZ q_things f_things k_things q_ringMany f_ringMany k_ringMany q_groupMany f_groupMany k_groupMany w1 w2 (fh_sub o_fsZ.2 [0, 1, 2, 3] rfl) hz_f_things hz_f_ringMany hz_f_groupMany) (cwV 2 hts g_lk_30_z_X12_picture_245 rfl rfl rfl (by decide +kernel) ⟨Nat.le_of_ble_eq_true rfl, Nat.le_of_ble_eq_true rfl⟩) ⟨fun a U g mk q => by obtain ⟨q0, q1, qP, qK, qD⟩ := q; exact ⟨q0, q1, qP, va_K.moved (u := U) (U := U.calling g mk a) (Vm.Alike.refl U.vm) qK, qD⟩, va_recv hK hP (ci := 15) (q0 := 0) rfl rfl, fun U hU hW => ⟨rfl, by rw [hU], by rw [hU]; exact hPc, va_K.moved hW.alike hKc, hDc.weaken (fun _ _ _ _ => trivial)⟩⟩ rfl rfl hl.1 rfl (lv_room (Nat.le_of_ble_eq_true rfl)) dL_law_2022 ⟨Nat.le_of_ble_eq_true rfl, Nat.le_of_ble_eq_true rfl⟩) hS (fun q _ h => hFc q h) hFc (fun r926 u t H1 locs ht hvm hw hB hz1 hk1 hS => ?_)
    obtain ⟨s927, rfl⟩ : ∃ z, z = u := ⟨_, rfl⟩
    obtain ⟨hP1, hK1, hD1⟩ := hB
    rw [ht] at hP1
    try dsimp only at hw
    obtain ⟨hP, hD⟩ := va_join (wr := [(aX, .inr (14, fsX)), (aY, .inr (13, fsY)), (qP, .inl (kP, 4, .inr (.inr (.inr (.inr gP))))), (ap, .inr (8, fsp)), (aSh, .inr (11, s106)), (ql, .inl (kl, 400, .inl fl)), (qt, .inl (kt, 400, .inl ft)), (qk, .inl (kk, 512, .inl f107))]) (w1 := [(aZ, .inr (15, s927)), (q_things, .inl (k_things, 5, .inl f_things)), (q_ringMany, .inl (k_ringMany, 5, .inl f_ringMany)), (q_groupMany, .inl (k_groupMany, 5, .inl f_groupMany))]) hP hD [0, 1, 2, 3] [4, 5, 6, 7, 8, 9, 10, 11] rfl rfl (by decide) (by decide) hk1 hFc hP1 hD1
    have hK := hK.sub (tys' := [(kP, .object "HeapWorks$Picture"), (kl, .int), (kt, .int), (kk, .int), (k_things, .int), (k_ringMany, .int), (k_groupMany, .int)]) [3, 4, 5, 6, 0, 1, 2] rfl
    generalize H1 = H at hP hS ⊢
    have hP : va_P (dC, dI) vwCl [(aX, .inr (14, fsX)), (aY, .inr (13, fsY)), (qP, .inl (kP, 4, .inr (.inr (.inr (.inr gP))))), (ap, .inr (8, fsp)), (aSh, .inr (11, s106)), (ql, .inl (kl, 400, .inl fl)), (qt, .inl (kt, 400, .inl ft)), (qk, .inl (kk, 512, .inl f107)), (aZ, .inr (15, s927)), (q_things, .inl (k_things, 5, .inl f_things)), (q_ringMany, .inl (k_ringMany, 5, .inl f_ringMany)), (q_groupMany, .inl (k_groupMany, 5, .inl f_groupMany))] H := hP
    have hD : va_D A [(aX, .inr (14, fsX)), (aY, .inr (13, fsY)), (qP, .inl (kP, 4, .inr (.inr (.inr (.inr gP))))), (ap, .inr (8, fsp)), (aSh, .inr (11, s106)), (ql, .inl (kl, 400, .inl fl)), (qt, .inl (kt, 400, .inl ft)), (qk, .inl (kk, 512, .inl f107)), (aZ, .inr (15, s927)), (q_things, .inl (k_things, 5, .inl f_things)), (q_ringMany, .inl (k_ringMany, 5, .inl f_ringMany)), (q_groupMany, .inl (k_groupMany, 5, .inl f_groupMany))] := hD
    rcases hw with ⟨c928, er929, o_s927⟩ | ⟨c930, c931, er932, o_s927⟩ | ⟨c933, c934, c935, c936, c937, c938, c939, c940, c941, c942, er943, o_s927⟩ | ⟨c944, c945, c946, c947, c948, c949, c950, c951, c952, c953, er954, o_s927⟩ | ⟨c955, c956, c957, c958, c959, c960, c961, c962, c963, er964, o_s927⟩ | ⟨c965, c966, c967, c968, c969, c970, c971, c972, er973, o_s927⟩ | ⟨c974, c975, c976, c977, c978, c979, c980, er981, o_s927⟩ | ⟨c982, c983, c984, c985, c986, c987, er988, o_s927⟩ | ⟨c989, c990, c991, c992, c993, er994, o_s927⟩ | ⟨c995, c996, c997, c998, er999, o_s927⟩ | ⟨c1000, c1001, c1002, er1003, o_s927⟩
    · exact (by exfalso; (try simp only [i_lt, i_le, i_eq, kc_0, kc_4] at c148 c149 c928); omega)
    · exact (by exfalso; (try simp only [i_lt, i_le, i_eq, kc_0, kc_4] at c148 c149 c930 c931); omega)
    · exact (by exfalso; (try simp only [i_lt, i_le, i_eq, kc_0, kc_1, kc_2, kc_3, kc_4, kc_5, kc_200, kc_100] at c150 c151 c152 c153 c154 c155 c156 c157 c935 c936 c937 c938 c939 c940 c941 c942); omega)
    · exact (by exfalso; (try simp only [i_lt, i_le, i_eq, kc_0, kc_1, kc_2, kc_3, kc_4, kc_5, kc_200, kc_100] at c150 c151 c152 c153 c154 c155 c156 c157 c946 c947 c948 c949 c950 c951 c952 c953); omega)
    · exact (by exfalso; (try simp only [i_lt, i_le, i_eq, kc_0, kc_1, kc_2, kc_3, kc_4, kc_5, kc_200, kc_100] at c150 c151 c152 c153 c154 c155 c156 c157 c957 c958 c959 c960 c961 c962 c963); omega)
    · exact (by exfalso; (try simp only [i_lt, i_le, i_eq, kc_0, kc_1, kc_2, kc_3, kc_4, kc_5, kc_200, kc_100] at c150 c151 c152 c153 c154 c155 c156 c157 c967 c968 c969 c970 c971 c972); omega)
    · exact (by exfalso; (try simp only [i_lt, i_le, i_eq, kc_0, kc_1, kc_2, kc_3, kc_4, kc_5, kc_200, kc_100] at c150 c151 c152 c153 c154 c155 c156 c157 c976 c977 c978 c979 c980); omega)
    · exact (by exfalso; (try simp only [i_lt, i_le, i_eq, kc_0, kc_1, kc_2, kc_3, kc_4, kc_5, kc_200, kc_100] at c150 c151 c152 c153 c154 c155 c156 c157 c984 c985 c986 c987); omega)
    · exact (by exfalso; (try simp only [i_lt, i_le, i_eq, kc_0, kc_1, kc_2, kc_3, kc_4, kc_5, kc_200, kc_100] at c150 c151 c152 c153 c154 c155 c156 c157 c991 c992 c993); omega)
    · skip
      subst er999
      have o_s927 := ow_on o_fsZ o_s927 (l' := [(0, .int 0), (20, .int 0), (48, .ref q_things), (63, .ref q_ringMany), (64, .ref q_groupMany), (20, .int 0), (48, .ref q_things), (63, .ref q_ringMany), (64, .ref q_groupMany)]) (w' := [0]) rfl rfl
      refine lv_icmp_eq (tgt := 3111) hx hb dL_law_2025 (by decide) (fun c1004 => ?_) (fun c1004 => absurd c1004 (by decide))
      exact lw_end hst C0 hA hAf hZ hY (Nat.le_of_ble_eq_true rfl) (Nat.le_of_ble_eq_true rfl) dC dI P0k P0 D0 hS ls (lv_sub hl [0, 4] rfl)
    · exact (by exfalso; (try simp only [i_lt, i_le, i_eq, kc_0, kc_1, kc_2, kc_3, kc_4, kc_5, kc_200, kc_100] at c150 c151 c152 c153 c154 c155 c156 c157 c1002); omega)
  · skip
    subst er168
    have o_s106 := ow_on o_fss o_s106 (l' := [(1, .int 0), (13, .ref ql), (15, .ref qt), (17, .ref qk), (9, .int 0), (11, .int 0), (1, .int 0), (13, .ref ql), (15, .ref qt), (17, .ref qk), (9, .int 0), (11, .int 0)]) (w' := []) rfl rfl
    refine lv_aload_n hx hb dL_law_2009 rfl (lv_at hl 2 rfl) ?_
    refine lv_aload_n hx hb dL_law_2010 rfl (lv_at hl 0 rfl) ?_
    refine lv_iload hx hb dL_law_2011 (lv_at hl 4 rfl) ?_
    refine lv_iconst (v := 1) hx hb dL_law_2013 (by decide) ?_
    refine lv_iadd hx hb dL_law_2014  ?_
    refine lv_topi (fun x1005 ex1005 => ?_)
    obtain rfl : x1005 = 1 := ex1005.trans (by decide)
    refine va_sld hx hb hX hbl hbA hS (show vp_in 1 6 from by unfold vp_in; decide) dL_law_2015 ?_
    refine lv_topi (fun x1006 ex1006 => ?_)
    obtain rfl : w1 = x1006 := hw1.trans ex1006.symm
    refine lv_aload_n hx hb dL_law_2016 rfl (lv_at hl 0 rfl) ?_
    refine lv_iload hx hb dL_law_2017 (lv_at hl 4 rfl) ?_
    refine lv_iconst (v := 2) hx hb dL_law_2019 (by decide) ?_
    refine lv_iadd hx hb dL_law_2020  ?_
    refine lv_topi (fun x1007 ex1007 => ?_)
    obtain rfl : x1007 = 2 := ex1007.trans (by decide)
    refine va_sld hx hb hX hbl hbA hS (show vp_in 2 6 from by unfold vp_in; decide) dL_law_2021 ?_
    refine lv_topi (fun x1008 ex1008 => ?_)
    obtain rfl : w2 = x1008 := hw2.trans ex1008.symm
    have hPc := hP.sub (ws' := [(aZ, .inr (15, fsZ)), (q_things, .inl (k_things, 5, .inl f_things)), (q_ringMany, .inl (k_ringMany, 5, .inl f_ringMany)), (q_groupMany, .inl (k_groupMany, 5, .inl f_groupMany))]) [0, 1, 2, 3] rfl
    have hDc := hD.sub (ws' := [(aZ, .inr (15, fsZ)), (q_things, .inl (k_things, 5, .inl f_things)), (q_ringMany, .inl (k_ringMany, 5, .inl f_ringMany)), (q_groupMany, .inl (k_groupMany, 5, .inl f_groupMany))]) [0, 1, 2, 3] (by decide) rfl
    have hKc := hK.sub (tys' := [(k_things, .int), (k_ringMany, .int), (k_groupMany, .int)]) [0, 1, 2] rfl
    have hFc := va_free (wc := [(aZ, .inr (15, fsZ)), (q_things, .inl (k_things, 5, .inl f_things)), (q_ringMany, .inl (k_ringMany, 5, .inl f_ringMany)), (q_groupMany, .inl (k_groupMany, 5, .inl f_groupMany))]) hD hS hA [0, 1, 2, 3] rfl
    refine va_calli (va_runV (As := [.int w1, .int w2]) (rest := [.int (-1)]) ⟨hx, hb, hml, hown, hts⟩ (z_X12_picture l dC dI H.size aZ fsZ q_things f_things k_things q_ringMany f_ringMany k_ringMany q_groupMany f_groupMany k_groupMany w1 w2 (fh_sub o_fsZ.2 [0, 1, 2, 3] rfl) hz_f_things hz_f_ringMany hz_f_groupMany) (cwV 2 hts g_lk_30_z_X12_picture_245 rfl rfl rfl (by decide +kernel) ⟨Nat.le_of_ble_eq_true rfl, Nat.le_of_ble_eq_true rfl⟩) ⟨fun a U g mk q => by obtain ⟨q0, q1, qP, qK, qD⟩ := q; exact ⟨q0, q1, qP, va_K.moved (u := U) (U := U.calling g mk a) (Vm.Alike.refl U.vm) qK, qD⟩, va_recv hK hP (ci := 15) (q0 := 0) rfl rfl, fun U hU hW => ⟨rfl, by rw [hU], by rw [hU]; exact hPc, va_K.moved hW.alike hKc, hDc.weaken (fun _ _ _ _ => trivial)⟩⟩ rfl rfl hl.1 rfl (lv_room (Nat.le_of_ble_eq_true rfl)) dL_law_2022 ⟨Nat.le_of_ble_eq_true rfl, Nat.le_of_ble_eq_true rfl⟩) hS (fun q _ h => hFc q h) hFc (fun r1009 u t H1 locs ht hvm hw hB hz1 hk1 hS => ?_)
    obtain ⟨s1010, rfl⟩ : ∃ z, z = u := ⟨_, rfl⟩
    obtain ⟨hP1, hK1, hD1⟩ := hB
    rw [ht] at hP1
    try dsimp only at hw
    obtain ⟨hP, hD⟩ := va_join (wr := [(aX, .inr (14, fsX)), (aY, .inr (13, fsY)), (qP, .inl (kP, 4, .inr (.inr (.inr (.inr gP))))), (ap, .inr (8, fsp)), (aSh, .inr (11, s106)), (ql, .inl (kl, 400, .inl fl)), (qt, .inl (kt, 400, .inl ft)), (qk, .inl (kk, 512, .inl f107))]) (w1 := [(aZ, .inr (15, s1010)), (q_things, .inl (k_things, 5, .inl f_things)), (q_ringMany, .inl (k_ringMany, 5, .inl f_ringMany)), (q_groupMany, .inl (k_groupMany, 5, .inl f_groupMany))]) hP hD [0, 1, 2, 3] [4, 5, 6, 7, 8, 9, 10, 11] rfl rfl (by decide) (by decide) hk1 hFc hP1 hD1
    have hK := hK.sub (tys' := [(kP, .object "HeapWorks$Picture"), (kl, .int), (kt, .int), (kk, .int), (k_things, .int), (k_ringMany, .int), (k_groupMany, .int)]) [3, 4, 5, 6, 0, 1, 2] rfl
    generalize H1 = H at hP hS ⊢
    have hP : va_P (dC, dI) vwCl [(aX, .inr (14, fsX)), (aY, .inr (13, fsY)), (qP, .inl (kP, 4, .inr (.inr (.inr (.inr gP))))), (ap, .inr (8, fsp)), (aSh, .inr (11, s106)), (ql, .inl (kl, 400, .inl fl)), (qt, .inl (kt, 400, .inl ft)), (qk, .inl (kk, 512, .inl f107)), (aZ, .inr (15, s1010)), (q_things, .inl (k_things, 5, .inl f_things)), (q_ringMany, .inl (k_ringMany, 5, .inl f_ringMany)), (q_groupMany, .inl (k_groupMany, 5, .inl f_groupMany))] H := hP
    have hD : va_D A [(aX, .inr (14, fsX)), (aY, .inr (13, fsY)), (qP, .inl (kP, 4, .inr (.inr (.inr (.inr gP))))), (ap, .inr (8, fsp)), (aSh, .inr (11, s106)), (ql, .inl (kl, 400, .inl fl)), (qt, .inl (kt, 400, .inl ft)), (qk, .inl (kk, 512, .inl f107)), (aZ, .inr (15, s1010)), (q_things, .inl (k_things, 5, .inl f_things)), (q_ringMany, .inl (k_ringMany, 5, .inl f_ringMany)), (q_groupMany, .inl (k_groupMany, 5, .inl f_groupMany))] := hD
    rcases hw with ⟨c1011, er1012, o_s1010⟩ | ⟨c1013, c1014, er1015, o_s1010⟩ | ⟨c1016, c1017, c1018, c1019, c1020, c1021, c1022, c1023, c1024, c1025, er1026, o_s1010⟩ | ⟨c1027, c1028, c1029, c1030, c1031, c1032, c1033, c1034, c1035, c1036, er1037, o_s1010⟩ | ⟨c1038, c1039, c1040, c1041, c1042, c1043, c1044, c1045, c1046, er1047, o_s1010⟩ | ⟨c1048, c1049, c1050, c1051, c1052, c1053, c1054, c1055, er1056, o_s1010⟩ | ⟨c1057, c1058, c1059, c1060, c1061, c1062, c1063, er1064, o_s1010⟩ | ⟨c1065, c1066, c1067, c1068, c1069, c1070, er1071, o_s1010⟩ | ⟨c1072, c1073, c1074, c1075, c1076, er1077, o_s1010⟩ | ⟨c1078, c1079, c1080, c1081, er1082, o_s1010⟩ | ⟨c1083, c1084, c1085, er1086, o_s1010⟩
    · exact (by exfalso; (try simp only [i_lt, i_le, i_eq, kc_0, kc_4] at c159 c160 c1011); omega)
    · exact (by exfalso; (try simp only [i_lt, i_le, i_eq, kc_0, kc_4] at c159 c160 c1013 c1014); omega)
    · exact (by exfalso; (try simp only [i_lt, i_le, i_eq, kc_0, kc_1, kc_2, kc_3, kc_4, kc_5, kc_200, kc_100] at c161 c162 c163 c164 c165 c166 c167 c1018 c1019 c1020 c1021 c1022 c1023 c1024 c1025); omega)
    · exact (by exfalso; (try simp only [i_lt, i_le, i_eq, kc_0, kc_1, kc_2, kc_3, kc_4, kc_5, kc_200, kc_100] at c161 c162 c163 c164 c165 c166 c167 c1029 c1030 c1031 c1032 c1033 c1034 c1035 c1036); omega)
    · exact (by exfalso; (try simp only [i_lt, i_le, i_eq, kc_0, kc_1, kc_2, kc_3, kc_4, kc_5, kc_200, kc_100] at c161 c162 c163 c164 c165 c166 c167 c1040 c1041 c1042 c1043 c1044 c1045 c1046); omega)
    · exact (by exfalso; (try simp only [i_lt, i_le, i_eq, kc_0, kc_1, kc_2, kc_3, kc_4, kc_5, kc_200, kc_100] at c161 c162 c163 c164 c165 c166 c167 c1050 c1051 c1052 c1053 c1054 c1055); omega)
    · exact (by exfalso; (try simp only [i_lt, i_le, i_eq, kc_0, kc_1, kc_2, kc_3, kc_4, kc_5, kc_200, kc_100] at c161 c162 c163 c164 c165 c166 c167 c1059 c1060 c1061 c1062 c1063); omega)
    · exact (by exfalso; (try simp only [i_lt, i_le, i_eq, kc_0, kc_1, kc_2, kc_3, kc_4, kc_5, kc_200, kc_100] at c161 c162 c163 c164 c165 c166 c167 c1067 c1068 c1069 c1070); omega)
    · exact (by exfalso; (try simp only [i_lt, i_le, i_eq, kc_0, kc_1, kc_2, kc_3, kc_4, kc_5, kc_200, kc_100] at c161 c162 c163 c164 c165 c166 c167 c1074 c1075 c1076); omega)
    · exact (by exfalso; (try simp only [i_lt, i_le, i_eq, kc_0, kc_1, kc_2, kc_3, kc_4, kc_5, kc_200, kc_100] at c161 c162 c163 c164 c165 c166 c167 c1080 c1081); omega)
    · skip
      subst er1086
      have o_s1010 := ow_on o_fsZ o_s1010 (l' := [(0, .int 0), (20, .int 0), (48, .ref q_things), (63, .ref q_ringMany), (64, .ref q_groupMany), (20, .int 0), (48, .ref q_things), (63, .ref q_ringMany), (64, .ref q_groupMany)]) (w' := [0]) rfl rfl
      refine lv_icmp_eq (tgt := 3111) hx hb dL_law_2025 (by decide) (fun c1087 => ?_) (fun c1087 => absurd c1087 (by decide))
      exact lw_end hst C0 hA hAf hZ hY (Nat.le_of_ble_eq_true rfl) (Nat.le_of_ble_eq_true rfl) dC dI P0k P0 D0 hS ls (lv_sub hl [0, 4] rfl)

