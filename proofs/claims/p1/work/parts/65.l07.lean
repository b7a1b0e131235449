set_option maxRecDepth 20000 in
theorem g_lk_38_z_L_ask_271 : GoodIn lwW (va_wsS RL 271 yL_ask w_z_L_ask) := goodIn_app (goodIn_sub (ws := ([.methodLink RL 271 yL_ask, .static yL_ask, .initialized RL] : List Cond)) (gm_c (gm_at lwV_75_in 8 rfl) (gm_c (gm_at lwV_75_in 9 rfl) (gm_c (gm_at lwV_5_in 10 rfl) gm_nil))) (by decide +kernel)) (goodIn_ca (goodIn_sub (ws := .codeWith yL_ask cL_ask 4 (some .int) [(0, 9, 12, 13), (0, 9, 15, 15)] :: l_z_L_ask) (gm_c (gm_at lwV_76_in 1 rfl) (gm_c (gm_at lwV_76_in 2 rfl) (gm_c (gm_at lwV_76_in 3 rfl) (gm_c (gm_at lwV_76_in 4 rfl) (gm_c (gm_at lwV_0_in 3 rfl) (gm_c (gm_at lwV_6_in 9 rfl) (gm_c (gm_at lwV_6_in 10 rfl) (gm_c (gm_at lwV_76_in 5 rfl) (gm_c (gm_at lwV_54_in 10 rfl) (gm_c (gm_at lwV_54_in 11 rfl) (gm_c (gm_at lwV_76_in 6 rfl) (gm_c (gm_at lwV_76_in 7 rfl) (gm_c (gm_at lwV_76_in 8 rfl) (gm_c (gm_at lwV_76_in 9 rfl) (gm_c (gm_at lwV_76_in 10 rfl) (gm_c (gm_at lwV_76_in 11 rfl) (gm_c (gm_at lwV_38_in 4 rfl) (gm_c (gm_at lwV_38_in 5 rfl) (gm_c (gm_at lwV_38_in 6 rfl) (gm_c (gm_at lwV_38_in 7 rfl) (gm_c (gm_at lwV_38_in 8 rfl) (gm_c (gm_at lwV_38_in 9 rfl) (gm_c (gm_at lwV_45_in 2 rfl) (gm_c (gm_at lwV_7_in 5 rfl) (gm_c (gm_at lwV_7_in 6 rfl) (gm_c (gm_at lwV_55_in 6 rfl) (gm_c (gm_at lwV_55_in 7 rfl) (gm_c (gm_at lwV_55_in 8 rfl) (gm_c (gm_at lwV_7_in 0 rfl) (gm_c (gm_at lwV_7_in 1 rfl) (gm_c (gm_at lwV_55_in 9 rfl) (gm_c (gm_at lwV_77_in 0 rfl) (gm_c (gm_at lwV_38_in 11 rfl) (gm_c (gm_at lwV_39_in 0 rfl) (gm_c (gm_at lwV_39_in 1 rfl) (gm_c (gm_at lwV_77_in 1 rfl) (gm_c (gm_at lwV_77_in 2 rfl) (gm_c (gm_at lwV_77_in 3 rfl) (gm_c (gm_at lwV_39_in 5 rfl) (gm_c (gm_at lwV_39_in 6 rfl) (gm_c (gm_at lwV_39_in 7 rfl) (gm_c (gm_at lwV_39_in 8 rfl) (gm_c (gm_at lwV_39_in 9 rfl) (gm_c (gm_at lwV_39_in 10 rfl) (gm_c (gm_at lwV_39_in 11 rfl) (gm_c (gm_at lwV_40_in 0 rfl) (gm_c (gm_at lwV_40_in 1 rfl) (gm_c (gm_at lwV_40_in 2 rfl) (gm_c (gm_at lwV_40_in 3 rfl) (gm_c (gm_at lwV_40_in 4 rfl) (gm_c (gm_at lwV_40_in 5 rfl) (gm_c (gm_at lwV_40_in 6 rfl) (gm_c (gm_at lwV_40_in 7 rfl) (gm_c (gm_at lwV_40_in 8 rfl) (gm_c (gm_at lwV_1_in 1 rfl) (gm_c (gm_at lwV_40_in 9 rfl) (gm_c (gm_at lwV_8_in 1 rfl) (gm_c (gm_at lwV_8_in 2 rfl) (gm_c (gm_at lwV_8_in 3 rfl) (gm_c (gm_at lwV_8_in 4 rfl) (gm_c (gm_at lwV_40_in 10 rfl) (gm_c (gm_at lwV_8_in 5 rfl) (gm_c (gm_at lwV_40_in 11 rfl) (gm_c (gm_at lwV_8_in 7 rfl) (gm_c (gm_at lwV_41_in 0 rfl) (gm_c (gm_at lwV_8_in 8 rfl) (gm_c (gm_at lwV_41_in 1 rfl) (gm_c (gm_at lwV_41_in 2 rfl) (gm_c (gm_at lwV_41_in 3 rfl) (gm_c (gm_at lwV_41_in 4 rfl) (gm_c (gm_at lwV_8_in 6 rfl) (gm_c (gm_at lwV_2_in 6 rfl) (gm_c (gm_at lwV_41_in 5 rfl) (gm_c (gm_at lwV_77_in 4 rfl) (gm_c (gm_at lwV_42_in 3 rfl) (gm_c (gm_at lwV_44_in 4 rfl) (gm_c (gm_at lwV_44_in 5 rfl) (gm_c (gm_at lwV_44_in 6 rfl) (gm_c (gm_at lwV_44_in 7 rfl) (gm_c (gm_at lwV_44_in 8 rfl) (gm_c (gm_at lwV_44_in 9 rfl) (gm_c (gm_at lwV_44_in 10 rfl) (gm_c (gm_at lwV_44_in 11 rfl) (gm_c (gm_at lwV_45_in 0 rfl) (gm_c (gm_at lwV_45_in 1 rfl) (gm_c (gm_at lwV_45_in 3 rfl) gm_nil)))))))))))))))))))))))))))))))))))))))))))))))))))))))))))))))))))))))))))))))))))))) (by decide +kernel)) (goodIn_app (goodIn_in il_X11 gd_X11) (goodIn_app (goodIn_in il_X4 gd_X4) (goodIn_app (goodIn_in il_X6 gd_X6) (goodIn_app (goodIn_in il_at0_X11_129 gd_at0_X11_129) (goodIn_app (goodIn_in il_at0_X11_122 gd_at0_X11_122) (goodIn_in il_X9 gd_X9)))))))
set_option maxRecDepth 20000 in
theorem g_lk_38_z_X12_ask_273 : GoodIn lwW (wsV RL 273 RX12 yX12_ask w_z_X12_ask) := goodIn_app (goodIn_sub (ws := ([.methodLink RL 273 yX12_ask, .instanceMethod yX12_ask, .selects RX12 yX12_ask yX12_ask, .initialized RX12] : List Cond)) (gm_c (gm_at lwV_75_in 10 rfl) (gm_c (gm_at lwV_75_in 11 rfl) (gm_c (gm_at lwV_76_in 0 rfl) (gm_c (gm_at lwV_0_in 7 rfl) gm_nil)))) (by decide +kernel)) (goodIn_ca (goodIn_sub (ws := .code yX12_ask cX12_ask 5 (some .int) :: l_z_X12_ask) (gm_c (gm_at lwV_77_in 5 rfl) (gm_c (gm_at lwV_57_in 0 rfl) (gm_c (gm_at lwV_57_in 1 rfl) (gm_c (gm_at lwV_57_in 2 rfl) (gm_c (gm_at lwV_0_in 7 rfl) (gm_c (gm_at lwV_1_in 5 rfl) (gm_c (gm_at lwV_77_in 6 rfl) (gm_c (gm_at lwV_45_in 6 rfl) (gm_c (gm_at lwV_45_in 7 rfl) (gm_c (gm_at lwV_45_in 8 rfl) (gm_c (gm_at lwV_45_in 9 rfl) (gm_c (gm_at lwV_77_in 7 rfl) (gm_c (gm_at lwV_77_in 8 rfl) (gm_c (gm_at lwV_77_in 9 rfl) (gm_c (gm_at lwV_77_in 10 rfl) (gm_c (gm_at lwV_77_in 11 rfl) (gm_c (gm_at lwV_78_in 0 rfl) (gm_c (gm_at lwV_46_in 1 rfl) (gm_c (gm_at lwV_46_in 2 rfl) (gm_c (gm_at lwV_46_in 3 rfl) (gm_c (gm_at lwV_46_in 4 rfl) (gm_c (gm_at lwV_57_in 10 rfl) (gm_c (gm_at lwV_46_in 5 rfl) (gm_c (gm_at lwV_46_in 6 rfl) (gm_c (gm_at lwV_46_in 7 rfl) (gm_c (gm_at lwV_46_in 8 rfl) (gm_c (gm_at lwV_46_in 9 rfl) (gm_c (gm_at lwV_46_in 10 rfl) (gm_c (gm_at lwV_46_in 11 rfl) (gm_c (gm_at lwV_47_in 0 rfl) (gm_c (gm_at lwV_47_in 1 rfl) (gm_c (gm_at lwV_47_in 2 rfl) (gm_c (gm_at lwV_47_in 3 rfl) (gm_c (gm_at lwV_47_in 4 rfl) (gm_c (gm_at lwV_47_in 5 rfl) (gm_c (gm_at lwV_47_in 6 rfl) (gm_c (gm_at lwV_47_in 7 rfl) (gm_c (gm_at lwV_47_in 8 rfl) (gm_c (gm_at lwV_47_in 9 rfl) (gm_c (gm_at lwV_47_in 10 rfl) (gm_c (gm_at lwV_47_in 11 rfl) (gm_c (gm_at lwV_3_in 5 rfl) (gm_c (gm_at lwV_78_in 1 rfl) (gm_c (gm_at lwV_51_in 6 rfl) (gm_c (gm_at lwV_51_in 7 rfl) (gm_c (gm_at lwV_51_in 8 rfl) (gm_c (gm_at lwV_52_in 1 rfl) (gm_c (gm_at lwV_52_in 2 rfl) (gm_c (gm_at lwV_52_in 3 rfl) (gm_c (gm_at lwV_52_in 4 rfl) (gm_c (gm_at lwV_52_in 6 rfl) (gm_c (gm_at lwV_52_in 7 rfl) (gm_c (gm_at lwV_52_in 8 rfl) (gm_c (gm_at lwV_52_in 9 rfl) (gm_c (gm_at lwV_52_in 10 rfl) (gm_c (gm_at lwV_78_in 2 rfl) (gm_c (gm_at lwV_52_in 11 rfl) (gm_c (gm_at lwV_53_in 0 rfl) gm_nil)))))))))))))))))))))))))))))))))))))))))))))))))))))))))) (by decide +kernel)) (goodIn_in il_X12 gd_X12))
set_option maxRecDepth 20000 in
theorem g_lk_38_z_X12_thrown_149 : GoodIn lwW (wsV RL 149 RX12 yX12_thrown w_z_X12_thrown) := goodIn_app (goodIn_sub (ws := ([.methodLink RL 149 yX12_thrown, .instanceMethod yX12_thrown, .selects RX12 yX12_thrown yX12_thrown, .initialized RX12] : List Cond)) (gm_c (gm_at lwV_6_in 2 rfl) (gm_c (gm_at lwV_6_in 3 rfl) (gm_c (gm_at lwV_6_in 4 rfl) (gm_c (gm_at lwV_0_in 7 rfl) gm_nil)))) (by decide +kernel)) (goodIn_ca (goodIn_sub (ws := .code yX12_thrown cX12_thrown 1 (some .int) :: l_z_X12_thrown) (gm_c (gm_at lwV_9_in 9 rfl) (gm_c (gm_at lwV_1_in 5 rfl) gm_nil)) (by decide +kernel)) (goodIn_in il_X12 gd_X12))
set_option maxRecDepth 20000 in
theorem g_lk_38_z_X12_thrown_1_149 : GoodIn lwW (wsV RL 149 RX12 yX12_thrown w_z_X12_thrown_1) := goodIn_app (goodIn_sub (ws := ([.methodLink RL 149 yX12_thrown, .instanceMethod yX12_thrown, .selects RX12 yX12_thrown yX12_thrown, .initialized RX12] : List Cond)) (gm_c (gm_at lwV_6_in 2 rfl) (gm_c (gm_at lwV_6_in 3 rfl) (gm_c (gm_at lwV_6_in 4 rfl) (gm_c (gm_at lwV_0_in 7 rfl) gm_nil)))) (by decide +kernel)) (goodIn_ca (goodIn_sub (ws := .code yX12_thrown cX12_thrown 1 (some .int) :: l_z_X12_thrown_1) (gm_c (gm_at lwV_9_in 9 rfl) (gm_c (gm_at lwV_1_in 5 rfl) gm_nil)) (by decide +kernel)) (goodIn_in il_X12 gd_X12))
set_option maxHeartbeats 4000000 in
set_option maxRecDepth 100000 in
/-- the law, one call: ask -/
theorem lk_38 {p : Program} {l : Launch} {e : Env} {s : State} {m : MethodId} {below : List Frame} {meth : Method} {c : Code} {b : Nat} {xs : Nat → Int32} (hst : l.stackTraces = false) (C0 : lw_At p s m meth c b 6 xs) {A : Nat → Prop} (hA : ∀ q : Nat, s.heap.size ≤ q → A q) (hAf : ∀ q : Nat, A q → s.heap.size ≤ q) (hZ : Zz A s) (hY : Yy s) (dC : Nat → ClassId) (dI : Nat → Nat → Nat) (aX : Nat) (fsX : List Value) (aT : Nat) (fsT : List Value) (qw : Nat) (fw : Nat → Int32) (kw : ClassId) (qp : Nat) (fp : Nat → Int32) (kp : ClassId) (qc : Nat) (fc : Nat → Int64) (kcc : ClassId) (aQ : Nat) (fsQ : List Value) (aM : Nat) (fsM : List Value) (aZ : Nat) (fsZ : List Value) (qO : Nat) (w1 : Int32) (hw1 : w1 = xs (1 : Int32).toNatClampNeg) (w2 : Int32) (hw2 : w2 = xs (2 : Int32).toNatClampNeg) (w3 : Int32) (hw3 : w3 = xs (3 : Int32).toNatClampNeg) (w4 : Int32) (hw4 : w4 = xs (4 : Int32).toNatClampNeg) (w5 : Int32) (hw5 : w5 = xs (5 : Int32).toNatClampNeg) (k_fsX : fh fsX 18 [(6, .ref aQ), (7, .ref aM), (16, .int 0)]) (k_fsT : fh fsT 12 [(1, .int 0), (5, .ref qw), (6, .ref qp), (7, .ref qc)]) (k_fsQ : fh fsQ 19 [(0, .ref aT)]) (k_fsM : fh fsM 21 []) (k_fsZ : fh fsZ 150 [(0, .int 0), (3, .int 0), (78, .int 0), (79, .int 0), (80, .int 0), (81, .int 0), (83, .int 0), (84, .int 0), (91, .int 0), (110, .int 0)])  {H : Heap} {locs : List Loc} (hK : va_K (dC, dI) vwCl [(kw, .int), (kp, .int), (kcc, .long)] s) (hP : va_P (dC, dI) vwCl [(aX, .inr (14, fsX)), (aT, .inr (12, fsT)), (qw, .inl (kw, 4001, .inl fw)), (qp, .inl (kp, 4001, .inl fp)), (qc, .inl (kcc, 4001, .inr (.inl fc))), (aQ, .inr (9, fsQ)), (aM, .inr (7, fsM)), (aZ, .inr (15, fsZ))] H) (hD : va_D A [(aX, .inr (14, fsX)), (aT, .inr (12, fsT)), (qw, .inl (kw, 4001, .inl fw)), (qp, .inl (kp, 4001, .inl fp)), (qc, .inl (kcc, 4001, .inr (.inl fc))), (aQ, .inr (9, fsQ)), (aM, .inr (7, fsM)), (aZ, .inr (15, fsZ))]) (hS : va_S A s.heap H locs) (ls : Array Slot) (hl : lv_has ls 8 [(0, .ref b), (1, .ref aX), (2, .ref aZ), (3, .ref qO), (4, .int 0)]) : W p l e room_1 s m #[Value.ref b] below meth c H locs 390 571359 (lw_Z below #[Value.ref b] s) (F0 m 2484 ls []) := by
  obtain ⟨hx, hb, hr, hml, hown0, hts0, hX, hbl, hlocks, hgv⟩ := id C0
  have hown : s.vm.findClass RL = some m.cls := hown0
  have hts : ∀ w ∈ lwW, w.before #[Value.ref b] s = true := fun w h => hts0 w (lwW_in w h)
  have hbA : ¬ A b := fun h => absurd (hAf b h) (Nat.not_le.mpr hbl)
  have o_fsX := ow_0 k_fsX
  have o_fsT := ow_0 k_fsT
  have o_fsQ := ow_0 k_fsQ
  have o_fsM := ow_0 k_fsM
  have o_fsZ := ow_0 k_fsZ
  refine lv_aload_n hx hb dL_law_2484 rfl (lv_at hl 1 rfl) ?_
  refine lv_aload_n hx hb dL_law_2485 rfl (lv_at hl 0 rfl) ?_
  refine lv_iload hx hb dL_law_2486 (lv_at hl 4 rfl) ?_
  refine lv_iconst (v := 1) hx hb dL_law_2488 (by decide) ?_
  refine lv_iadd hx hb dL_law_2489  ?_
  refine lv_topi (fun x101 ex101 => ?_)
  obtain rfl : x101 = 1 := ex101.trans (by decide)
  refine va_sld hx hb hX hbl hbA hS (show vp_in 1 6 from by unfold vp_in; decide) dL_law_2490 ?_
  refine lv_topi (fun x102 ex102 => ?_)
  obtain rfl : w1 = x102 := hw1.trans ex102.symm
  refine lv_aload_n hx hb dL_law_2491 rfl (lv_at hl 3 rfl) ?_
  have hPc := hP.sub (ws' := [(aX, .inr (14, fsX)), (aT, .inr (12, fsT)), (qw, .inl (kw, 4001, .inl fw)), (qp, .inl (kp, 4001, .inl fp)), (qc, .inl (kcc, 4001, .inr (.inl fc))), (aQ, .inr (9, fsQ)), (aM, .inr (7, fsM))]) [0, 1, 2, 3, 4, 5, 6] rfl
  have hDc := hD.sub (ws' := [(aX, .inr (14, fsX)), (aT, .inr (12, fsT)), (qw, .inl (kw, 4001, .inl fw)), (qp, .inl (kp, 4001, .inl fp)), (qc, .inl (kcc, 4001, .inr (.inl fc))), (aQ, .inr (9, fsQ)), (aM, .inr (7, fsM))]) [0, 1, 2, 3, 4, 5, 6] (by decide) rfl
  have hKc := hK.sub (tys' := [(kw, .int), (kp, .int), (kcc, .long)]) [0, 1, 2] rfl
  have hFc := va_free (wc := [(aX, .inr (14, fsX)), (aT, .inr (12, fsT)), (qw, .inl (kw, 4001, .inl fw)), (qp, .inl (kp, 4001, .inl fp)), (qc, .inl (kcc, 4001, .inr (.inl fc))), (aQ, .inr (9, fsQ)), (aM, .inr (7, fsM))]) hD hS hA [0, 1, 2, 3, 4, 5, 6] rfl
  refine vx_calli (vx_runSX (As := [.ref aX, .int w1, .ref qO]) (rest := []) ⟨hx, hb, hml, hown, hts⟩ (z_L_ask l dC dI H.size aX fsX aT fsT qw fw kw qp fp kp qc fc kcc aQ fsQ aM fsM w1 qO (fh_sub o_fsX.2 [0, 1, 2] rfl) (fh_sub o_fsT.2 [0, 1, 2, 3] rfl) (fh_sub o_fsQ.2 [0] rfl) (fh_sub o_fsM.2 [] rfl) hst ) (vx_cwSW 3 hts g_lk_38_z_L_ask_271 rfl rfl rfl (by decide +kernel) ⟨Nat.le_of_ble_eq_true rfl, Nat.le_of_ble_eq_true rfl⟩) ⟨fun a U g mk q => by obtain ⟨q0, q1, qZ, qY, qP, qK, qD⟩ := q; exact ⟨q0, q1, Zz_call qZ, Yy_call qY, qP, va_K.moved (u := U) (U := U.calling g mk a) (Vm.Alike.refl U.vm) qK, qD⟩, fun U hU hW => ⟨rfl, by rw [hU], Zz_go hZ hS hFc hU hW, Yy_go hY hW, by rw [hU]; exact hPc, va_K.moved hW.alike hKc, hDc.weaken (fun _ _ _ _ => trivial)⟩⟩ rfl rfl hl.1 rfl (lv_room (Nat.le_of_ble_eq_true rfl)) dL_law_2492 ⟨Nat.le_of_ble_eq_true rfl, Nat.le_of_ble_eq_true rfl⟩) hS (fun q _ h => hFc q h) hFc (fun q _ h => hFc q h) (fun E ce q9 u t H1 locs ht hvm hpx hBX hz1 hk1 hS hce hcv hcl => ?_) (fun r103 u t H1 locs ht hvm hw hB hz1 hk1 hS => ?_)
  · exact False.elim hBX
  · skip
    obtain ⟨hP1, hK1, hD1⟩ := hB
    rw [ht] at hP1
    try dsimp only at hw
    obtain ⟨hP, hD⟩ := va_join (wr := [(aZ, .inr (15, fsZ))]) (w1 := []) hP hD [0, 1, 2, 3, 4, 5, 6] [7] rfl rfl (by decide) (by decide) hk1 hFc hP1 hD1
    have hK := hK.sub (tys' := []) [] rfl
    generalize H1 = H at hP hS ⊢
    refine W.widen (k := 392) (n := 571371) (by omega) (by omega) ?_
    have hP : va_P (dC, dI) vwCl [(aZ, .inr (15, fsZ))] H := hP
    have hD : va_D A [(aZ, .inr (15, fsZ))] := hD
    rcases hw with ⟨c104, er105⟩ | ⟨c106, c107, er108⟩ | ⟨c109, c110, er111⟩
    · skip
      subst er105
      refine lv_istore (lv' := [(5, .int 1), (0, .ref b), (1, .ref aX), (2, .ref aZ), (3, .ref qO), (4, .int 0)]) hx hb dL_law_2495 hl (by decide) rfl (fun ls hl => ?_)
      refine lv_aload_n hx hb dL_law_2497 rfl (lv_at hl 3 rfl) ?_
      refine lv_aload_n hx hb dL_law_2498 rfl (lv_at hl 1 rfl) ?_
      refine lv_iload hx hb dL_law_2499 (lv_at hl 5 rfl) ?_
      refine lv_iconst (v := 1) hx hb dL_law_2501 (by decide) ?_
      refine lv_iadd hx hb dL_law_2502  ?_
      refine lv_topi (fun x112 ex112 => ?_)
      obtain rfl : x112 = 1 := ex112.trans (by decide)
      refine va_sld hx hb hX hbl hbA hS (show vp_in 1 6 from by unfold vp_in; decide) dL_law_2503 ?_
      refine lv_topi (fun x113 ex113 => ?_)
      obtain rfl : w1 = x113 := hw1.trans ex113.symm
      have hPc := hP.sub (ws' := [(aZ, .inr (15, fsZ))]) [0] rfl
      have hDc := hD.sub (ws' := [(aZ, .inr (15, fsZ))]) [0] (by decide) rfl
      have hKc := hK.sub (tys' := []) [] rfl
      have hFc := va_free (wc := [(aZ, .inr (15, fsZ))]) hD hS hA [0] rfl
      refine va_calli (va_runV (As := [.int w1]) (rest := []) ⟨hx, hb, hml, hown, hts⟩ (z_X12_ask l dC dI H.size aZ fsZ w1 (fh_sub o_fsZ.2 [0, 1, 2, 3, 4, 5, 6, 7, 8, 9] rfl) ) (cwV 1 hts g_lk_38_z_X12_ask_273 rfl rfl rfl (by decide +kernel) ⟨Nat.le_of_ble_eq_true rfl, Nat.le_of_ble_eq_true rfl⟩) ⟨fun a U g mk q => by obtain ⟨q0, q1, qP, qK, qD⟩ := q; exact ⟨q0, q1, qP, va_K.moved (u := U) (U := U.calling g mk a) (Vm.Alike.refl U.vm) qK, qD⟩, va_recv hK hP (ci := 15) (q0 := 0) rfl rfl, fun U hU hW => ⟨rfl, by rw [hU], by rw [hU]; exact hPc, va_K.moved hW.alike hKc, hDc.weaken (fun _ _ _ _ => trivial)⟩⟩ rfl rfl hl.1 rfl (lv_room (Nat.le_of_ble_eq_true rfl)) dL_law_2504 ⟨Nat.le_of_ble_eq_true rfl, Nat.le_of_ble_eq_true rfl⟩) hS (fun q _ h => hFc q h) hFc (fun r114 u t H1 locs ht hvm hw hB hz1 hk1 hS => ?_)
      obtain ⟨s115, rfl⟩ : ∃ z, z = u := ⟨_, rfl⟩
      obtain ⟨hP1, hK1, hD1⟩ := hB
      rw [ht] at hP1
      try dsimp only at hw
      obtain ⟨hP, hD⟩ := va_join (wr := []) (w1 := [(aZ, .inr (15, s115))]) hP hD [0] [] rfl rfl (by decide) (by decide) hk1 hFc hP1 hD1
      have hK := hK.sub (tys' := []) [] rfl
      generalize H1 = H at hP hS ⊢
      have hP : va_P (dC, dI) vwCl [(aZ, .inr (15, s115))] H := hP
      have hD : va_D A [(aZ, .inr (15, s115))] := hD
      rcases hw with ⟨c116, er117, o_s115⟩ | ⟨c118, c119, er120, o_s115⟩ | ⟨c121, c122, er123, o_s115⟩
      · skip
        subst er117
        have o_s115 := ow_on o_fsZ o_s115 (l' := [(0, .int 1), (3, .int 0), (78, .int 0), (79, .int 0), (80, .int 0), (81, .int 0), (83, .int 0), (84, .int 0), (91, .int 0), (110, .int 0), (3, .int 0), (78, .int 0), (79, .int 0), (80, .int 0), (81, .int 0), (83, .int 0), (84, .int 0), (91, .int 0), (110, .int 0)]) (w' := [0]) rfl rfl
        refine lv_istore (lv' := [(6, .int 0), (5, .int 1), (0, .ref b), (1, .ref aX), (2, .ref aZ), (3, .ref qO), (4, .int 0)]) hx hb dL_law_2507 hl (by decide) rfl (fun ls hl => ?_)
        refine lv_aload_n hx hb dL_law_2509 rfl (lv_at hl 4 rfl) ?_
        have hPc := hP.sub (ws' := [(aZ, .inr (15, s115))]) [0] rfl
        have hDc := hD.sub (ws' := [(aZ, .inr (15, s115))]) [0] (by decide) rfl
        have hKc := hK.sub (tys' := []) [] rfl
        have hFc := va_free (wc := [(aZ, .inr (15, s115))]) hD hS hA [0] rfl
        refine va_calli (va_runV (As := []) (rest := []) ⟨hx, hb, hml, hown, hts⟩ (z_X12_thrown l dC dI H.size aZ s115 (fh_sub o_s115.2 [0] rfl) ) (cwV 0 hts g_lk_38_z_X12_thrown_149 rfl rfl rfl (by decide +kernel) ⟨Nat.le_of_ble_eq_true rfl, Nat.le_of_ble_eq_true rfl⟩) ⟨fun a U g mk q => by obtain ⟨q0, q1, qP, qK, qD⟩ := q; exact ⟨q0, q1, qP, va_K.moved (u := U) (U := U.calling g mk a) (Vm.Alike.refl U.vm) qK, qD⟩, va_recv hK hP (ci := 15) (q0 := 0) rfl rfl, fun U hU hW => ⟨rfl, by rw [hU], by rw [hU]; exact hPc, va_K.moved hW.alike hKc, hDc.weaken (fun _ _ _ _ => trivial)⟩⟩ rfl rfl hl.1 rfl (lv_room (Nat.le_of_ble_eq_true rfl)) dL_law_2510 ⟨Nat.le_of_ble_eq_true rfl, Nat.le_of_ble_eq_true rfl⟩) hS (fun q _ h => hFc q h) hFc (fun r124 u t H1 locs ht hvm hw hB hz1 hk1 hS => ?_)
        obtain ⟨hP1, hK1, hD1⟩ := hB
        rw [ht] at hP1
        try dsimp only at hw
        obtain ⟨hP, hD⟩ := va_join (wr := []) (w1 := [(aZ, .inr (15, s115))]) hP hD [0] [] rfl rfl (by decide) (by decide) hk1 hFc hP1 hD1
        have hK := hK.sub (tys' := []) [] rfl
        generalize H1 = H at hP hS ⊢
        have hP : va_P (dC, dI) vwCl [(aZ, .inr (15, s115))] H := hP
        have hD : va_D A [(aZ, .inr (15, s115))] := hD
        have er125 := hw
        subst er125
        refine lv_iload hx hb dL_law_2513 (lv_at hl 1 rfl) ?_
        refine lv_icmp_eq (tgt := 2520) hx hb dL_law_2515 (by decide) (fun c126 => ?_) (fun c126 => absurd c126 (by decide))
        refine lv_iload hx hb dL_law_2520 (lv_at hl 1 rfl) ?_
        refine lv_if_ne (tgt := 2537) hx hb dL_law_2522 (by decide) (fun c127 => ?_) (fun c127 => absurd c127 (by decide))
        refine lv_goto (tgt := 3111) hx hb dL_law_2537 (by decide) ?_
        exact lw_end hst C0 hA hAf hZ hY (Nat.le_of_ble_eq_true rfl) (Nat.le_of_ble_eq_true rfl) dC dI P0k P0 D0 hS ls (lv_sub hl [2, 6] rfl)
      · exact (by exfalso; (try simp only [i_lt, i_le, i_eq, kc_0, kc_4] at c104 c118 c119); omega)
      · exact (by exfalso; (try simp only [i_lt, i_le, i_eq, kc_0, kc_4] at c104 c121 c122); omega)
    · skip
      subst er108
      refine lv_istore (lv' := [(5, .int 1), (0, .ref b), (1, .ref aX), (2, .ref aZ), (3, .ref qO), (4, .int 0)]) hx hb dL_law_2495 hl (by decide) rfl (fun ls hl => ?_)
      refine lv_aload_n hx hb dL_law_2497 rfl (lv_at hl 3 rfl) ?_
      refine lv_aload_n hx hb dL_law_2498 rfl (lv_at hl 1 rfl) ?_
      refine lv_iload hx hb dL_law_2499 (lv_at hl 5 rfl) ?_
      refine lv_iconst (v := 1) hx hb dL_law_2501 (by decide) ?_
      refine lv_iadd hx hb dL_law_2502  ?_
      refine lv_topi (fun x128 ex128 => ?_)
      obtain rfl : x128 = 1 := ex128.trans (by decide)
      refine va_sld hx hb hX hbl hbA hS (show vp_in 1 6 from by unfold vp_in; decide) dL_law_2503 ?_
      refine lv_topi (fun x129 ex129 => ?_)
      obtain rfl : w1 = x129 := hw1.trans ex129.symm
      have hPc := hP.sub (ws' := [(aZ, .inr (15, fsZ))]) [0] rfl
      have hDc := hD.sub (ws' := [(aZ, .inr (15, fsZ))]) [0] (by decide) rfl
      have hKc := hK.sub (tys' := []) [] rfl
      have hFc := va_free (wc := [(aZ, .inr (15, fsZ))]) hD hS hA [0] rfl
      refine va_calli (va_runV (As := [.int w1]) (rest := []) ⟨hx, hb, hml, hown, hts⟩ (z_X12_ask l dC dI H.size aZ fsZ w1 (fh_sub o_fsZ.2 [0, 1, 2, 3, 4, 5, 6, 7, 8, 9] rfl) ) (cwV 1 hts g_lk_38_z_X12_ask_273 rfl rfl rfl (by decide +kernel) ⟨Nat.le_of_ble_eq_true rfl, Nat.le_of_ble_eq_true rfl⟩) ⟨fun a U g mk q => by obtain ⟨q0, q1, qP, qK, qD⟩ := q; exact ⟨q0, q1, qP, va_K.moved (u := U) (U := U.calling g mk a) (Vm.Alike.refl U.vm) qK, qD⟩, va_recv hK hP (ci := 15) (q0 := 0) rfl rfl, fun U hU hW => ⟨rfl, by rw [hU], by rw [hU]; exact hPc, va_K.moved hW.alike hKc, hDc.weaken (fun _ _ _ _ => trivial)⟩⟩ rfl rfl hl.1 rfl (lv_room (Nat.le_of_ble_eq_true rfl)) dL_law_2504 ⟨Nat.le_of_ble_eq_true rfl, Nat.le_of_ble_eq_true rfl⟩) hS (fun q _ h => hFc q h) hFc (fun r130 u t H1 locs ht hvm hw hB hz1 hk1 hS => ?_)
      obtain ⟨s131, rfl⟩ : ∃ z, z = u := ⟨_, rfl⟩
      obtain ⟨hP1, hK1, hD1⟩ := hB
      rw [ht] at hP1
      try dsimp only at hw
      obtain ⟨hP, hD⟩ := va_join (wr := []) (w1 := [(aZ, .inr (15, s131))]) hP hD [0] [] rfl rfl (by decide) (by decide) hk1 hFc hP1 hD1
      have hK := hK.sub (tys' := []) [] rfl
      generalize H1 = H at hP hS ⊢
      have hP : va_P (dC, dI) vwCl [(aZ, .inr (15, s131))] H := hP
      have hD : va_D A [(aZ, .inr (15, s131))] := hD
      rcases hw with ⟨c132, er133, o_s131⟩ | ⟨c134, c135, er136, o_s131⟩ | ⟨c137, c138, er139, o_s131⟩
      · exact (by exfalso; (try simp only [i_lt, i_le, i_eq, kc_0, kc_4] at c106 c107 c132); omega)
      · skip
        subst er136
        have o_s131 := ow_on o_fsZ o_s131 (l' := [(0, .int 1), (3, .int 0), (78, .int 0), (79, .int 0), (80, .int 0), (81, .int 0), (83, .int 0), (84, .int 0), (91, .int 0), (110, .int 0), (3, .int 0), (78, .int 0), (79, .int 0), (80, .int 0), (81, .int 0), (83, .int 0), (84, .int 0), (91, .int 0), (110, .int 0)]) (w' := [0]) rfl rfl
        refine lv_istore (lv' := [(6, .int 0), (5, .int 1), (0, .ref b), (1, .ref aX), (2, .ref aZ), (3, .ref qO), (4, .int 0)]) hx hb dL_law_2507 hl (by decide) rfl (fun ls hl => ?_)
        refine lv_aload_n hx hb dL_law_2509 rfl (lv_at hl 4 rfl) ?_
        have hPc := hP.sub (ws' := [(aZ, .inr (15, s131))]) [0] rfl
        have hDc := hD.sub (ws' := [(aZ, .inr (15, s131))]) [0] (by decide) rfl
        have hKc := hK.sub (tys' := []) [] rfl
        have hFc := va_free (wc := [(aZ, .inr (15, s131))]) hD hS hA [0] rfl
        refine va_calli (va_runV (As := []) (rest := []) ⟨hx, hb, hml, hown, hts⟩ (z_X12_thrown l dC dI H.size aZ s131 (fh_sub o_s131.2 [0] rfl) ) (cwV 0 hts g_lk_38_z_X12_thrown_149 rfl rfl rfl (by decide +kernel) ⟨Nat.le_of_ble_eq_true rfl, Nat.le_of_ble_eq_true rfl⟩) ⟨fun a U g mk q => by obtain ⟨q0, q1, qP, qK, qD⟩ := q; exact ⟨q0, q1, qP, va_K.moved (u := U) (U := U.calling g mk a) (Vm.Alike.refl U.vm) qK, qD⟩, va_recv hK hP (ci := 15) (q0 := 0) rfl rfl, fun U hU hW => ⟨rfl, by rw [hU], by rw [hU]; exact hPc, va_K.moved hW.alike hKc, hDc.weaken (fun _ _ _ _ => trivial)⟩⟩ rfl rfl hl.1 rfl (lv_room (Nat.le_of_ble_eq_true rfl)) dL_law_2510 ⟨Nat.le_of_ble_eq_true rfl, Nat.le_of_ble_eq_true rfl⟩) hS (fun q _ h => hFc q h) hFc (fun r140 u t H1 locs ht hvm hw hB hz1 hk1 hS => ?_)
        obtain ⟨hP1, hK1, hD1⟩ := hB
        rw [ht] at hP1
        try dsimp only at hw
        obtain ⟨hP, hD⟩ := va_join (wr := []) (w1 := [(aZ, .inr (15, s131))]) hP hD [0] [] rfl rfl (by decide) (by decide) hk1 hFc hP1 hD1
        have hK := hK.sub (tys' := []) [] rfl
        generalize H1 = H at hP hS ⊢
        have hP : va_P (dC, dI) vwCl [(aZ, .inr (15, s131))] H := hP
        have hD : va_D A [(aZ, .inr (15, s131))] := hD
        have er141 := hw
        subst er141
        refine lv_iload hx hb dL_law_2513 (lv_at hl 1 rfl) ?_
        refine lv_icmp_eq (tgt := 2520) hx hb dL_law_2515 (by decide) (fun c142 => ?_) (fun c142 => absurd c142 (by decide))
        refine lv_iload hx hb dL_law_2520 (lv_at hl 1 rfl) ?_
        refine lv_if_ne (tgt := 2537) hx hb dL_law_2522 (by decide) (fun c143 => ?_) (fun c143 => absurd c143 (by decide))
        refine lv_goto (tgt := 3111) hx hb dL_law_2537 (by decide) ?_
        exact lw_end hst C0 hA hAf hZ hY (Nat.le_of_ble_eq_true rfl) (Nat.le_of_ble_eq_true rfl) dC dI P0k P0 D0 hS ls (lv_sub hl [2, 6] rfl)
      · exact (by exfalso; (try simp only [i_lt, i_le, i_eq, kc_0, kc_4] at c106 c107 c137 c138); omega)
    · skip
      subst er111
      refine lv_istore (lv' := [(5, .int 2), (0, .ref b), (1, .ref aX), (2, .ref aZ), (3, .ref qO), (4, .int 0)]) hx hb dL_law_2495 hl (by decide) rfl (fun ls hl => ?_)
      refine lv_aload_n hx hb dL_law_2497 rfl (lv_at hl 3 rfl) ?_
      refine lv_aload_n hx hb dL_law_2498 rfl (lv_at hl 1 rfl) ?_
      refine lv_iload hx hb dL_law_2499 (lv_at hl 5 rfl) ?_
      refine lv_iconst (v := 1) hx hb dL_law_2501 (by decide) ?_
      refine lv_iadd hx hb dL_law_2502  ?_
      refine lv_topi (fun x144 ex144 => ?_)
      obtain rfl : x144 = 1 := ex144.trans (by decide)
      refine va_sld hx hb hX hbl hbA hS (show vp_in 1 6 from by unfold vp_in; decide) dL_law_2503 ?_
      refine lv_topi (fun x145 ex145 => ?_)
      obtain rfl : w1 = x145 := hw1.trans ex145.symm
      have hPc := hP.sub (ws' := [(aZ, .inr (15, fsZ))]) [0] rfl
      have hDc := hD.sub (ws' := [(aZ, .inr (15, fsZ))]) [0] (by decide) rfl
      have hKc := hK.sub (tys' := []) [] rfl
      have hFc := va_free (wc := [(aZ, .inr (15, fsZ))]) hD hS hA [0] rfl
      refine va_calli (va_runV (As := [.int w1]) (rest := []) ⟨hx, hb, hml, hown, hts⟩ (z_X12_ask l dC dI H.size aZ fsZ w1 (fh_sub o_fsZ.2 [0, 1, 2, 3, 4, 5, 6, 7, 8, 9] rfl) ) (cwV 1 hts g_lk_38_z_X12_ask_273 rfl rfl rfl (by decide +kernel) ⟨Nat.le_of_ble_eq_true rfl, Nat.le_of_ble_eq_true rfl⟩) ⟨fun a U g mk q => by obtain ⟨q0, q1, qP, qK, qD⟩ := q; exact ⟨q0, q1, qP, va_K.moved (u := U) (U := U.calling g mk a) (Vm.Alike.refl U.vm) qK, qD⟩, va_recv hK hP (ci := 15) (q0 := 0) rfl rfl, fun U hU hW => ⟨rfl, by rw [hU], by rw [hU]; exact hPc, va_K.moved hW.alike hKc, hDc.weaken (fun _ _ _ _ => trivial)⟩⟩ rfl rfl hl.1 rfl (lv_room (Nat.le_of_ble_eq_true rfl)) dL_law_2504 ⟨Nat.le_of_ble_eq_true rfl, Nat.le_of_ble_eq_true rfl⟩) hS (fun q _ h => hFc q h) hFc (fun r146 u t H1 locs ht hvm hw hB hz1 hk1 hS => ?_)
      obtain ⟨s147, rfl⟩ : ∃ z, z = u := ⟨_, rfl⟩
      obtain ⟨hP1, hK1, hD1⟩ := hB
      rw [ht] at hP1
      try dsimp only at hw
      obtain ⟨hP, hD⟩ := va_join (wr := []) (w1 := [(aZ, .inr (15, s147))]) hP hD [0] [] rfl rfl (by decide) (by decide) hk1 hFc hP1 hD1
      have hK := hK.sub (tys' := []) [] rfl
      generalize H1 = H at hP hS ⊢
      have hP : va_P (dC, dI) vwCl [(aZ, .inr (15, s147))] H := hP
      have hD : va_D A [(aZ, .inr (15, s147))] := hD
      rcases hw with ⟨c148, er149, o_s147⟩ | ⟨c150, c151, er152, o_s147⟩ | ⟨c153, c154, er155, o_s147⟩
      · exact (by exfalso; (try simp only [i_lt, i_le, i_eq, kc_0, kc_4] at c109 c110 c148); omega)
      · exact (by exfalso; (try simp only [i_lt, i_le, i_eq, kc_0, kc_4] at c109 c110 c150 c151); omega)
      · skip
        subst er155
        have o_s147 := ow_on o_fsZ o_s147 (l' := [(110, .int 0), (0, .int 2), (82, .int 0), (81, .int 1), (84, .int 0), (83, .int 1), (95, .int 1), (84, .int 0), (83, .int 1), (80, .int 0), (79, .int 0), (80, .int 0), (79, .int 0), (91, .int 0), (80, .int 0), (85, .long 0), (79, .int 0), (78, .int 0), (3, .int 0), (78, .int 0), (94, .int 0), (93, .int 0), (92, .int 0), (91, .int 0), (3, .int 0), (3, .int 0), (3, .int 0)]) (w' := [110, 0, 82, 81, 95, 84, 83, 80, 85, 79, 78, 94, 93, 92, 91]) rfl rfl
        refine lv_istore (lv' := [(6, .int 0), (5, .int 2), (0, .ref b), (1, .ref aX), (2, .ref aZ), (3, .ref qO), (4, .int 0)]) hx hb dL_law_2507 hl (by decide) rfl (fun ls hl => ?_)
        refine lv_aload_n hx hb dL_law_2509 rfl (lv_at hl 4 rfl) ?_
        have hPc := hP.sub (ws' := [(aZ, .inr (15, s147))]) [0] rfl
        have hDc := hD.sub (ws' := [(aZ, .inr (15, s147))]) [0] (by decide) rfl
        have hKc := hK.sub (tys' := []) [] rfl
        have hFc := va_free (wc := [(aZ, .inr (15, s147))]) hD hS hA [0] rfl
        refine va_calli (va_runV (As := []) (rest := []) ⟨hx, hb, hml, hown, hts⟩ (z_X12_thrown_1 l dC dI H.size aZ s147 (fh_sub o_s147.2 [1] rfl) ) (cwV 0 hts g_lk_38_z_X12_thrown_1_149 rfl rfl rfl (by decide +kernel) ⟨Nat.le_of_ble_eq_true rfl, Nat.le_of_ble_eq_true rfl⟩) ⟨fun a U g mk q => by obtain ⟨q0, q1, qP, qK, qD⟩ := q; exact ⟨q0, q1, qP, va_K.moved (u := U) (U := U.calling g mk a) (Vm.Alike.refl U.vm) qK, qD⟩, va_recv hK hP (ci := 15) (q0 := 0) rfl rfl, fun U hU hW => ⟨rfl, by rw [hU], by rw [hU]; exact hPc, va_K.moved hW.alike hKc, hDc.weaken (fun _ _ _ _ => trivial)⟩⟩ rfl rfl hl.1 rfl (lv_room (Nat.le_of_ble_eq_true rfl)) dL_law_2510 ⟨Nat.le_of_ble_eq_true rfl, Nat.le_of_ble_eq_true rfl⟩) hS (fun q _ h => hFc q h) hFc (fun r156 u t H1 locs ht hvm hw hB hz1 hk1 hS => ?_)
        obtain ⟨hP1, hK1, hD1⟩ := hB
        rw [ht] at hP1
        try dsimp only at hw
        obtain ⟨hP, hD⟩ := va_join (wr := []) (w1 := [(aZ, .inr (15, s147))]) hP hD [0] [] rfl rfl (by decide) (by decide) hk1 hFc hP1 hD1
        have hK := hK.sub (tys' := []) [] rfl
        generalize H1 = H at hP hS ⊢
        have hP : va_P (dC, dI) vwCl [(aZ, .inr (15, s147))] H := hP
        have hD : va_D A [(aZ, .inr (15, s147))] := hD
        have er157 := hw
        subst er157
        refine lv_iload hx hb dL_law_2513 (lv_at hl 1 rfl) ?_
        refine lv_icmp_eq (tgt := 2520) hx hb dL_law_2515 (by decide) (fun c158 => ?_) (fun c158 => absurd c158 (by decide))
        refine lv_iload hx hb dL_law_2520 (lv_at hl 1 rfl) ?_
        refine lv_if_ne (tgt := 2537) hx hb dL_law_2522 (by decide) (fun c159 => ?_) (fun c159 => absurd c159 (by decide))
        refine lv_goto (tgt := 3111) hx hb dL_law_2537 (by decide) ?_
        exact lw_end hst C0 hA hAf hZ hY (Nat.le_of_ble_eq_true rfl) (Nat.le_of_ble_eq_true rfl) dC dI P0k P0 D0 hS ls (lv_sub hl [2, 6] rfl)

set_option maxRecDepth 20000 in
theorem g_lk_39_z_L_answer_274 : GoodIn lwW (va_wsS RL 274 yL_answer w_z_L_answer) := goodIn_app (goodIn_sub (ws := ([.methodLink RL 274 yL_answer, .static yL_answer, .initialized RL] : List Cond)) (gm_c (gm_at lwV_78_in 3 rfl) (gm_c (gm_at lwV_78_in 4 rfl) (gm_c (gm_at lwV_5_in 10 rfl) gm_nil))) (by decide +kernel)) (goodIn_ca (goodIn_sub (ws := .codeWith yL_answer cL_answer 5 (some .int) [(0, 9, 12, 30)] :: l_z_L_answer) (gm_c (gm_at lwV_78_in 8 rfl) (gm_c (gm_at lwV_78_in 9 rfl) (gm_c (gm_at lwV_78_in 10 rfl) (gm_c (gm_at lwV_78_in 11 rfl) (gm_c (gm_at lwV_0_in 3 rfl) (gm_c (gm_at lwV_19_in 11 rfl) (gm_c (gm_at lwV_79_in 0 rfl) (gm_c (gm_at lwV_20_in 4 rfl) (gm_c (gm_at lwV_20_in 5 rfl) (gm_c (gm_at lwV_76_in 6 rfl) (gm_c (gm_at lwV_76_in 7 rfl) gm_nil))))))))))) (by decide +kernel)) (goodIn_app (goodIn_in il_at0_X11_223 gd_at0_X11_223) (goodIn_app (goodIn_in il_X11 gd_X11) (goodIn_in il_X4 gd_X4))))
set_option maxRecDepth 20000 in
theorem g_lk_39_z_X12_answer_276 : GoodIn lwW (wsV RL 276 RX12 yX12_answer w_z_X12_answer) := goodIn_app (goodIn_sub (ws := ([.methodLink RL 276 yX12_answer, .instanceMethod yX12_answer, .selects RX12 yX12_answer yX12_answer, .initialized RX12] : List Cond)) (gm_c (gm_at lwV_78_in 5 rfl) (gm_c (gm_at lwV_78_in 6 rfl) (gm_c (gm_at lwV_78_in 7 rfl) (gm_c (gm_at lwV_0_in 7 rfl) gm_nil)))) (by decide +kernel)) (goodIn_ca (goodIn_sub (ws := .code yX12_answer cX12_answer 3 (some .long) :: l_z_X12_answer) (gm_c (gm_at lwV_79_in 1 rfl) (gm_c (gm_at lwV_1_in 5 rfl) (gm_c (gm_at lwV_77_in 6 rfl) gm_nil))) (by decide +kernel)) (goodIn_in il_X12 gd_X12))
set_option maxRecDepth 20000 in
theorem g_lk_39_z_X12_thrown_149 : GoodIn lwW (wsV RL 149 RX12 yX12_thrown w_z_X12_thrown) := goodIn_app (goodIn_sub (ws := ([.methodLink RL 149 yX12_thrown, .instanceMethod yX12_thrown, .selects RX12 yX12_thrown yX12_thrown, .initialized RX12] : List Cond)) (gm_c (gm_at lwV_6_in 2 rfl) (gm_c (gm_at lwV_6_in 3 rfl) (gm_c (gm_at lwV_6_in 4 rfl) (gm_c (gm_at lwV_0_in 7 rfl) gm_nil)))) (by decide +kernel)) (goodIn_ca (goodIn_sub (ws := .code yX12_thrown cX12_thrown 1 (some .int) :: l_z_X12_thrown) (gm_c (gm_at lwV_9_in 9 rfl) (gm_c (gm_at lwV_1_in 5 rfl) gm_nil)) (by decide +kernel)) (goodIn_in il_X12 gd_X12))
set_option maxHeartbeats 4000000 in
set_option maxRecDepth 100000 in
/-- the law, one call: answer -/
theorem lk_39 {p : Program} {l : Launch} {e : Env} {s : State} {m : MethodId} {below : List Frame} {meth : Method} {c : Code} {b : Nat} {xs : Nat → Int32} (hst : l.stackTraces = false) (C0 : lw_At p s m meth c b 6 xs) {A : Nat → Prop} (hA : ∀ q : Nat, s.heap.size ≤ q → A q) (hAf : ∀ q : Nat, A q → s.heap.size ≤ q) (hZ : Zz A s) (hY : Yy s) (dC : Nat → ClassId) (dI : Nat → Nat → Nat) (aX : Nat) (fsX : List Value) (aM : Nat) (fsM : List Value) (aZ : Nat) (fsZ : List Value) (qO : Nat) (w1 : Int32) (hw1 : w1 = xs (1 : Int32).toNatClampNeg) (w2 : Int32) (hw2 : w2 = xs (2 : Int32).toNatClampNeg) (w3 : Int32) (hw3 : w3 = xs (3 : Int32).toNatClampNeg) (w4 : Int32) (hw4 : w4 = xs (4 : Int32).toNatClampNeg) (w5 : Int32) (hw5 : w5 = xs (5 : Int32).toNatClampNeg) (k_fsX : fh fsX 18 [(7, .ref aM)]) (k_fsM : fh fsM 21 [(20, .int 0)]) (k_fsZ : fh fsZ 150 [(0, .int 0), (110, .int 0)])  {H : Heap} {locs : List Loc} (hK : va_K (dC, dI) vwCl [] s) (hP : va_P (dC, dI) vwCl [(aX, .inr (14, fsX)), (aM, .inr (7, fsM)), (aZ, .inr (15, fsZ))] H) (hD : va_D A [(aX, .inr (14, fsX)), (aM, .inr (7, fsM)), (aZ, .inr (15, fsZ))]) (hS : va_S A s.heap H locs) (ls : Array Slot) (hl : lv_has ls 8 [(0, .ref b), (1, .ref aX), (2, .ref aZ), (3, .ref qO), (4, .int 0)]) : W p l e room_1 s m #[Value.ref b] below meth c H locs 390 571359 (lw_Z below #[Value.ref b] s) (F0 m 2540 ls []) := by
  obtain ⟨hx, hb, hr, hml, hown0, hts0, hX, hbl, hlocks, hgv⟩ := id C0
  have hown : s.vm.findClass RL = some m.cls := hown0
  have hts : ∀ w ∈ lwW, w.before #[Value.ref b] s = true := fun w h => hts0 w (lwW_in w h)
  have hbA : ¬ A b := fun h => absurd (hAf b h) (Nat.not_le.mpr hbl)
  have o_fsX := ow_0 k_fsX
  have o_fsM := ow_0 k_fsM
  have o_fsZ := ow_0 k_fsZ
  refine lv_aload_n hx hb dL_law_2540 rfl (lv_at hl 1 rfl) ?_
  refine lv_aload_n hx hb dL_law_2541 rfl (lv_at hl 0 rfl) ?_
  refine lv_iload hx hb dL_law_2542 (lv_at hl 4 rfl) ?_
  refine lv_iconst (v := 1) hx hb dL_law_2544 (by decide) ?_
  refine lv_iadd hx hb dL_law_2545  ?_
  refine lv_topi (fun x101 ex101 => ?_)
  obtain rfl : x101 = 1 := ex101.trans (by decide)
  refine va_sld hx hb hX hbl hbA hS (show vp_in 1 6 from by unfold vp_in; decide) dL_law_2546 ?_
  refine lv_topi (fun x102 ex102 => ?_)
  obtain rfl : w1 = x102 := hw1.trans ex102.symm
  refine lv_aload_n hx hb dL_law_2547 rfl (lv_at hl 0 rfl) ?_
  refine lv_iload hx hb dL_law_2548 (lv_at hl 4 rfl) ?_
  refine lv_iconst (v := 2) hx hb dL_law_2550 (by decide) ?_
  refine lv_iadd hx hb dL_law_2551  ?_
  refine lv_topi (fun x103 ex103 => ?_)
  obtain rfl : x103 = 2 := ex103.trans (by decide)
  refine va_sld hx hb hX hbl hbA hS (show vp_in 2 6 from by unfold vp_in; decide) dL_law_2552 ?_
  refine lv_topi (fun x104 ex104 => ?_)
  obtain rfl : w2 = x104 := hw2.trans ex104.symm
  refine lv_aload_n hx hb dL_law_2553 rfl (lv_at hl 3 rfl) ?_
  have hPc := hP.sub (ws' := [(aX, .inr (14, fsX)), (aM, .inr (7, fsM))]) [0, 1] rfl
  have hDc := hD.sub (ws' := [(aX, .inr (14, fsX)), (aM, .inr (7, fsM))]) [0, 1] (by decide) rfl
  have hKc := hK.sub (tys' := []) [] rfl
  have hFc := va_free (wc := [(aX, .inr (14, fsX)), (aM, .inr (7, fsM))]) hD hS hA [0, 1] rfl
  refine vx_calli (vx_runSX (As := [.ref aX, .int w1, .int w2, .ref qO]) (rest := []) ⟨hx, hb, hml, hown, hts⟩ (z_L_answer l dC dI H.size aX fsX aM fsM w1 w2 qO (fh_sub o_fsX.2 [0] rfl) (fh_sub o_fsM.2 [0] rfl) hst ) (vx_cwSW 4 hts g_lk_39_z_L_answer_274 rfl rfl rfl (by decide +kernel) ⟨Nat.le_of_ble_eq_true rfl, Nat.le_of_ble_eq_true rfl⟩) ⟨fun a U g mk q => by obtain ⟨q0, q1, qZ, qY, qP, qK, qD⟩ := q; exact ⟨q0, q1, Zz_call qZ, Yy_call qY, qP, va_K.moved (u := U) (U := U.calling g mk a) (Vm.Alike.refl U.vm) qK, qD⟩, fun U hU hW => ⟨rfl, by rw [hU], Zz_go hZ hS hFc hU hW, Yy_go hY hW, by rw [hU]; exact hPc, va_K.moved hW.alike hKc, hDc.weaken (fun _ _ _ _ => trivial)⟩⟩ rfl rfl hl.1 rfl (lv_room (Nat.le_of_ble_eq_true rfl)) dL_law_2554 ⟨Nat.le_of_ble_eq_true rfl, Nat.le_of_ble_eq_true rfl⟩) hS (fun q _ h => hFc q h) hFc (fun q _ h => hFc q h) (fun E ce q9 u t H1 locs ht hvm hpx hBX hz1 hk1 hS hce hcv hcl => ?_) (fun r105 u t H1 locs ht hvm hw hB hz1 hk1 hS => ?_)
  · exact False.elim hBX
  · skip
    obtain ⟨hP1, hK1, hD1⟩ := hB
    rw [ht] at hP1
    try dsimp only at hw
    obtain ⟨hP, hD⟩ := va_join (wr := [(aZ, .inr (15, fsZ))]) (w1 := []) hP hD [0, 1] [2] rfl rfl (by decide) (by decide) hk1 hFc hP1 hD1
    have hK := hK.sub (tys' := []) [] rfl
    generalize H1 = H at hP hS ⊢
    refine W.widen (k := 391) (n := 571365) (by omega) (by omega) ?_
    have hP : va_P (dC, dI) vwCl [(aZ, .inr (15, fsZ))] H := hP
    have hD : va_D A [(aZ, .inr (15, fsZ))] := hD
    rcases hw with ⟨c106, er107⟩ | ⟨c108, c109, er110⟩
    · skip
      subst er107
      refine lv_istore (lv' := [(5, .int 1), (0, .ref b), (1, .ref aX), (2, .ref aZ), (3, .ref qO), (4, .int 0)]) hx hb dL_law_2557 hl (by decide) rfl (fun ls hl => ?_)
      refine lv_aload_n hx hb dL_law_2559 rfl (lv_at hl 3 rfl) ?_
      refine lv_aload_n hx hb dL_law_2560 rfl (lv_at hl 1 rfl) ?_
      refine lv_iload hx hb dL_law_2561 (lv_at hl 5 rfl) ?_
      refine lv_iconst (v := 1) hx hb dL_law_2563 (by decide) ?_
      refine lv_iadd hx hb dL_law_2564  ?_
      refine lv_topi (fun x111 ex111 => ?_)
      obtain rfl : x111 = 1 := ex111.trans (by decide)
      refine va_sld hx hb hX hbl hbA hS (show vp_in 1 6 from by unfold vp_in; decide) dL_law_2565 ?_
      refine lv_topi (fun x112 ex112 => ?_)
      obtain rfl : w1 = x112 := hw1.trans ex112.symm
      refine lv_aload_n hx hb dL_law_2566 rfl (lv_at hl 1 rfl) ?_
      refine lv_iload hx hb dL_law_2567 (lv_at hl 5 rfl) ?_
      refine lv_iconst (v := 2) hx hb dL_law_2569 (by decide) ?_
      refine lv_iadd hx hb dL_law_2570  ?_
      refine lv_topi (fun x113 ex113 => ?_)
      obtain rfl : x113 = 2 := ex113.trans (by decide)
      refine va_sld hx hb hX hbl hbA hS (show vp_in 2 6 from by unfold vp_in; decide) dL_law_2571 ?_
      refine lv_topi (fun x114 ex114 => ?_)
      obtain rfl : w2 = x114 := hw2.trans ex114.symm
      have hPc := hP.sub (ws' := [(aZ, .inr (15, fsZ))]) [0] rfl
      have hDc := hD.sub (ws' := [(aZ, .inr (15, fsZ))]) [0] (by decide) rfl
      have hKc := hK.sub (tys' := []) [] rfl
      have hFc := va_free (wc := [(aZ, .inr (15, fsZ))]) hD hS hA [0] rfl
      refine va_calll (va_runV (As := [.int w1, .int w2]) (rest := []) ⟨hx, hb, hml, hown, hts⟩ (z_X12_answer l dC dI H.size aZ fsZ w1 w2 (fh_sub o_fsZ.2 [0, 1] rfl) ) (cwV 2 hts g_lk_39_z_X12_answer_276 rfl rfl rfl (by decide +kernel) ⟨Nat.le_of_ble_eq_true rfl, Nat.le_of_ble_eq_true rfl⟩) ⟨fun a U g mk q => by obtain ⟨q0, q1, qP, qK, qD⟩ := q; exact ⟨q0, q1, qP, va_K.moved (u := U) (U := U.calling g mk a) (Vm.Alike.refl U.vm) qK, qD⟩, va_recv hK hP (ci := 15) (q0 := 0) rfl rfl, fun U hU hW => ⟨rfl, by rw [hU], by rw [hU]; exact hPc, va_K.moved hW.alike hKc, hDc.weaken (fun _ _ _ _ => trivial)⟩⟩ rfl rfl hl.1 rfl (lv_room (Nat.le_of_ble_eq_true rfl)) dL_law_2572 ⟨Nat.le_of_ble_eq_true rfl, Nat.le_of_ble_eq_true rfl⟩) hS (fun q _ h => hFc q h) hFc (fun r115 u t H1 locs ht hvm hw hB hz1 hk1 hS => ?_)
      obtain ⟨s116, rfl⟩ : ∃ z, z = u := ⟨_, rfl⟩
      obtain ⟨hP1, hK1, hD1⟩ := hB
      rw [ht] at hP1
      try dsimp only at hw
      obtain ⟨hP, hD⟩ := va_join (wr := []) (w1 := [(aZ, .inr (15, s116))]) hP hD [0] [] rfl rfl (by decide) (by decide) hk1 hFc hP1 hD1
      have hK := hK.sub (tys' := []) [] rfl
      generalize H1 = H at hP hS ⊢
      have hP : va_P (dC, dI) vwCl [(aZ, .inr (15, s116))] H := hP
      have hD : va_D A [(aZ, .inr (15, s116))] := hD
      rcases hw with ⟨c117, er118, o_s116⟩ | ⟨c119, c120, er121, o_s116⟩
      · skip
        subst er118
        have o_s116 := ow_on o_fsZ o_s116 (l' := [(0, .int 1), (110, .int 0), (110, .int 0)]) (w' := [0]) rfl rfl
        refine lv_lstore (lv' := [(6, .long 0), (5, .int 1), (0, .ref b), (1, .ref aX), (2, .ref aZ), (3, .ref qO), (4, .int 0)]) hx hb dL_law_2575 hl (by decide) rfl (fun ls hl => ?_)
        refine lv_aload_n hx hb dL_law_2577 rfl (lv_at hl 4 rfl) ?_
        have hPc := hP.sub (ws' := [(aZ, .inr (15, s116))]) [0] rfl
        have hDc := hD.sub (ws' := [(aZ, .inr (15, s116))]) [0] (by decide) rfl
        have hKc := hK.sub (tys' := []) [] rfl
        have hFc := va_free (wc := [(aZ, .inr (15, s116))]) hD hS hA [0] rfl
        refine va_calli (va_runV (As := []) (rest := []) ⟨hx, hb, hml, hown, hts⟩ (z_X12_thrown l dC dI H.size aZ s116 (fh_sub o_s116.2 [0] rfl) ) (cwV 0 hts g_lk_39_z_X12_thrown_149 rfl rfl rfl (by decide +kernel) ⟨Nat.le_of_ble_eq_true rfl, Nat.le_of_ble_eq_true rfl⟩) ⟨fun a U g mk q => by obtain ⟨q0, q1, qP, qK, qD⟩ := q; exact ⟨q0, q1, qP, va_K.moved (u := U) (U := U.calling g mk a) (Vm.Alike.refl U.vm) qK, qD⟩, va_recv hK hP (ci := 15) (q0 := 0) rfl rfl, fun U hU hW => ⟨rfl, by rw [hU], by rw [hU]; exact hPc, va_K.moved hW.alike hKc, hDc.weaken (fun _ _ _ _ => trivial)⟩⟩ rfl rfl hl.1 rfl (lv_room (Nat.le_of_ble_eq_true rfl)) dL_law_2578 ⟨Nat.le_of_ble_eq_true rfl, Nat.le_of_ble_eq_true rfl⟩) hS (fun q _ h => hFc q h) hFc (fun r122 u t H1 locs ht hvm hw hB hz1 hk1 hS => ?_)
        obtain ⟨hP1, hK1, hD1⟩ := hB
        rw [ht] at hP1
        try dsimp only at hw
        obtain ⟨hP, hD⟩ := va_join (wr := []) (w1 := [(aZ, .inr (15, s116))]) hP hD [0] [] rfl rfl (by decide) (by decide) hk1 hFc hP1 hD1
        have hK := hK.sub (tys' := []) [] rfl
        generalize H1 = H at hP hS ⊢
        have hP : va_P (dC, dI) vwCl [(aZ, .inr (15, s116))] H := hP
        have hD : va_D A [(aZ, .inr (15, s116))] := hD
        have er123 := hw
        subst er123
        refine lv_iload hx hb dL_law_2581 (lv_at hl 1 rfl) ?_
        refine lv_icmp_eq (tgt := 2588) hx hb dL_law_2583 (by decide) (fun c124 => ?_) (fun c124 => absurd c124 (by decide))
        refine lv_iload hx hb dL_law_2588 (lv_at hl 1 rfl) ?_
        refine lv_if_ne (tgt := 2604) hx hb dL_law_2590 (by decide) (fun c125 => ?_) (fun c125 => absurd c125 (by decide))
        refine lv_goto (tgt := 3111) hx hb dL_law_2604 (by decide) ?_
        exact lw_end hst C0 hA hAf hZ hY (Nat.le_of_ble_eq_true rfl) (Nat.le_of_ble_eq_true rfl) dC dI P0k P0 D0 hS ls (lv_sub hl [2, 6] rfl)
      · exact (by exfalso; (try simp only [i_lt, i_le, i_eq, kc_0] at c106 c119 c120); omega)
    · skip
      subst er110
      refine lv_istore (lv' := [(5, .int 1), (0, .ref b), (1, .ref aX), (2, .ref aZ), (3, .ref qO), (4, .int 0)]) hx hb dL_law_2557 hl (by decide) rfl (fun ls hl => ?_)
      refine lv_aload_n hx hb dL_law_2559 rfl (lv_at hl 3 rfl) ?_
      refine lv_aload_n hx hb dL_law_2560 rfl (lv_at hl 1 rfl) ?_
      refine lv_iload hx hb dL_law_2561 (lv_at hl 5 rfl) ?_
      refine lv_iconst (v := 1) hx hb dL_law_2563 (by decide) ?_
      refine lv_iadd hx hb dL_law_2564  ?_
      refine lv_topi (fun x126 ex126 => ?_)
      obtain rfl : x126 = 1 := ex126.trans (by decide)
      refine va_sld hx hb hX hbl hbA hS (show vp_in 1 6 from by unfold vp_in; decide) dL_law_2565 ?_
      refine lv_topi (fun x127 ex127 => ?_)
      obtain rfl : w1 = x127 := hw1.trans ex127.symm
      refine lv_aload_n hx hb dL_law_2566 rfl (lv_at hl 1 rfl) ?_
      refine lv_iload hx hb dL_law_2567 (lv_at hl 5 rfl) ?_
      refine lv_iconst (v := 2) hx hb dL_law_2569 (by decide) ?_
      refine lv_iadd hx hb dL_law_2570  ?_
      refine lv_topi (fun x128 ex128 => ?_)
      obtain rfl : x128 = 2 := ex128.trans (by decide)
      refine va_sld hx hb hX hbl hbA hS (show vp_in 2 6 from by unfold vp_in; decide) dL_law_2571 ?_
      refine lv_topi (fun x129 ex129 => ?_)
      obtain rfl : w2 = x129 := hw2.trans ex129.symm
      have hPc := hP.sub (ws' := [(aZ, .inr (15, fsZ))]) [0] rfl
      have hDc := hD.sub (ws' := [(aZ, .inr (15, fsZ))]) [0] (by decide) rfl
      have hKc := hK.sub (tys' := []) [] rfl
      have hFc := va_free (wc := [(aZ, .inr (15, fsZ))]) hD hS hA [0] rfl
      refine va_calll (va_runV (As := [.int w1, .int w2]) (rest := []) ⟨hx, hb, hml, hown, hts⟩ (z_X12_answer l dC dI H.size aZ fsZ w1 w2 (fh_sub o_fsZ.2 [0, 1] rfl) ) (cwV 2 hts g_lk_39_z_X12_answer_276 rfl rfl rfl (by decide +kernel) ⟨Nat.le_of_ble_eq_true rfl, Nat.le_of_ble_eq_true rfl⟩) ⟨fun a U g mk q => by obtain ⟨q0, q1, qP, qK, qD⟩ := q; exact ⟨q0, q1, qP, va_K.moved (u := U) (U := U.calling g mk a) (Vm.Alike.refl U.vm) qK, qD⟩, va_recv hK hP (ci := 15) (q0 := 0) rfl rfl, fun U hU hW => ⟨rfl, by rw [hU], by rw [hU]; exact hPc, va_K.moved hW.alike hKc, hDc.weaken (fun _ _ _ _ => trivial)⟩⟩ rfl rfl hl.1 rfl (lv_room (Nat.le_of_ble_eq_true rfl)) dL_law_2572 ⟨Nat.le_of_ble_eq_true rfl, Nat.le_of_ble_eq_true rfl⟩) hS (fun q _ h => hFc q h) hFc (fun r130 u t H1 locs ht hvm hw hB hz1 hk1 hS => ?_)
      obtain ⟨s131, rfl⟩ : ∃ z, z = u := ⟨_, rfl⟩
      obtain ⟨hP1, hK1, hD1⟩ := hB
      rw [ht] at hP1
      try dsimp only at hw
      obtain ⟨hP, hD⟩ := va_join (wr := []) (w1 := [(aZ, .inr (15, s131))]) hP hD [0] [] rfl rfl (by decide) (by decide) hk1 hFc hP1 hD1
      have hK := hK.sub (tys' := []) [] rfl
      generalize H1 = H at hP hS ⊢
      have hP : va_P (dC, dI) vwCl [(aZ, .inr (15, s131))] H := hP
      have hD : va_D A [(aZ, .inr (15, s131))] := hD
      rcases hw with ⟨c132, er133, o_s131⟩ | ⟨c134, c135, er136, o_s131⟩
      · exact (by exfalso; (try simp only [i_lt, i_le, i_eq, kc_0] at c108 c109 c132); omega)
      · skip
        subst er136
        have o_s131 := ow_on o_fsZ o_s131 (l' := [(0, .int 1), (110, .int 0), (110, .int 0)]) (w' := [0]) rfl rfl
        refine lv_lstore (lv' := [(6, .long 0), (5, .int 1), (0, .ref b), (1, .ref aX), (2, .ref aZ), (3, .ref qO), (4, .int 0)]) hx hb dL_law_2575 hl (by decide) rfl (fun ls hl => ?_)
        refine lv_aload_n hx hb dL_law_2577 rfl (lv_at hl 4 rfl) ?_
        have hPc := hP.sub (ws' := [(aZ, .inr (15, s131))]) [0] rfl
        have hDc := hD.sub (ws' := [(aZ, .inr (15, s131))]) [0] (by decide) rfl
        have hKc := hK.sub (tys' := []) [] rfl
        have hFc := va_free (wc := [(aZ, .inr (15, s131))]) hD hS hA [0] rfl
        refine va_calli (va_runV (As := []) (rest := []) ⟨hx, hb, hml, hown, hts⟩ (z_X12_thrown l dC dI H.size aZ s131 (fh_sub o_s131.2 [0] rfl) ) (cwV 0 hts g_lk_39_z_X12_thrown_149 rfl rfl rfl (by decide +kernel) ⟨Nat.le_of_ble_eq_true rfl, Nat.le_of_ble_eq_true rfl⟩) ⟨fun a U g mk q => by obtain ⟨q0, q1, qP, qK, qD⟩ := q; exact ⟨q0, q1, qP, va_K.moved (u := U) (U := U.calling g mk a) (Vm.Alike.refl U.vm) qK, qD⟩, va_recv hK hP (ci := 15) (q0 := 0) rfl rfl, fun U hU hW => ⟨rfl, by rw [hU], by rw [hU]; exact hPc, va_K.moved hW.alike hKc, hDc.weaken (fun _ _ _ _ => trivial)⟩⟩ rfl rfl hl.1 rfl (lv_room (Nat.le_of_ble_eq_true rfl)) dL_law_2578 ⟨Nat.le_of_ble_eq_true rfl, Nat.le_of_ble_eq_true rfl⟩) hS (fun q _ h => hFc q h) hFc (fun r137 u t H1 locs ht hvm hw hB hz1 hk1 hS => ?_)
        obtain ⟨hP1, hK1, hD1⟩ := hB
        rw [ht] at hP1
        try dsimp only at hw
        obtain ⟨hP, hD⟩ := va_join (wr := []) (w1 := [(aZ, .inr (15, s131))]) hP hD [0] [] rfl rfl (by decide) (by decide) hk1 hFc hP1 hD1
        have hK := hK.sub (tys' := []) [] rfl
        generalize H1 = H at hP hS ⊢
        have hP : va_P (dC, dI) vwCl [(aZ, .inr (15, s131))] H := hP
        have hD : va_D A [(aZ, .inr (15, s131))] := hD
        have er138 := hw
        subst er138
        refine lv_iload hx hb dL_law_2581 (lv_at hl 1 rfl) ?_
        refine lv_icmp_eq (tgt := 2588) hx hb dL_law_2583 (by decide) (fun c139 => ?_) (fun c139 => absurd c139 (by decide))
        refine lv_iload hx hb dL_law_2588 (lv_at hl 1 rfl) ?_
        refine lv_if_ne (tgt := 2604) hx hb dL_law_2590 (by decide) (fun c140 => ?_) (fun c140 => absurd c140 (by decide))
        refine lv_goto (tgt := 3111) hx hb dL_law_2604 (by decide) ?_
        exact lw_end hst C0 hA hAf hZ hY (Nat.le_of_ble_eq_true rfl) (Nat.le_of_ble_eq_true rfl) dC dI P0k P0 D0 hS ls (lv_sub hl [2, 6] rfl)

set_option maxRecDepth 20000 in
theorem g_lk_40_z_L_rules_277 : GoodIn lwW (va_wsS RL 277 yL_rules w_z_L_rules) := goodIn_app (goodIn_sub (ws := ([.methodLink RL 277 yL_rules, .static yL_rules, .initialized RL] : List Cond)) (gm_c (gm_at lwV_79_in 2 rfl) (gm_c (gm_at lwV_79_in 3 rfl) (gm_c (gm_at lwV_5_in 10 rfl) gm_nil))) (by decide +kernel)) (goodIn_ca (goodIn_sub (ws := .codeWith yL_rules cL_rules 4 (some .int) [(0, 9, 12, 13), (0, 9, 15, 17), (0, 9, 18, 15)] :: l_z_L_rules) (gm_c (gm_at lwV_79_in 7 rfl) (gm_c (gm_at lwV_79_in 8 rfl) (gm_c (gm_at lwV_79_in 9 rfl) (gm_c (gm_at lwV_79_in 10 rfl) (gm_c (gm_at lwV_0_in 3 rfl) (gm_c (gm_at lwV_6_in 9 rfl) (gm_c (gm_at lwV_79_in 11 rfl) (gm_c (gm_at lwV_54_in 10 rfl) (gm_c (gm_at lwV_54_in 11 rfl) (gm_c (gm_at lwV_55_in 0 rfl) (gm_c (gm_at lwV_55_in 5 rfl) (gm_c (gm_at lwV_80_in 0 rfl) (gm_c (gm_at lwV_80_in 1 rfl) (gm_c (gm_at lwV_80_in 2 rfl) (gm_c (gm_at lwV_80_in 3 rfl) (gm_c (gm_at lwV_80_in 4 rfl) (gm_c (gm_at lwV_80_in 5 rfl) (gm_c (gm_at lwV_80_in 6 rfl) (gm_c (gm_at lwV_38_in 7 rfl) (gm_c (gm_at lwV_38_in 8 rfl) (gm_c (gm_at lwV_38_in 9 rfl) (gm_c (gm_at lwV_80_in 7 rfl) (gm_c (gm_at lwV_80_in 8 rfl) (gm_c (gm_at lwV_80_in 9 rfl) (gm_c (gm_at lwV_80_in 10 rfl) (gm_c (gm_at lwV_80_in 11 rfl) (gm_c (gm_at lwV_81_in 0 rfl) (gm_c (gm_at lwV_55_in 6 rfl) (gm_c (gm_at lwV_55_in 7 rfl) (gm_c (gm_at lwV_55_in 8 rfl) (gm_c (gm_at lwV_7_in 0 rfl) (gm_c (gm_at lwV_7_in 1 rfl) (gm_c (gm_at lwV_55_in 9 rfl) (gm_c (gm_at lwV_81_in 1 rfl) (gm_c (gm_at lwV_81_in 2 rfl) (gm_c (gm_at lwV_81_in 3 rfl) (gm_c (gm_at lwV_81_in 4 rfl) (gm_c (gm_at lwV_81_in 5 rfl) (gm_c (gm_at lwV_81_in 6 rfl) (gm_c (gm_at lwV_81_in 7 rfl) (gm_c (gm_at lwV_40_in 7 rfl) (gm_c (gm_at lwV_40_in 8 rfl) (gm_c (gm_at lwV_1_in 1 rfl) (gm_c (gm_at lwV_81_in 8 rfl) (gm_c (gm_at lwV_40_in 9 rfl) (gm_c (gm_at lwV_8_in 1 rfl) (gm_c (gm_at lwV_8_in 2 rfl) (gm_c (gm_at lwV_8_in 3 rfl) (gm_c (gm_at lwV_8_in 4 rfl) (gm_c (gm_at lwV_40_in 10 rfl) (gm_c (gm_at lwV_8_in 5 rfl) (gm_c (gm_at lwV_40_in 11 rfl) (gm_c (gm_at lwV_8_in 7 rfl) (gm_c (gm_at lwV_41_in 0 rfl) (gm_c (gm_at lwV_8_in 8 rfl) (gm_c (gm_at lwV_41_in 1 rfl) (gm_c (gm_at lwV_41_in 2 rfl) (gm_c (gm_at lwV_41_in 3 rfl) (gm_c (gm_at lwV_41_in 4 rfl) (gm_c (gm_at lwV_8_in 6 rfl) (gm_c (gm_at lwV_2_in 6 rfl) (gm_c (gm_at lwV_41_in 5 rfl) (gm_c (gm_at lwV_45_in 1 rfl) (gm_c (gm_at lwV_45_in 2 rfl) (gm_c (gm_at lwV_45_in 3 rfl) (gm_c (gm_at lwV_81_in 9 rfl) (gm_c (gm_at lwV_81_in 10 rfl) (gm_c (gm_at lwV_81_in 11 rfl) (gm_c (gm_at lwV_82_in 0 rfl) (gm_c (gm_at lwV_82_in 1 rfl) (gm_c (gm_at lwV_82_in 2 rfl) (gm_c (gm_at lwV_82_in 3 rfl) (gm_c (gm_at lwV_82_in 4 rfl) (gm_c (gm_at lwV_82_in 5 rfl) (gm_c (gm_at lwV_82_in 6 rfl) (gm_c (gm_at lwV_82_in 7 rfl) (gm_c (gm_at lwV_82_in 8 rfl) (gm_c (gm_at lwV_3_in 2 rfl) (gm_c (gm_at lwV_82_in 9 rfl) (gm_c (gm_at lwV_82_in 10 rfl) (gm_c (gm_at lwV_82_in 11 rfl) (gm_c (gm_at lwV_83_in 0 rfl) (gm_c (gm_at lwV_83_in 1 rfl) (gm_c (gm_at lwV_83_in 2 rfl) (gm_c (gm_at lwV_83_in 3 rfl) (gm_c (gm_at lwV_83_in 4 rfl) (gm_c (gm_at lwV_83_in 5 rfl) (gm_c (gm_at lwV_83_in 6 rfl) (gm_c (gm_at lwV_83_in 7 rfl) (gm_c (gm_at lwV_83_in 8 rfl) (gm_c (gm_at lwV_83_in 9 rfl) (gm_c (gm_at lwV_83_in 10 rfl) gm_nil)))))))))))))))))))))))))))))))))))))))))))))))))))))))))))))))))))))))))))))))))))))))))))) (by decide +kernel)) (goodIn_app (goodIn_in il_X11 gd_X11) (goodIn_app (goodIn_in il_X5 gd_X5) (goodIn_app (goodIn_in il_X7 gd_X7) (goodIn_app (goodIn_in il_at0_X11_122 gd_at0_X11_122) (goodIn_app (goodIn_in il_X9 gd_X9) (goodIn_in il_X1 gd_X1)))))))
set_option maxRecDepth 20000 in
theorem g_lk_40_z_X12_rules_279 : GoodIn lwW (wsV RL 279 RX12 yX12_rules w_z_X12_rules) := goodIn_app (goodIn_sub (ws := ([.methodLink RL 279 yX12_rules, .instanceMethod yX12_rules, .selects RX12 yX12_rules yX12_rules, .initialized RX12] : List Cond)) (gm_c (gm_at lwV_79_in 4 rfl) (gm_c (gm_at lwV_79_in 5 rfl) (gm_c (gm_at lwV_79_in 6 rfl) (gm_c (gm_at lwV_0_in 7 rfl) gm_nil)))) (by decide +kernel)) (goodIn_ca (goodIn_sub (ws := .code yX12_rules cX12_rules 4 (some .int) :: l_z_X12_rules) (gm_c (gm_at lwV_83_in 11 rfl) (gm_c (gm_at lwV_57_in 0 rfl) (gm_c (gm_at lwV_57_in 1 rfl) (gm_c (gm_at lwV_57_in 2 rfl) (gm_c (gm_at lwV_0_in 7 rfl) (gm_c (gm_at lwV_1_in 5 rfl) (gm_c (gm_at lwV_57_in 9 rfl) (gm_c (gm_at lwV_84_in 0 rfl) (gm_c (gm_at lwV_84_in 1 rfl) (gm_c (gm_at lwV_45_in 6 rfl) (gm_c (gm_at lwV_45_in 7 rfl) (gm_c (gm_at lwV_45_in 8 rfl) (gm_c (gm_at lwV_46_in 10 rfl) (gm_c (gm_at lwV_47_in 10 rfl) (gm_c (gm_at lwV_46_in 1 rfl) (gm_c (gm_at lwV_46_in 2 rfl) (gm_c (gm_at lwV_46_in 3 rfl) (gm_c (gm_at lwV_46_in 4 rfl) (gm_c (gm_at lwV_84_in 2 rfl) (gm_c (gm_at lwV_84_in 3 rfl) (gm_c (gm_at lwV_84_in 4 rfl) (gm_c (gm_at lwV_84_in 5 rfl) (gm_c (gm_at lwV_84_in 6 rfl) (gm_c (gm_at lwV_84_in 7 rfl) (gm_c (gm_at lwV_57_in 10 rfl) (gm_c (gm_at lwV_46_in 5 rfl) (gm_c (gm_at lwV_46_in 6 rfl) (gm_c (gm_at lwV_46_in 7 rfl) (gm_c (gm_at lwV_46_in 8 rfl) (gm_c (gm_at lwV_46_in 9 rfl) (gm_c (gm_at lwV_46_in 11 rfl) (gm_c (gm_at lwV_47_in 0 rfl) (gm_c (gm_at lwV_47_in 1 rfl) (gm_c (gm_at lwV_47_in 2 rfl) (gm_c (gm_at lwV_47_in 3 rfl) (gm_c (gm_at lwV_47_in 4 rfl) (gm_c (gm_at lwV_47_in 5 rfl) (gm_c (gm_at lwV_47_in 6 rfl) (gm_c (gm_at lwV_47_in 7 rfl) (gm_c (gm_at lwV_47_in 8 rfl) (gm_c (gm_at lwV_47_in 9 rfl) (gm_c (gm_at lwV_47_in 11 rfl) (gm_c (gm_at lwV_3_in 5 rfl) (gm_c (gm_at lwV_52_in 11 rfl) (gm_c (gm_at lwV_53_in 0 rfl) (gm_c (gm_at lwV_84_in 8 rfl) gm_nil)))))))))))))))))))))))))))))))))))))))))))))) (by decide +kernel)) (goodIn_in il_X12 gd_X12))
set_option maxRecDepth 20000 in
theorem g_lk_40_z_X12_thrown_149 : GoodIn lwW (wsV RL 149 RX12 yX12_thrown w_z_X12_thrown) := goodIn_app (goodIn_sub (ws := ([.methodLink RL 149 yX12_thrown, .instanceMethod yX12_thrown, .selects RX12 yX12_thrown yX12_thrown, .initialized RX12] : List Cond)) (gm_c (gm_at lwV_6_in 2 rfl) (gm_c (gm_at lwV_6_in 3 rfl) (gm_c (gm_at lwV_6_in 4 rfl) (gm_c (gm_at lwV_0_in 7 rfl) gm_nil)))) (by decide +kernel)) (goodIn_ca (goodIn_sub (ws := .code yX12_thrown cX12_thrown 1 (some .int) :: l_z_X12_thrown) (gm_c (gm_at lwV_9_in 9 rfl) (gm_c (gm_at lwV_1_in 5 rfl) gm_nil)) (by decide +kernel)) (goodIn_in il_X12 gd_X12))
set_option maxRecDepth 20000 in
theorem g_lk_40_z_X12_thrown_2_149 : GoodIn lwW (wsV RL 149 RX12 yX12_thrown w_z_X12_thrown_2) := goodIn_app (goodIn_sub (ws := ([.methodLink RL 149 yX12_thrown, .instanceMethod yX12_thrown, .selects RX12 yX12_thrown yX12_thrown, .initialized RX12] : List Cond)) (gm_c (gm_at lwV_6_in 2 rfl) (gm_c (gm_at lwV_6_in 3 rfl) (gm_c (gm_at lwV_6_in 4 rfl) (gm_c (gm_at lwV_0_in 7 rfl) gm_nil)))) (by decide +kernel)) (goodIn_ca (goodIn_sub (ws := .code yX12_thrown cX12_thrown 1 (some .int) :: l_z_X12_thrown_2) (gm_c (gm_at lwV_9_in 9 rfl) (gm_c (gm_at lwV_1_in 5 rfl) gm_nil)) (by decide +kernel)) (goodIn_in il_X12 gd_X12))
set_option maxHeartbeats 4000000 in
set_option maxRecDepth 100000 in
/-- the law, one call: rules -/
theorem lk_40 {p : Program} {l : Launch} {e : Env} {s : State} {m : MethodId} {below : List Frame} {meth : Method} {c : Code} {b : Nat} {xs : Nat → Int32} (hst : l.stackTraces = false) (C0 : lw_At p s m meth c b 6 xs) {A : Nat → Prop} (hA : ∀ q : Nat, s.heap.size ≤ q → A q) (hAf : ∀ q : Nat, A q → s.heap.size ≤ q) (hZ : Zz A s) (hY : Yy s) (dC : Nat → ClassId) (dI : Nat → Nat → Nat) (aX : Nat) (fsX : List Value) (aT : Nat) (fsT : List Value) (qw : Nat) (fw : Nat → Int32) (kw : ClassId) (qp : Nat) (fp : Nat → Int32) (kp : ClassId) (qc : Nat) (fc : Nat → Int64) (kcc : ClassId) (qP : Nat) (gP : Nat → Option Nat) (kP : ClassId) (ap : Nat) (fsp : List Value) (aR : Nat) (fsR : List Value) (aF : Nat) (fsF : List Value) (qo : Nat) (fo : Nat → Int64) (ko : ClassId) (qu : Nat) (fu : Nat → Int64) (ku : ClassId) (qd : Nat) (fd : Nat → Int64) (kd : ClassId) (aZ : Nat) (fsZ : List Value) (q_things : Nat) (f_things : Nat → Int32) (k_things : ClassId) (q_factOne : Nat) (f_factOne : Nat → Int32) (k_factOne : ClassId) (qO : Nat) (fO : Nat → Int64) (kO : ClassId) (w1 : Int32) (hw1 : w1 = xs (1 : Int32).toNatClampNeg) (w2 : Int32) (hw2 : w2 = xs (2 : Int32).toNatClampNeg) (w3 : Int32) (hw3 : w3 = xs (3 : Int32).toNatClampNeg) (w4 : Int32) (hw4 : w4 = xs (4 : Int32).toNatClampNeg) (w5 : Int32) (hw5 : w5 = xs (5 : Int32).toNatClampNeg) (k_fsX : fh fsX 18 [(4, .ref qP), (11, .ref aR), (12, .ref aF)]) (k_fsT : fh fsT 12 [(1, .int 0), (5, .ref qw), (6, .ref qp), (7, .ref qc)]) (k_fsp : fh fsp 21 [(0, .int 0)]) (k_fsR : fh fsR 21 [(0, .ref aT), (16, .int 0)]) (k_fsF : fh fsF 10 [(3, .ref qo), (4, .ref qu), (5, .ref qd)]) (k_fsZ : fh fsZ 150 [(0, .int 0), (3, .int 0), (48, .ref q_things), (78, .int 0), (80, .int 0), (81, .int 0), (83, .int 0), (129, .ref q_factOne), (133, .int 0), (134, .int 0), (138, .int 0)]) (hg : gP w1.toNatClampNeg = some ap) (hz_f_things : ∀ j, f_things j = 0) (hz_f_factOne : ∀ j, f_factOne j = 0) {H : Heap} {locs : List Loc} (hK : va_K (dC, dI) vwCl [(kw, .int), (kp, .int), (kcc, .long), (kP, .object "HeapWorks$Picture"), (ko, .long), (ku, .long), (kd, .long), (k_things, .int), (k_factOne, .boolean), (kO, .long)] s) (hP : va_P (dC, dI) vwCl [(aX, .inr (14, fsX)), (aT, .inr (12, fsT)), (qw, .inl (kw, 4001, .inl fw)), (qp, .inl (kp, 4001, .inl fp)), (qc, .inl (kcc, 4001, .inr (.inl fc))), (qP, .inl (kP, 4, .inr (.inr (.inr (.inr gP))))), (ap, .inr (8, fsp)), (aR, .inr (10, fsR)), (aF, .inr (4, fsF)), (qo, .inl (ko, 360, .inr (.inl fo))), (qu, .inl (ku, 360, .inr (.inl fu))), (qd, .inl (kd, 9, .inr (.inl fd))), (aZ, .inr (15, fsZ)), (q_things, .inl (k_things, 5, .inl f_things)), (q_factOne, .inl (k_factOne, 240, .inl f_factOne)), (qO, .inl (kO, 1, .inr (.inl fO)))] H) (hD : va_D A [(aX, .inr (14, fsX)), (aT, .inr (12, fsT)), (qw, .inl (kw, 4001, .inl fw)), (qp, .inl (kp, 4001, .inl fp)), (qc, .inl (kcc, 4001, .inr (.inl fc))), (qP, .inl (kP, 4, .inr (.inr (.inr (.inr gP))))), (ap, .inr (8, fsp)), (aR, .inr (10, fsR)), (aF, .inr (4, fsF)), (qo, .inl (ko, 360, .inr (.inl fo))), (qu, .inl (ku, 360, .inr (.inl fu))), (qd, .inl (kd, 9, .inr (.inl fd))), (aZ, .inr (15, fsZ)), (q_things, .inl (k_things, 5, .inl f_things)), (q_factOne, .inl (k_factOne, 240, .inl f_factOne)), (qO, .inl (kO, 1, .inr (.inl fO)))]) (hS : va_S A s.heap H locs) (ls : Array Slot) (hl : lv_has ls 8 [(0, .ref b), (1, .ref aX), (2, .ref aZ), (3, .ref qO), (4, .int 0)]) : W p l e room_1 s m #[Value.ref b] below meth c H locs 390 571359 (lw_Z below #[Value.ref b] s) (F0 m 2607 ls []) := by
  obtain ⟨hx, hb, hr, hml, hown0, hts0, hX, hbl, hlocks, hgv⟩ := id C0
  have hown : s.vm.findClass RL = some m.cls := hown0
  have hts : ∀ w ∈ lwW, w.before #[Value.ref b] s = true := fun w h => hts0 w (lwW_in w h)
  have hbA : ¬ A b := fun h => absurd (hAf b h) (Nat.not_le.mpr hbl)
  have o_fsX := ow_0 k_fsX
  have o_fsT := ow_0 k_fsT
  have o_fsp := ow_0 k_fsp
  have o_fsR := ow_0 k_fsR
  have o_fsF := ow_0 k_fsF
  have o_fsZ := ow_0 k_fsZ
  refine lv_aload_n hx hb dL_law_2607 rfl (lv_at hl 1 rfl) ?_
  refine lv_aload_n hx hb dL_law_2608 rfl (lv_at hl 0 rfl) ?_
  refine lv_iload hx hb dL_law_2609 (lv_at hl 4 rfl) ?_
  refine lv_iconst (v := 1) hx hb dL_law_2611 (by decide) ?_
  refine lv_iadd hx hb dL_law_2612  ?_
  refine lv_topi (fun x101 ex101 => ?_)
  obtain rfl : x101 = 1 := ex101.trans (by decide)
  refine va_sld hx hb hX hbl hbA hS (show vp_in 1 6 from by unfold vp_in; decide) dL_law_2613 ?_
  refine lv_topi (fun x102 ex102 => ?_)
  obtain rfl : w1 = x102 := hw1.trans ex102.symm
  refine lv_aload_n hx hb dL_law_2614 rfl (lv_at hl 3 rfl) ?_
  have hPc := hP.sub (ws' := [(aX, .inr (14, fsX)), (aT, .inr (12, fsT)), (qw, .inl (kw, 4001, .inl fw)), (qp, .inl (kp, 4001, .inl fp)), (qc, .inl (kcc, 4001, .inr (.inl fc))), (qP, .inl (kP, 4, .inr (.inr (.inr (.inr gP))))), (ap, .inr (8, fsp)), (aR, .inr (10, fsR)), (aF, .inr (4, fsF)), (qo, .inl (ko, 360, .inr (.inl fo))), (qu, .inl (ku, 360, .inr (.inl fu))), (qd, .inl (kd, 9, .inr (.inl fd))), (qO, .inl (kO, 1, .inr (.inl fO)))]) [0, 1, 2, 3, 4, 5, 6, 7, 8, 9, 10, 11, 15] rfl
  have hDc := hD.sub (ws' := [(aX, .inr (14, fsX)), (aT, .inr (12, fsT)), (qw, .inl (kw, 4001, .inl fw)), (qp, .inl (kp, 4001, .inl fp)), (qc, .inl (kcc, 4001, .inr (.inl fc))), (qP, .inl (kP, 4, .inr (.inr (.inr (.inr gP))))), (ap, .inr (8, fsp)), (aR, .inr (10, fsR)), (aF, .inr (4, fsF)), (qo, .inl (ko, 360, .inr (.inl fo))), (qu, .inl (ku, 360, .inr (.inl fu))), (qd, .inl (kd, 9, .inr (.inl fd))), (qO, .inl (kO, 1, .inr (.inl fO)))]) [0, 1, 2, 3, 4, 5, 6, 7, 8, 9, 10, 11, 15] (by decide) rfl
  have hKc := hK.sub (tys' := [(kw, .int), (kp, .int), (kcc, .long), (kP, .object "HeapWorks$Picture"), (ko, .long), (ku, .long), (kd, .long), (kO, .long)]) [0, 1, 2, 3, 4, 5, 6, 9] rfl
  have hFc := va_free (wc := [(aX, .inr (14, fsX)), (aT, .inr (12, fsT)), (qw, .inl (kw, 4001, .inl fw)), (qp, .inl (kp, 4001, .inl fp)), (qc, .inl (kcc, 4001, .inr (.inl fc))), (qP, .inl (kP, 4, .inr (.inr (.inr (.inr gP))))), (ap, .inr (8, fsp)), (aR, .inr (10, fsR)), (aF, .inr (4, fsF)), (qo, .inl (ko, 360, .inr (.inl fo))), (qu, .inl (ku, 360, .inr (.inl fu))), (qd, .inl (kd, 9, .inr (.inl fd))), (qO, .inl (kO, 1, .inr (.inl fO)))]) hD hS hA [0, 1, 2, 3, 4, 5, 6, 7, 8, 9, 10, 11, 15] rfl
  refine vx_calli (vx_runSX (As := [.ref aX, .int w1, .ref qO]) (rest := []) ⟨hx, hb, hml, hown, hts⟩ (z_L_rules l dC dI H.size aX fsX aT fsT qw fw kw qp fp kp qc fc kcc qP gP kP ap fsp aR fsR aF fsF qo fo ko qu fu ku qd fd kd qO fO kO w1 (fh_sub o_fsX.2 [0, 1, 2] rfl) (fh_sub o_fsT.2 [0, 1, 2, 3] rfl) (fh_sub o_fsp.2 [0] rfl) (fh_sub o_fsR.2 [0, 1] rfl) (fh_sub o_fsF.2 [0, 1, 2] rfl) hst hg) (vx_cwSW 3 hts g_lk_40_z_L_rules_277 rfl rfl rfl (by decide +kernel) ⟨Nat.le_of_ble_eq_true rfl, Nat.le_of_ble_eq_true rfl⟩) ⟨fun a U g mk q => by obtain ⟨q0, q1, qZ, qY, qP, qK, qD⟩ := q; exact ⟨q0, q1, Zz_call qZ, Yy_call qY, qP, va_K.moved (u := U) (U := U.calling g mk a) (Vm.Alike.refl U.vm) qK, qD⟩, fun U hU hW => ⟨rfl, by rw [hU], Zz_go hZ hS hFc hU hW, Yy_go hY hW, by rw [hU]; exact hPc, va_K.moved hW.alike hKc, hDc.weaken (fun _ _ _ _ => trivial)⟩⟩ rfl rfl hl.1 rfl (lv_room (Nat.le_of_ble_eq_true rfl)) dL_law_2615 ⟨Nat.le_of_ble_eq_true rfl, Nat.le_of_ble_eq_true rfl⟩) hS (fun q _ h => hFc q h) hFc (fun q _ h => hFc q h) (fun E ce q9 u t H1 locs ht hvm hpx hBX hz1 hk1 hS hce hcv hcl => ?_) (fun r103 u t H1 locs ht hvm hw hB hz1 hk1 hS => ?_)
  · exact False.elim hBX
  · skip
    obtain ⟨f104, rfl⟩ : ∃ z, z = u := ⟨_, rfl⟩
    obtain ⟨hP1, hK1, hD1⟩ := hB
    rw [ht] at hP1
    try dsimp only at hw
    obtain ⟨hP, hD⟩ := va_join (wr := [(aZ, .inr (15, fsZ)), (q_things, .inl (k_things, 5, .inl f_things)), (q_factOne, .inl (k_factOne, 240, .inl f_factOne))]) (w1 := [(qO, .inl (kO, 1, .inr (.inl f104)))]) hP hD [0, 1, 2, 3, 4, 5, 6, 7, 8, 9, 10, 11, 15] [12, 13, 14] rfl rfl (by decide) (by decide) hk1 hFc hP1 hD1
    have hK := hK.sub (tys' := [(k_things, .int), (k_factOne, .boolean), (kO, .long)]) [7, 8, 9] rfl
    generalize H1 = H at hP hS ⊢
    refine W.widen (k := 391) (n := 571365) (by omega) (by omega) ?_
    have hP : va_P (dC, dI) vwCl [(aZ, .inr (15, fsZ)), (q_things, .inl (k_things, 5, .inl f_things)), (q_factOne, .inl (k_factOne, 240, .inl f_factOne)), (qO, .inl (kO, 1, .inr (.inl f104)))] H := hP
    have hD : va_D A [(aZ, .inr (15, fsZ)), (q_things, .inl (k_things, 5, .inl f_things)), (q_factOne, .inl (k_factOne, 240, .inl f_factOne)), (qO, .inl (kO, 1, .inr (.inl f104)))] := hD
    rcases hw with ⟨c105, er106⟩ | ⟨c107, c108, er109⟩ | ⟨c110, c111, er112, q113⟩
    · skip
      subst er106
      refine lv_istore (lv' := [(5, .int 1), (0, .ref b), (1, .ref aX), (2, .ref aZ), (3, .ref qO), (4, .int 0)]) hx hb dL_law_2618 hl (by decide) rfl (fun ls hl => ?_)
      refine lv_aload_n hx hb dL_law_2620 rfl (lv_at hl 3 rfl) ?_
      refine lv_aload_n hx hb dL_law_2621 rfl (lv_at hl 1 rfl) ?_
      refine lv_iload hx hb dL_law_2622 (lv_at hl 5 rfl) ?_
      refine lv_iconst (v := 1) hx hb dL_law_2624 (by decide) ?_
      refine lv_iadd hx hb dL_law_2625  ?_
      refine lv_topi (fun x114 ex114 => ?_)
      obtain rfl : x114 = 1 := ex114.trans (by decide)
      refine va_sld hx hb hX hbl hbA hS (show vp_in 1 6 from by unfold vp_in; decide) dL_law_2626 ?_
      refine lv_topi (fun x115 ex115 => ?_)
      obtain rfl : w1 = x115 := hw1.trans ex115.symm
      have hPc := hP.sub (ws' := [(aZ, .inr (15, fsZ)), (q_things, .inl (k_things, 5, .inl f_things)), (q_factOne, .inl (k_factOne, 240, .inl f_factOne))]) [0, 1, 2] rfl
      have hDc := hD.sub (ws' := [(aZ, .inr (15, fsZ)), (q_things, .inl (k_things, 5, .inl f_things)), (q_factOne, .inl (k_factOne, 240, .inl f_factOne))]) [0, 1, 2] (by decide) rfl
      have hKc := hK.sub (tys' := [(k_things, .int), (k_factOne, .boolean)]) [0, 1] rfl
      have hFc := va_free (wc := [(aZ, .inr (15, fsZ)), (q_things, .inl (k_things, 5, .inl f_things)), (q_factOne, .inl (k_factOne, 240, .inl f_factOne))]) hD hS hA [0, 1, 2] rfl
      refine va_calli (va_runV (As := [.int w1]) (rest := []) ⟨hx, hb, hml, hown, hts⟩ (z_X12_rules l dC dI H.size aZ fsZ q_things f_things k_things q_factOne f_factOne k_factOne w1 (fh_sub o_fsZ.2 [0, 1, 2, 3, 4, 5, 6, 7, 8, 9, 10] rfl) hz_f_things hz_f_factOne) (cwV 1 hts g_lk_40_z_X12_rules_279 rfl rfl rfl (by decide +kernel) ⟨Nat.le_of_ble_eq_true rfl, Nat.le_of_ble_eq_true rfl⟩) ⟨fun a U g mk q => by obtain ⟨q0, q1, qP, qK, qD⟩ := q; exact ⟨q0, q1, qP, va_K.moved (u := U) (U := U.calling g mk a) (Vm.Alike.refl U.vm) qK, qD⟩, va_recv hK hP (ci := 15) (q0 := 0) rfl rfl, fun U hU hW => ⟨rfl, by rw [hU], by rw [hU]; exact hPc, va_K.moved hW.alike hKc, hDc.weaken (fun _ _ _ _ => trivial)⟩⟩ rfl rfl hl.1 rfl (lv_room (Nat.le_of_ble_eq_true rfl)) dL_law_2627 ⟨Nat.le_of_ble_eq_true rfl, Nat.le_of_ble_eq_true rfl⟩) hS (fun q _ h => hFc q h) hFc (fun r116 u t H1 locs ht hvm hw hB hz1 hk1 hS => ?_)
      obtain ⟨s117, f118⟩ := u
      obtain ⟨hP1, hK1, hD1⟩ := hB
      rw [ht] at hP1
      try dsimp only at hw
      obtain ⟨hP, hD⟩ := va_join (wr := [(qO, .inl (kO, 1, .inr (.inl f104)))]) (w1 := [(aZ, .inr (15, s117)), (q_things, .inl (k_things, 5, .inl f_things)), (q_factOne, .inl (k_factOne, 240, .inl f118))]) hP hD [0, 1, 2] [3] rfl rfl (by decide) (by decide) hk1 hFc hP1 hD1
      have hK := hK.sub (tys' := [(kO, .long), (k_things, .int), (k_factOne, .boolean)]) [2, 0, 1] rfl
      generalize H1 = H at hP hS ⊢
      have hP : va_P (dC, dI) vwCl [(qO, .inl (kO, 1, .inr (.inl f104))), (aZ, .inr (15, s117)), (q_things, .inl (k_things, 5, .inl f_things)), (q_factOne, .inl (k_factOne, 240, .inl f118))] H := hP
      have hD : va_D A [(qO, .inl (kO, 1, .inr (.inl f104))), (aZ, .inr (15, s117)), (q_things, .inl (k_things, 5, .inl f_things)), (q_factOne, .inl (k_factOne, 240, .inl f118))] := hD
      rcases hw with ⟨c119, er120, o_s117, q121⟩ | ⟨c122, c123, er124, o_s117, q125⟩ | ⟨c126, c127, er128, o_s117⟩
      · skip
        subst er120
        have o_s117 := ow_on o_fsZ o_s117 (l' := [(0, .int 1), (3, .int 0), (48, .ref q_things), (78, .int 0), (80, .int 0), (81, .int 0), (83, .int 0), (129, .ref q_factOne), (133, .int 0), (134, .int 0), (138, .int 0), (3, .int 0), (48, .ref q_things), (78, .int 0), (80, .int 0), (81, .int 0), (83, .int 0), (129, .ref q_factOne), (133, .int 0), (134, .int 0), (138, .int 0)]) (w' := [0]) rfl rfl
        refine lv_istore (lv' := [(6, .int 0), (5, .int 1), (0, .ref b), (1, .ref aX), (2, .ref aZ), (3, .ref qO), (4, .int 0)]) hx hb dL_law_2630 hl (by decide) rfl (fun ls hl => ?_)
        refine lv_aload_n hx hb dL_law_2632 rfl (lv_at hl 4 rfl) ?_
        have hPc := hP.sub (ws' := [(aZ, .inr (15, s117))]) [1] rfl
        have hDc := hD.sub (ws' := [(aZ, .inr (15, s117))]) [1] (by decide) rfl
        have hKc := hK.sub (tys' := []) [] rfl
        have hFc := va_free (wc := [(aZ, .inr (15, s117))]) hD hS hA [1] rfl
        refine va_calli (va_runV (As := []) (rest := []) ⟨hx, hb, hml, hown, hts⟩ (z_X12_thrown l dC dI H.size aZ s117 (fh_sub o_s117.2 [0] rfl) ) (cwV 0 hts g_lk_40_z_X12_thrown_149 rfl rfl rfl (by decide +kernel) ⟨Nat.le_of_ble_eq_true rfl, Nat.le_of_ble_eq_true rfl⟩) ⟨fun a U g mk q => by obtain ⟨q0, q1, qP, qK, qD⟩ := q; exact ⟨q0, q1, qP, va_K.moved (u := U) (U := U.calling g mk a) (Vm.Alike.refl U.vm) qK, qD⟩, va_recv hK hP (ci := 15) (q0 := 1) rfl rfl, fun U hU hW => ⟨rfl, by rw [hU], by rw [hU]; exact hPc, va_K.moved hW.alike hKc, hDc.weaken (fun _ _ _ _ => trivial)⟩⟩ rfl rfl hl.1 rfl (lv_room (Nat.le_of_ble_eq_true rfl)) dL_law_2633 ⟨Nat.le_of_ble_eq_true rfl, Nat.le_of_ble_eq_true rfl⟩) hS (fun q _ h => hFc q h) hFc (fun r129 u t H1 locs ht hvm hw hB hz1 hk1 hS => ?_)
        obtain ⟨hP1, hK1, hD1⟩ := hB
        rw [ht] at hP1
        try dsimp only at hw
        obtain ⟨hP, hD⟩ := va_join (wr := [(qO, .inl (kO, 1, .inr (.inl f104))), (q_things, .inl (k_things, 5, .inl f_things)), (q_factOne, .inl (k_factOne, 240, .inl f118))]) (w1 := [(aZ, .inr (15, s117))]) hP hD [1] [0, 2, 3] rfl rfl (by decide) (by decide) hk1 hFc hP1 hD1
        have hK := hK.sub (tys' := [(kO, .long), (k_things, .int), (k_factOne, .boolean)]) [0, 1, 2] rfl
        generalize H1 = H at hP hS ⊢
        have hP : va_P (dC, dI) vwCl [(qO, .inl (kO, 1, .inr (.inl f104))), (q_things, .inl (k_things, 5, .inl f_things)), (q_factOne, .inl (k_factOne, 240, .inl f118)), (aZ, .inr (15, s117))] H := hP
        have hD : va_D A [(qO, .inl (kO, 1, .inr (.inl f104))), (q_things, .inl (k_things, 5, .inl f_things)), (q_factOne, .inl (k_factOne, 240, .inl f118)), (aZ, .inr (15, s117))] := hD
        have er130 := hw
        subst er130
        refine lv_iload hx hb dL_law_2636 (lv_at hl 1 rfl) ?_
        refine lv_icmp_eq (tgt := 2643) hx hb dL_law_2638 (by decide) (fun c131 => ?_) (fun c131 => absurd c131 (by decide))
        refine lv_iload hx hb dL_law_2643 (lv_at hl 1 rfl) ?_
        refine lv_if_ne (tgt := 2660) hx hb dL_law_2645 (by decide) (fun c132 => ?_) (fun c132 => absurd c132 (by decide))
        refine lv_goto (tgt := 3111) hx hb dL_law_2660 (by decide) ?_
        exact lw_end hst C0 hA hAf hZ hY (Nat.le_of_ble_eq_true rfl) (Nat.le_of_ble_eq_true rfl) dC dI P0k P0 D0 hS ls (lv_sub hl [2, 6] rfl)
      · exact (by exfalso; (try simp only [i_lt, i_le, i_eq, kc_0, kc_4] at c105 c122 c123); omega)
      · exact (by exfalso; (try simp only [i_lt, i_le, i_eq, kc_0, kc_4] at c105 c126 c127); omega)
    · skip
      subst er109
      refine lv_istore (lv' := [(5, .int 1), (0, .ref b), (1, .ref aX), (2, .ref aZ), (3, .ref qO), (4, .int 0)]) hx hb dL_law_2618 hl (by decide) rfl (fun ls hl => ?_)
      refine lv_aload_n hx hb dL_law_2620 rfl (lv_at hl 3 rfl) ?_
      refine lv_aload_n hx hb dL_law_2621 rfl (lv_at hl 1 rfl) ?_
      refine lv_iload hx hb dL_law_2622 (lv_at hl 5 rfl) ?_
      refine lv_iconst (v := 1) hx hb dL_law_2624 (by decide) ?_
      refine lv_iadd hx hb dL_law_2625  ?_
      refine lv_topi (fun x133 ex133 => ?_)
      obtain rfl : x133 = 1 := ex133.trans (by decide)
      refine va_sld hx hb hX hbl hbA hS (show vp_in 1 6 from by unfold vp_in; decide) dL_law_2626 ?_
      refine lv_topi (fun x134 ex134 => ?_)
      obtain rfl : w1 = x134 := hw1.trans ex134.symm
      have hPc := hP.sub (ws' := [(aZ, .inr (15, fsZ)), (q_things, .inl (k_things, 5, .inl f_things)), (q_factOne, .inl (k_factOne, 240, .inl f_factOne))]) [0, 1, 2] rfl
      have hDc := hD.sub (ws' := [(aZ, .inr (15, fsZ)), (q_things, .inl (k_things, 5, .inl f_things)), (q_factOne, .inl (k_factOne, 240, .inl f_factOne))]) [0, 1, 2] (by decide) rfl
      have hKc := hK.sub (tys' := [(k_things, .int), (k_factOne, .boolean)]) [0, 1] rfl
      have hFc := va_free (wc := [(aZ, .inr (15, fsZ)), (q_things, .inl (k_things, 5, .inl f_things)), (q_factOne, .inl (k_factOne, 240, .inl f_factOne))]) hD hS hA [0, 1, 2] rfl
      refine va_calli (va_runV (As := [.int w1]) (rest := []) ⟨hx, hb, hml, hown, hts⟩ (z_X12_rules l dC dI H.size aZ fsZ q_things f_things k_things q_factOne f_factOne k_factOne w1 (fh_sub o_fsZ.2 [0, 1, 2, 3, 4, 5, 6, 7, 8, 9, 10] rfl) hz_f_things hz_f_factOne) (cwV 1 hts g_lk_40_z_X12_rules_279 rfl rfl rfl (by decide +kernel) ⟨Nat.le_of_ble_eq_true rfl, Nat.le_of_ble_eq_true rfl⟩) ⟨fun a U g mk q => by obtain ⟨q0, q1, qP, qK, qD⟩ := q; exact ⟨q0, q1, qP, va_K.moved (u := U) (U := U.calling g mk a) (Vm.Alike.refl U.vm) qK, qD⟩, va_recv hK hP (ci := 15) (q0 := 0) rfl rfl, fun U hU hW => ⟨rfl, by rw [hU], by rw [hU]; exact hPc, va_K.moved hW.alike hKc, hDc.weaken (fun _ _ _ _ => trivial)⟩⟩ rfl rfl hl.1 rfl (lv_room (Nat.le_of_ble_eq_true rfl)) dL_law_2627 ⟨Nat.le_of_ble_eq_true rfl, Nat.le_of_ble_eq_true rfl⟩) hS (fun q _ h => hFc q h) hFc (fun r135 u t H1 locs ht hvm hw hB hz1 hk1 hS => ?_)
      obtain ⟨s136, f137⟩ := u
      obtain ⟨hP1, hK1, hD1⟩ := hB
      rw [ht] at hP1
      try dsimp only at hw
      obtain ⟨hP, hD⟩ := va_join (wr := [(qO, .inl (kO, 1, .inr (.inl f104)))]) (w1 := [(aZ, .inr (15, s136)), (q_things, .inl (k_things, 5, .inl f_things)), (q_factOne, .inl (k_factOne, 240, .inl f137))]) hP hD [0, 1, 2] [3] rfl rfl (by decide) (by decide) hk1 hFc hP1 hD1
      have hK := hK.sub (tys' := [(kO, .long), (k_things, .int), (k_factOne, .boolean)]) [2, 0, 1] rfl
      generalize H1 = H at hP hS ⊢
      have hP : va_P (dC, dI) vwCl [(qO, .inl (kO, 1, .inr (.inl f104))), (aZ, .inr (15, s136)), (q_things, .inl (k_things, 5, .inl f_things)), (q_factOne, .inl (k_factOne, 240, .inl f137))] H := hP
      have hD : va_D A [(qO, .inl (kO, 1, .inr (.inl f104))), (aZ, .inr (15, s136)), (q_things, .inl (k_things, 5, .inl f_things)), (q_factOne, .inl (k_factOne, 240, .inl f137))] := hD
      rcases hw with ⟨c138, er139, o_s136, q140⟩ | ⟨c141, c142, er143, o_s136, q144⟩ | ⟨c145, c146, er147, o_s136⟩
      · exact (by exfalso; (try simp only [i_lt, i_le, i_eq, kc_0, kc_4] at c107 c108 c138); omega)
      · skip
        subst er143
        have o_s136 := ow_on o_fsZ o_s136 (l' := [(0, .int 1), (3, .int 0), (48, .ref q_things), (78, .int 0), (80, .int 0), (81, .int 0), (83, .int 0), (129, .ref q_factOne), (133, .int 0), (134, .int 0), (138, .int 0), (3, .int 0), (48, .ref q_things), (78, .int 0), (80, .int 0), (81, .int 0), (83, .int 0), (129, .ref q_factOne), (133, .int 0), (134, .int 0), (138, .int 0)]) (w' := [0]) rfl rfl
        refine lv_istore (lv' := [(6, .int 0), (5, .int 1), (0, .ref b), (1, .ref aX), (2, .ref aZ), (3, .ref qO), (4, .int 0)]) hx hb dL_law_2630 hl (by decide) rfl (fun ls hl => ?_)
        refine lv_aload_n hx hb dL_law_2632 rfl (lv_at hl 4 rfl) ?_
        have hPc := hP.sub (ws' := [(aZ, .inr (15, s136))]) [1] rfl
        have hDc := hD.sub (ws' := [(aZ, .inr (15, s136))]) [1] (by decide) rfl
        have hKc := hK.sub (tys' := []) [] rfl
        have hFc := va_free (wc := [(aZ, .inr (15, s136))]) hD hS hA [1] rfl
        refine va_calli (va_runV (As := []) (rest := []) ⟨hx, hb, hml, hown, hts⟩ (z_X12_thrown l dC dI H.size aZ s136 (fh_sub o_s136.2 [0] rfl) ) (cwV 0 hts g_lk_40_z_X12_thrown_149 rfl rfl rfl (by decide +kernel) ⟨Nat.le_of_ble_eq_true rfl, Nat.le_of_ble_eq_true rfl⟩) ⟨fun a U g mk q => by obtain ⟨q0, q1, qP, qK, qD⟩ := q; exact ⟨q0, q1, qP, va_K.moved (u := U) (U := U.calling g mk a) (Vm.Alike.refl U.vm) qK, qD⟩, va_recv hK hP (ci := 15) (q0 := 1) rfl rfl, fun U hU hW => ⟨rfl, by rw [hU], by rw [hU]; exact hPc, va_K.moved hW.alike hKc, hDc.weaken (fun _ _ _ _ => trivial)⟩⟩ rfl rfl hl.1 rfl (lv_room (Nat.le_of_ble_eq_true rfl)) dL_law_2633 ⟨Nat.le_of_ble_eq_true rfl, Nat.le_of_ble_eq_true rfl⟩) hS (fun q _ h => hFc q h) hFc (fun r148 u t H1 locs ht hvm hw hB hz1 hk1 hS => ?_)
        obtain ⟨hP1, hK1, hD1⟩ := hB
        rw [ht] at hP1
        try dsimp only at hw
        obtain ⟨hP, hD⟩ := va_join (wr := [(qO, .inl (kO, 1, .inr (.inl f104))), (q_things, .inl (k_things, 5, .inl f_things)), (q_factOne, .inl (k_factOne, 240, .inl f137))]) (w1 := [(aZ, .inr (15, s136))]) hP hD [1] [0, 2, 3] rfl rfl (by decide) (by decide) hk1 hFc hP1 hD1
        have hK := hK.sub (tys' := [(kO, .long), (k_things, .int), (k_factOne, .boolean)]) [0, 1, 2] rfl
        generalize H1 = H at hP hS ⊢
        have hP : va_P (dC, dI) vwCl [(qO, .inl (kO, 1, .inr (.inl f104))), (q_things, .inl (k_things, 5, .inl f_things)), (q_factOne, .inl (k_factOne, 240, .inl f137)), (aZ, .inr (15, s136))] H := hP
        have hD : va_D A [(qO, .inl (kO, 1, .inr (.inl f104))), (q_things, .inl (k_things, 5, .inl f_things)), (q_factOne, .inl (k_factOne, 240, .inl f137)), (aZ, .inr (15, s136))] := hD
        have er149 := hw
        subst er149
        refine lv_iload hx hb dL_law_2636 (lv_at hl 1 rfl) ?_
        refine lv_icmp_eq (tgt := 2643) hx hb dL_law_2638 (by decide) (fun c150 => ?_) (fun c150 => absurd c150 (by decide))
        refine lv_iload hx hb dL_law_2643 (lv_at hl 1 rfl) ?_
        refine lv_if_ne (tgt := 2660) hx hb dL_law_2645 (by decide) (fun c151 => ?_) (fun c151 => absurd c151 (by decide))
        refine lv_goto (tgt := 3111) hx hb dL_law_2660 (by decide) ?_
        exact lw_end hst C0 hA hAf hZ hY (Nat.le_of_ble_eq_true rfl) (Nat.le_of_ble_eq_true rfl) dC dI P0k P0 D0 hS ls (lv_sub hl [2, 6] rfl)
      · exact (by exfalso; (try simp only [i_lt, i_le, i_eq, kc_0, kc_4] at c107 c108 c145 c146); omega)
    · skip
      subst er112
      refine lv_istore (lv' := [(5, .int 0), (0, .ref b), (1, .ref aX), (2, .ref aZ), (3, .ref qO), (4, .int 0)]) hx hb dL_law_2618 hl (by decide) rfl (fun ls hl => ?_)
      refine lv_aload_n hx hb dL_law_2620 rfl (lv_at hl 3 rfl) ?_
      refine lv_aload_n hx hb dL_law_2621 rfl (lv_at hl 1 rfl) ?_
      refine lv_iload hx hb dL_law_2622 (lv_at hl 5 rfl) ?_
      refine lv_iconst (v := 1) hx hb dL_law_2624 (by decide) ?_
      refine lv_iadd hx hb dL_law_2625  ?_
      refine lv_topi (fun x152 ex152 => ?_)
      obtain rfl : x152 = 1 := ex152.trans (by decide)
      refine va_sld hx hb hX hbl hbA hS (show vp_in 1 6 from by unfold vp_in; decide) dL_law_2626 ?_
      refine lv_topi (fun x153 ex153 => ?_)
      obtain rfl : w1 = x153 := hw1.trans ex153.symm
      have hPc := hP.sub (ws' := [(aZ, .inr (15, fsZ)), (q_things, .inl (k_things, 5, .inl f_things)), (q_factOne, .inl (k_factOne, 240, .inl f_factOne))]) [0, 1, 2] rfl
      have hDc := hD.sub (ws' := [(aZ, .inr (15, fsZ)), (q_things, .inl (k_things, 5, .inl f_things)), (q_factOne, .inl (k_factOne, 240, .inl f_factOne))]) [0, 1, 2] (by decide) rfl
      have hKc := hK.sub (tys' := [(k_things, .int), (k_factOne, .boolean)]) [0, 1] rfl
      have hFc := va_free (wc := [(aZ, .inr (15, fsZ)), (q_things, .inl (k_things, 5, .inl f_things)), (q_factOne, .inl (k_factOne, 240, .inl f_factOne))]) hD hS hA [0, 1, 2] rfl
      refine va_calli (va_runV (As := [.int w1]) (rest := []) ⟨hx, hb, hml, hown, hts⟩ (z_X12_rules l dC dI H.size aZ fsZ q_things f_things k_things q_factOne f_factOne k_factOne w1 (fh_sub o_fsZ.2 [0, 1, 2, 3, 4, 5, 6, 7, 8, 9, 10] rfl) hz_f_things hz_f_factOne) (cwV 1 hts g_lk_40_z_X12_rules_279 rfl rfl rfl (by decide +kernel) ⟨Nat.le_of_ble_eq_true rfl, Nat.le_of_ble_eq_true rfl⟩) ⟨fun a U g mk q => by obtain ⟨q0, q1, qP, qK, qD⟩ := q; exact ⟨q0, q1, qP, va_K.moved (u := U) (U := U.calling g mk a) (Vm.Alike.refl U.vm) qK, qD⟩, va_recv hK hP (ci := 15) (q0 := 0) rfl rfl, fun U hU hW => ⟨rfl, by rw [hU], by rw [hU]; exact hPc, va_K.moved hW.alike hKc, hDc.weaken (fun _ _ _ _ => trivial)⟩⟩ rfl rfl hl.1 rfl (lv_room (Nat.le_of_ble_eq_true rfl)) dL_law_2627 ⟨Nat.le_of_ble_eq_true rfl, Nat.le_of_ble_eq_true rfl⟩) hS (fun q _ h => hFc q h) hFc (fun r154 u t H1 locs ht hvm hw hB hz1 hk1 hS => ?_)
      obtain ⟨s155, f156⟩ := u
      obtain ⟨hP1, hK1, hD1⟩ := hB
      rw [ht] at hP1
      try dsimp only at hw
      obtain ⟨hP, hD⟩ := va_join (wr := [(qO, .inl (kO, 1, .inr (.inl f104)))]) (w1 := [(aZ, .inr (15, s155)), (q_things, .inl (k_things, 5, .inl f_things)), (q_factOne, .inl (k_factOne, 240, .inl f156))]) hP hD [0, 1, 2] [3] rfl rfl (by decide) (by decide) hk1 hFc hP1 hD1
      have hK := hK.sub (tys' := [(kO, .long), (k_things, .int), (k_factOne, .boolean)]) [2, 0, 1] rfl
      generalize H1 = H at hP hS ⊢
      have hP : va_P (dC, dI) vwCl [(qO, .inl (kO, 1, .inr (.inl f104))), (aZ, .inr (15, s155)), (q_things, .inl (k_things, 5, .inl f_things)), (q_factOne, .inl (k_factOne, 240, .inl f156))] H := hP
      have hD : va_D A [(qO, .inl (kO, 1, .inr (.inl f104))), (aZ, .inr (15, s155)), (q_things, .inl (k_things, 5, .inl f_things)), (q_factOne, .inl (k_factOne, 240, .inl f156))] := hD
      rcases hw with ⟨c157, er158, o_s155, q159⟩ | ⟨c160, c161, er162, o_s155, q163⟩ | ⟨c164, c165, er166, o_s155⟩
      · exact (by exfalso; (try simp only [i_lt, i_le, i_eq, kc_0, kc_4] at c110 c111 c157); omega)
      · exact (by exfalso; (try simp only [i_lt, i_le, i_eq, kc_0, kc_4] at c110 c111 c160 c161); omega)
      · skip
        subst er166
        have o_s155 := ow_on o_fsZ o_s155 (l' := [(138, .int 0), (97, .int w1), (0, .int 0), (82, .int (-1)), (81, .int 0), (80, .int 0), (83, .int 0), (80, .int 0), (85, .long 0), (79, .int 0), (78, .int 0), (3, .int 0), (78, .int 0), (84, .int (-1)), (83, .int 0), (94, .int 0), (93, .int 0), (92, .int 0), (91, .int 0), (3, .int 0), (134, .int 0), (133, .int 0), (3, .int 0), (48, .ref q_things), (129, .ref q_factOne), (3, .int 0), (48, .ref q_things), (129, .ref q_factOne)]) (w' := [138, 97, 0, 82, 81, 80, 85, 79, 78, 84, 83, 94, 93, 92, 91, 134, 133]) rfl rfl
        refine lv_istore (lv' := [(6, .int 0), (5, .int 0), (0, .ref b), (1, .ref aX), (2, .ref aZ), (3, .ref qO), (4, .int 0)]) hx hb dL_law_2630 hl (by decide) rfl (fun ls hl => ?_)
        refine lv_aload_n hx hb dL_law_2632 rfl (lv_at hl 4 rfl) ?_
        have hPc := hP.sub (ws' := [(aZ, .inr (15, s155))]) [1] rfl
        have hDc := hD.sub (ws' := [(aZ, .inr (15, s155))]) [1] (by decide) rfl
        have hKc := hK.sub (tys' := []) [] rfl
        have hFc := va_free (wc := [(aZ, .inr (15, s155))]) hD hS hA [1] rfl
        refine va_calli (va_runV (As := []) (rest := []) ⟨hx, hb, hml, hown, hts⟩ (z_X12_thrown_2 l dC dI H.size aZ s155 (fh_sub o_s155.2 [2] rfl) ) (cwV 0 hts g_lk_40_z_X12_thrown_2_149 rfl rfl rfl (by decide +kernel) ⟨Nat.le_of_ble_eq_true rfl, Nat.le_of_ble_eq_true rfl⟩) ⟨fun a U g mk q => by obtain ⟨q0, q1, qP, qK, qD⟩ := q; exact ⟨q0, q1, qP, va_K.moved (u := U) (U := U.calling g mk a) (Vm.Alike.refl U.vm) qK, qD⟩, va_recv hK hP (ci := 15) (q0 := 1) rfl rfl, fun U hU hW => ⟨rfl, by rw [hU], by rw [hU]; exact hPc, va_K.moved hW.alike hKc, hDc.weaken (fun _ _ _ _ => trivial)⟩⟩ rfl rfl hl.1 rfl (lv_room (Nat.le_of_ble_eq_true rfl)) dL_law_2633 ⟨Nat.le_of_ble_eq_true rfl, Nat.le_of_ble_eq_true rfl⟩) hS (fun q _ h => hFc q h) hFc (fun r167 u t H1 locs ht hvm hw hB hz1 hk1 hS => ?_)
        obtain ⟨hP1, hK1, hD1⟩ := hB
        rw [ht] at hP1
        try dsimp only at hw
        obtain ⟨hP, hD⟩ := va_join (wr := [(qO, .inl (kO, 1, .inr (.inl f104))), (q_things, .inl (k_things, 5, .inl f_things)), (q_factOne, .inl (k_factOne, 240, .inl f156))]) (w1 := [(aZ, .inr (15, s155))]) hP hD [1] [0, 2, 3] rfl rfl (by decide) (by decide) hk1 hFc hP1 hD1
        have hK := hK.sub (tys' := [(kO, .long), (k_things, .int), (k_factOne, .boolean)]) [0, 1, 2] rfl
        generalize H1 = H at hP hS ⊢
        have hP : va_P (dC, dI) vwCl [(qO, .inl (kO, 1, .inr (.inl f104))), (q_things, .inl (k_things, 5, .inl f_things)), (q_factOne, .inl (k_factOne, 240, .inl f156)), (aZ, .inr (15, s155))] H := hP
        have hD : va_D A [(qO, .inl (kO, 1, .inr (.inl f104))), (q_things, .inl (k_things, 5, .inl f_things)), (q_factOne, .inl (k_factOne, 240, .inl f156)), (aZ, .inr (15, s155))] := hD
        have er168 := hw
        subst er168
        refine lv_iload hx hb dL_law_2636 (lv_at hl 1 rfl) ?_
        refine lv_icmp_eq (tgt := 2643) hx hb dL_law_2638 (by decide) (fun c169 => ?_) (fun c169 => absurd c169 (by decide))
        refine lv_iload hx hb dL_law_2643 (lv_at hl 1 rfl) ?_
        refine lv_if_ne (tgt := 2660) hx hb dL_law_2645 (by decide) (fun c170 => absurd c170 (by decide)) (fun c170 => ?_)
        refine lv_aload_n hx hb dL_law_2648 rfl (lv_at hl 5 rfl) ?_
        refine lv_iconst (v := 0) hx hb dL_law_2649 (by decide) ?_
        refine va_lald hx hb hK hP 0 0 rfl rfl (show vp_in 0 1 from by unfold vp_in; decide) dL_law_2650 ?_
        refine lv_topl (fun x171 ex171 => ?_)
        obtain rfl : 0 = x171 := (ex171.trans q113).symm
        refine lv_iload hx hb dL_law_2651 (lv_at hl 0 rfl) ?_
        refine lv_i2l hx hb dL_law_2653 rfl ?_
        refine lv_topl (fun x172 ex172 => ?_)
        obtain rfl : x172 = 0 := ex172.trans (by decide)
        refine W.lcmp hx hb dL_law_2654  ?_
        refine lv_topi (fun x173 ex173 => ?_)
        obtain rfl : x173 = 0 := ex173.trans (by decide)
        refine lv_if_eq (tgt := 2660) hx hb dL_law_2655 (by decide) (fun c174 => ?_) (fun c174 => absurd c174 (by decide))
        refine lv_goto (tgt := 3111) hx hb dL_law_2660 (by decide) ?_
        exact lw_end hst C0 hA hAf hZ hY (Nat.le_of_ble_eq_true rfl) (Nat.le_of_ble_eq_true rfl) dC dI P0k P0 D0 hS ls (lv_sub hl [2, 6] rfl)

set_option maxRecDepth 20000 in
theorem g_lk_41_z_X11_facts_280 : GoodIn lwW (wsV RL 280 RX11 yX11_facts w_z_X11_facts) := goodIn_app (goodIn_sub (ws := ([.methodLink RL 280 yX11_facts, .instanceMethod yX11_facts, .selects RX11 yX11_facts yX11_facts, .initialized RX11] : List Cond)) (gm_c (gm_at lwV_84_in 9 rfl) (gm_c (gm_at lwV_84_in 10 rfl) (gm_c (gm_at lwV_84_in 11 rfl) (gm_c (gm_at lwV_0_in 3 rfl) gm_nil)))) (by decide +kernel)) (goodIn_ca (goodIn_sub (ws := .code yX11_facts cX11_facts 2 (some .int) :: l_z_X11_facts) (gm_c (gm_at lwV_85_in 3 rfl) (gm_c (gm_at lwV_80_in 0 rfl) (gm_c (gm_at lwV_81_in 0 rfl) gm_nil))) (by decide +kernel)) (goodIn_app (goodIn_in il_X11 gd_X11) (goodIn_in il_X7 gd_X7)))
set_option maxRecDepth 20000 in
theorem g_lk_41_z_X12_facts_283 : GoodIn lwW (wsV RL 283 RX12 yX12_facts w_z_X12_facts) := goodIn_app (goodIn_sub (ws := ([.methodLink RL 283 yX12_facts, .instanceMethod yX12_facts, .selects RX12 yX12_facts yX12_facts, .initialized RX12] : List Cond)) (gm_c (gm_at lwV_85_in 0 rfl) (gm_c (gm_at lwV_85_in 1 rfl) (gm_c (gm_at lwV_85_in 2 rfl) (gm_c (gm_at lwV_0_in 7 rfl) gm_nil)))) (by decide +kernel)) (goodIn_ca (goodIn_sub (ws := .code yX12_facts cX12_facts 2 (some .int) :: l_z_X12_facts) (gm_c (gm_at lwV_85_in 4 rfl) (gm_c (gm_at lwV_1_in 5 rfl) (gm_c (gm_at lwV_84_in 0 rfl) gm_nil))) (by decide +kernel)) (goodIn_in il_X12 gd_X12))
set_option maxHeartbeats 4000000 in
set_option maxRecDepth 100000 in
/-- the law, one call: facts -/
theorem lk_41 {p : Program} {l : Launch} {e : Env} {s : State} {m : MethodId} {below : List Frame} {meth : Method} {c : Code} {b : Nat} {xs : Nat → Int32} (hst : l.stackTraces = false) (C0 : lw_At p s m meth c b 6 xs) {A : Nat → Prop} (hA : ∀ q : Nat, s.heap.size ≤ q → A q) (hAf : ∀ q : Nat, A q → s.heap.size ≤ q) (hZ : Zz A s) (hY : Yy s) (dC : Nat → ClassId) (dI : Nat → Nat → Nat) (aX : Nat) (fsX : List Value) (aR : Nat) (fsR : List Value) (aZ : Nat) (fsZ : List Value) (qO : Nat) (w1 : Int32) (hw1 : w1 = xs (1 : Int32).toNatClampNeg) (w2 : Int32) (hw2 : w2 = xs (2 : Int32).toNatClampNeg) (w3 : Int32) (hw3 : w3 = xs (3 : Int32).toNatClampNeg) (w4 : Int32) (hw4 : w4 = xs (4 : Int32).toNatClampNeg) (w5 : Int32) (hw5 : w5 = xs (5 : Int32).toNatClampNeg) (k_fsX : fh fsX 18 [(11, .ref aR)]) (k_fsR : fh fsR 21 [(16, .int 0)]) (k_fsZ : fh fsZ 150 [(133, .int 0)])  {H : Heap} {locs : List Loc} (hK : va_K (dC, dI) vwCl [] s) (hP : va_P (dC, dI) vwCl [(aX, .inr (14, fsX)), (aR, .inr (10, fsR)), (aZ, .inr (15, fsZ))] H) (hD : va_D A [(aX, .inr (14, fsX)), (aR, .inr (10, fsR)), (aZ, .inr (15, fsZ))]) (hS : va_S A s.heap H locs) (ls : Array Slot) (hl : lv_has ls 8 [(0, .ref b), (1, .ref aX), (2, .ref aZ), (3, .ref qO), (4, .int 0)]) : W p l e room_1 s m #[Value.ref b] below meth c H locs 390 571359 (lw_Z below #[Value.ref b] s) (F0 m 2663 ls []) := by
  obtain ⟨hx, hb, hr, hml, hown0, hts0, hX, hbl, hlocks, hgv⟩ := id C0
  have hown : s.vm.findClass RL = some m.cls := hown0
  have hts : ∀ w ∈ lwW, w.before #[Value.ref b] s = true := fun w h => hts0 w (lwW_in w h)
  have hbA : ¬ A b := fun h => absurd (hAf b h) (Nat.not_le.mpr hbl)
  have o_fsX := ow_0 k_fsX
  have o_fsR := ow_0 k_fsR
  have o_fsZ := ow_0 k_fsZ
  refine lv_aload_n hx hb dL_law_2663 rfl (lv_at hl 1 rfl) ?_
  refine lv_aload_n hx hb dL_law_2664 rfl (lv_at hl 0 rfl) ?_
  refine lv_iload hx hb dL_law_2665 (lv_at hl 4 rfl) ?_
  refine lv_iconst (v := 1) hx hb dL_law_2667 (by decide) ?_
  refine lv_iadd hx hb dL_law_2668  ?_
  refine lv_topi (fun x101 ex101 => ?_)
  obtain rfl : x101 = 1 := ex101.trans (by decide)
  refine va_sld hx hb hX hbl hbA hS (show vp_in 1 6 from by unfold vp_in; decide) dL_law_2669 ?_
  refine lv_topi (fun x102 ex102 => ?_)
  obtain rfl : w1 = x102 := hw1.trans ex102.symm
  have hPc := hP.sub (ws' := [(aX, .inr (14, fsX)), (aR, .inr (10, fsR))]) [0, 1] rfl
  have hDc := hD.sub (ws' := [(aX, .inr (14, fsX)), (aR, .inr (10, fsR))]) [0, 1] (by decide) rfl
  have hKc := hK.sub (tys' := []) [] rfl
  have hFc := va_free (wc := [(aX, .inr (14, fsX)), (aR, .inr (10, fsR))]) hD hS hA [0, 1] rfl
  refine va_calli (va_runV (As := [.int w1]) (rest := []) ⟨hx, hb, hml, hown, hts⟩ (z_X11_facts l dC dI H.size aX fsX aR fsR w1 (fh_sub o_fsX.2 [0] rfl) (fh_sub o_fsR.2 [0] rfl) ) (cwV 1 hts g_lk_41_z_X11_facts_280 rfl rfl rfl (by decide +kernel) ⟨Nat.le_of_ble_eq_true rfl, Nat.le_of_ble_eq_true rfl⟩) ⟨fun a U g mk q => by obtain ⟨q0, q1, qP, qK, qD⟩ := q; exact ⟨q0, q1, qP, va_K.moved (u := U) (U := U.calling g mk a) (Vm.Alike.refl U.vm) qK, qD⟩, va_recv hK hP (ci := 14) (q0 := 0) rfl rfl, fun U hU hW => ⟨rfl, by rw [hU], by rw [hU]; exact hPc, va_K.moved hW.alike hKc, hDc.weaken (fun _ _ _ _ => trivial)⟩⟩ rfl rfl hl.1 rfl (lv_room (Nat.le_of_ble_eq_true rfl)) dL_law_2670 ⟨Nat.le_of_ble_eq_true rfl, Nat.le_of_ble_eq_true rfl⟩) hS (fun q _ h => hFc q h) hFc (fun r103 u t H1 locs ht hvm hw hB hz1 hk1 hS => ?_)
  obtain ⟨hP1, hK1, hD1⟩ := hB
  rw [ht] at hP1
  try dsimp only at hw
  obtain ⟨hP, hD⟩ := va_join (wr := [(aZ, .inr (15, fsZ))]) (w1 := [(aX, .inr (14, fsX)), (aR, .inr (10, fsR))]) hP hD [0, 1] [2] rfl rfl (by decide) (by decide) hk1 hFc hP1 hD1
  have hK := hK.sub (tys' := []) [] rfl
  generalize H1 = H at hP hS ⊢
  have hP : va_P (dC, dI) vwCl [(aZ, .inr (15, fsZ)), (aX, .inr (14, fsX)), (aR, .inr (10, fsR))] H := hP
  have hD : va_D A [(aZ, .inr (15, fsZ)), (aX, .inr (14, fsX)), (aR, .inr (10, fsR))] := hD
  rcases hw with ⟨c104, er105⟩ | ⟨c106, c107, er108⟩
  · skip
    subst er105
    refine lv_aload_n hx hb dL_law_2673 rfl (lv_at hl 2 rfl) ?_
    refine lv_aload_n hx hb dL_law_2674 rfl (lv_at hl 0 rfl) ?_
    refine lv_iload hx hb dL_law_2675 (lv_at hl 4 rfl) ?_
    refine lv_iconst (v := 1) hx hb dL_law_2677 (by decide) ?_
    refine lv_iadd hx hb dL_law_2678  ?_
    refine lv_topi (fun x109 ex109 => ?_)
    obtain rfl : x109 = 1 := ex109.trans (by decide)
    refine va_sld hx hb hX hbl hbA hS (show vp_in 1 6 from by unfold vp_in; decide) dL_law_2679 ?_
    refine lv_topi (fun x110 ex110 => ?_)
    obtain rfl : w1 = x110 := hw1.trans ex110.symm
    have hPc := hP.sub (ws' := [(aZ, .inr (15, fsZ))]) [0] rfl
    have hDc := hD.sub (ws' := [(aZ, .inr (15, fsZ))]) [0] (by decide) rfl
    have hKc := hK.sub (tys' := []) [] rfl
    have hFc := va_free (wc := [(aZ, .inr (15, fsZ))]) hD hS hA [0] rfl
    refine va_calli (va_runV (As := [.int w1]) (rest := [.int (-1)]) ⟨hx, hb, hml, hown, hts⟩ (z_X12_facts l dC dI H.size aZ fsZ w1 (fh_sub o_fsZ.2 [0] rfl) ) (cwV 1 hts g_lk_41_z_X12_facts_283 rfl rfl rfl (by decide +kernel) ⟨Nat.le_of_ble_eq_true rfl, Nat.le_of_ble_eq_true rfl⟩) ⟨fun a U g mk q => by obtain ⟨q0, q1, qP, qK, qD⟩ := q; exact ⟨q0, q1, qP, va_K.moved (u := U) (U := U.calling g mk a) (Vm.Alike.refl U.vm) qK, qD⟩, va_recv hK hP (ci := 15) (q0 := 0) rfl rfl, fun U hU hW => ⟨rfl, by rw [hU], by rw [hU]; exact hPc, va_K.moved hW.alike hKc, hDc.weaken (fun _ _ _ _ => trivial)⟩⟩ rfl rfl hl.1 rfl (lv_room (Nat.le_of_ble_eq_true rfl)) dL_law_2680 ⟨Nat.le_of_ble_eq_true rfl, Nat.le_of_ble_eq_true rfl⟩) hS (fun q _ h => hFc q h) hFc (fun r111 u t H1 locs ht hvm hw hB hz1 hk1 hS => ?_)
    obtain ⟨s112, rfl⟩ : ∃ z, z = u := ⟨_, rfl⟩
    obtain ⟨hP1, hK1, hD1⟩ := hB
    rw [ht] at hP1
    try dsimp only at hw
    obtain ⟨hP, hD⟩ := va_join (wr := [(aX, .inr (14, fsX)), (aR, .inr (10, fsR))]) (w1 := [(aZ, .inr (15, s112))]) hP hD [0] [1, 2] rfl rfl (by decide) (by decide) hk1 hFc hP1 hD1
    have hK := hK.sub (tys' := []) [] rfl
    generalize H1 = H at hP hS ⊢
    have hP : va_P (dC, dI) vwCl [(aX, .inr (14, fsX)), (aR, .inr (10, fsR)), (aZ, .inr (15, s112))] H := hP
    have hD : va_D A [(aX, .inr (14, fsX)), (aR, .inr (10, fsR)), (aZ, .inr (15, s112))] := hD
    rcases hw with ⟨c113, er114, o_s112⟩ | ⟨c115, c116, er117, o_s112⟩
    · skip
      subst er114
      have o_s112 := ow_on o_fsZ o_s112 (l' := [(0, .int 0), (133, .int 0), (133, .int 0)]) (w' := [0]) rfl rfl
      refine lv_icmp_eq (tgt := 3111) hx hb dL_law_2683 (by decide) (fun c118 => ?_) (fun c118 => absurd c118 (by decide))
      exact lw_end hst C0 hA hAf hZ hY (Nat.le_of_ble_eq_true rfl) (Nat.le_of_ble_eq_true rfl) dC dI P0k P0 D0 hS ls (lv_sub hl [0, 4] rfl)
    · exact (by exfalso; (try simp only [i_lt, i_le, i_eq, kc_0] at c104 c115 c116); omega)
  · skip
    subst er108
    refine lv_aload_n hx hb dL_law_2673 rfl (lv_at hl 2 rfl) ?_
    refine lv_aload_n hx hb dL_law_2674 rfl (lv_at hl 0 rfl) ?_
    refine lv_iload hx hb dL_law_2675 (lv_at hl 4 rfl) ?_
    refine lv_iconst (v := 1) hx hb dL_law_2677 (by decide) ?_
    refine lv_iadd hx hb dL_law_2678  ?_
    refine lv_topi (fun x119 ex119 => ?_)
    obtain rfl : x119 = 1 := ex119.trans (by decide)
    refine va_sld hx hb hX hbl hbA hS (show vp_in 1 6 from by unfold vp_in; decide) dL_law_2679 ?_
    refine lv_topi (fun x120 ex120 => ?_)
    obtain rfl : w1 = x120 := hw1.trans ex120.symm
    have hPc := hP.sub (ws' := [(aZ, .inr (15, fsZ))]) [0] rfl
    have hDc := hD.sub (ws' := [(aZ, .inr (15, fsZ))]) [0] (by decide) rfl
    have hKc := hK.sub (tys' := []) [] rfl
    have hFc := va_free (wc := [(aZ, .inr (15, fsZ))]) hD hS hA [0] rfl
    refine va_calli (va_runV (As := [.int w1]) (rest := [.int (-1)]) ⟨hx, hb, hml, hown, hts⟩ (z_X12_facts l dC dI H.size aZ fsZ w1 (fh_sub o_fsZ.2 [0] rfl) ) (cwV 1 hts g_lk_41_z_X12_facts_283 rfl rfl rfl (by decide +kernel) ⟨Nat.le_of_ble_eq_true rfl, Nat.le_of_ble_eq_true rfl⟩) ⟨fun a U g mk q => by obtain ⟨q0, q1, qP, qK, qD⟩ := q; exact ⟨q0, q1, qP, va_K.moved (u := U) (U := U.calling g mk a) (Vm.Alike.refl U.vm) qK, qD⟩, va_recv hK hP (ci := 15) (q0 := 0) rfl rfl, fun U hU hW => ⟨rfl, by rw [hU], by rw [hU]; exact hPc, va_K.moved hW.alike hKc, hDc.weaken (fun _ _ _ _ => trivial)⟩⟩ rfl rfl hl.1 rfl (lv_room (Nat.le_of_ble_eq_true rfl)) dL_law_2680 ⟨Nat.le_of_ble_eq_true rfl, Nat.le_of_ble_eq_true rfl⟩) hS (fun q _ h => hFc q h) hFc (fun r121 u t H1 locs ht hvm hw hB hz1 hk1 hS => ?_)
    obtain ⟨s122, rfl⟩ : ∃ z, z = u := ⟨_, rfl⟩
    obtain ⟨hP1, hK1, hD1⟩ := hB
    rw [ht] at hP1
    try dsimp only at hw
    obtain ⟨hP, hD⟩ := va_join (wr := [(aX, .inr (14, fsX)), (aR, .inr (10, fsR))]) (w1 := [(aZ, .inr (15, s122))]) hP hD [0] [1, 2] rfl rfl (by decide) (by decide) hk1 hFc hP1 hD1
    have hK := hK.sub (tys' := []) [] rfl
    generalize H1 = H at hP hS ⊢
    have hP : va_P (dC, dI) vwCl [(aX, .inr (14, fsX)), (aR, .inr (10, fsR)), (aZ, .inr (15, s122))] H := hP
    have hD : va_D A [(aX, .inr (14, fsX)), (aR, .inr (10, fsR)), (aZ, .inr (15, s122))] := hD
    rcases hw with ⟨c123, er124, o_s122⟩ | ⟨c125, c126, er127, o_s122⟩
    · exact (by exfalso; (try simp only [i_lt, i_le, i_eq, kc_0] at c106 c107 c123); omega)
    · skip
      subst er127
      have o_s122 := ow_on o_fsZ o_s122 (l' := [(0, .int 0), (133, .int 0), (133, .int 0)]) (w' := [0]) rfl rfl
      refine lv_icmp_eq (tgt := 3111) hx hb dL_law_2683 (by decide) (fun c128 => ?_) (fun c128 => absurd c128 (by decide))
      exact lw_end hst C0 hA hAf hZ hY (Nat.le_of_ble_eq_true rfl) (Nat.le_of_ble_eq_true rfl) dC dI P0k P0 D0 hS ls (lv_sub hl [0, 4] rfl)

set_option maxRecDepth 20000 in
theorem g_lk_42_z_L_isFact_284 : GoodIn lwW (va_wsS RL 284 yL_isFact w_z_L_isFact) := goodIn_app (goodIn_sub (ws := ([.methodLink RL 284 yL_isFact, .static yL_isFact, .initialized RL] : List Cond)) (gm_c (gm_at lwV_85_in 5 rfl) (gm_c (gm_at lwV_85_in 6 rfl) (gm_c (gm_at lwV_5_in 10 rfl) gm_nil))) (by decide +kernel)) (goodIn_ca (goodIn_sub (ws := .codeWith yL_isFact cL_isFact 6 (some .int) [(0, 19, 22, 30)] :: l_z_L_isFact) (gm_c (gm_at lwV_85_in 10 rfl) (gm_c (gm_at lwV_85_in 11 rfl) (gm_c (gm_at lwV_86_in 0 rfl) (gm_c (gm_at lwV_86_in 1 rfl) (gm_c (gm_at lwV_0_in 3 rfl) (gm_c (gm_at lwV_19_in 11 rfl) (gm_c (gm_at lwV_86_in 2 rfl) (gm_c (gm_at lwV_20_in 4 rfl) (gm_c (gm_at lwV_20_in 5 rfl) (gm_c (gm_at lwV_80_in 0 rfl) (gm_c (gm_at lwV_81_in 0 rfl) gm_nil))))))))))) (by decide +kernel)) (goodIn_app (goodIn_in il_at0_X11_223 gd_at0_X11_223) (goodIn_app (goodIn_in il_X11 gd_X11) (goodIn_in il_X7 gd_X7))))
set_option maxRecDepth 20000 in
theorem g_lk_42_z_X12_isFact_286 : GoodIn lwW (wsV RL 286 RX12 yX12_isFact w_z_X12_isFact) := goodIn_app (goodIn_sub (ws := ([.methodLink RL 286 yX12_isFact, .instanceMethod yX12_isFact, .selects RX12 yX12_isFact yX12_isFact, .initialized RX12] : List Cond)) (gm_c (gm_at lwV_85_in 7 rfl) (gm_c (gm_at lwV_85_in 8 rfl) (gm_c (gm_at lwV_85_in 9 rfl) (gm_c (gm_at lwV_0_in 7 rfl) gm_nil)))) (by decide +kernel)) (goodIn_ca (goodIn_sub (ws := .code yX12_isFact cX12_isFact 5 (some .boolean) :: l_z_X12_isFact) (gm_c (gm_at lwV_86_in 3 rfl) (gm_c (gm_at lwV_1_in 5 rfl) (gm_c (gm_at lwV_84_in 0 rfl) gm_nil))) (by decide +kernel)) (goodIn_in il_X12 gd_X12))
set_option maxRecDepth 20000 in
theorem g_lk_42_z_X12_thrown_149 : GoodIn lwW (wsV RL 149 RX12 yX12_thrown w_z_X12_thrown) := goodIn_app (goodIn_sub (ws := ([.methodLink RL 149 yX12_thrown, .instanceMethod yX12_thrown, .selects RX12 yX12_thrown yX12_thrown, .initialized RX12] : List Cond)) (gm_c (gm_at lwV_6_in 2 rfl) (gm_c (gm_at lwV_6_in 3 rfl) (gm_c (gm_at lwV_6_in 4 rfl) (gm_c (gm_at lwV_0_in 7 rfl) gm_nil)))) (by decide +kernel)) (goodIn_ca (goodIn_sub (ws := .code yX12_thrown cX12_thrown 1 (some .int) :: l_z_X12_thrown) (gm_c (gm_at lwV_9_in 9 rfl) (gm_c (gm_at lwV_1_in 5 rfl) gm_nil)) (by decide +kernel)) (goodIn_in il_X12 gd_X12))
set_option maxHeartbeats 4000000 in
set_option maxRecDepth 100000 in
/-- the law, one call: isFact -/
theorem lk_42 {p : Program} {l : Launch} {e : Env} {s : State} {m : MethodId} {below : List Frame} {meth : Method} {c : Code} {b : Nat} {xs : Nat → Int32} (hst : l.stackTraces = false) (C0 : lw_At p s m meth c b 6 xs) {A : Nat → Prop} (hA : ∀ q : Nat, s.heap.size ≤ q → A q) (hAf : ∀ q : Nat, A q → s.heap.size ≤ q) (hZ : Zz A s) (hY : Yy s) (dC : Nat → ClassId) (dI : Nat → Nat → Nat) (aX : Nat) (fsX : List Value) (aR : Nat) (fsR : List Value) (aZ : Nat) (fsZ : List Value) (qO : Nat) (w1 : Int32) (hw1 : w1 = xs (1 : Int32).toNatClampNeg) (w2 : Int32) (hw2 : w2 = xs (2 : Int32).toNatClampNeg) (w3 : Int32) (hw3 : w3 = xs (3 : Int32).toNatClampNeg) (w4 : Int32) (hw4 : w4 = xs (4 : Int32).toNatClampNeg) (w5 : Int32) (hw5 : w5 = xs (5 : Int32).toNatClampNeg) (k_fsX : fh fsX 18 [(11, .ref aR)]) (k_fsR : fh fsR 21 [(16, .int 0)]) (k_fsZ : fh fsZ 150 [(0, .int 0), (133, .int 0)])  {H : Heap} {locs : List Loc} (hK : va_K (dC, dI) vwCl [] s) (hP : va_P (dC, dI) vwCl [(aX, .inr (14, fsX)), (aR, .inr (10, fsR)), (aZ, .inr (15, fsZ))] H) (hD : va_D A [(aX, .inr (14, fsX)), (aR, .inr (10, fsR)), (aZ, .inr (15, fsZ))]) (hS : va_S A s.heap H locs) (ls : Array Slot) (hl : lv_has ls 8 [(0, .ref b), (1, .ref aX), (2, .ref aZ), (3, .ref qO), (4, .int 0)]) : W p l e room_1 s m #[Value.ref b] below meth c H locs 390 571359 (lw_Z below #[Value.ref b] s) (F0 m 2688 ls []) := by
  obtain ⟨hx, hb, hr, hml, hown0, hts0, hX, hbl, hlocks, hgv⟩ := id C0
  have hown : s.vm.findClass RL = some m.cls := hown0
  have hts : ∀ w ∈ lwW, w.before #[Value.ref b] s = true := fun w h => hts0 w (lwW_in w h)
  have hbA : ¬ A b := fun h => absurd (hAf b h) (Nat.not_le.mpr hbl)
  have o_fsX := ow_0 k_fsX
  have o_fsR := ow_0 k_fsR
  have o_fsZ := ow_0 k_fsZ
  refine lv_aload_n hx hb dL_law_2688 rfl (lv_at hl 1 rfl) ?_
  refine lv_aload_n hx hb dL_law_2689 rfl (lv_at hl 0 rfl) ?_
  refine lv_iload hx hb dL_law_2690 (lv_at hl 4 rfl) ?_
  refine lv_iconst (v := 1) hx hb dL_law_2692 (by decide) ?_
  refine lv_iadd hx hb dL_law_2693  ?_
  refine lv_topi (fun x101 ex101 => ?_)
  obtain rfl : x101 = 1 := ex101.trans (by decide)
  refine va_sld hx hb hX hbl hbA hS (show vp_in 1 6 from by unfold vp_in; decide) dL_law_2694 ?_
  refine lv_topi (fun x102 ex102 => ?_)
  obtain rfl : w1 = x102 := hw1.trans ex102.symm
  refine lv_aload_n hx hb dL_law_2695 rfl (lv_at hl 0 rfl) ?_
  refine lv_iload hx hb dL_law_2696 (lv_at hl 4 rfl) ?_
  refine lv_iconst (v := 2) hx hb dL_law_2698 (by decide) ?_
  refine lv_iadd hx hb dL_law_2699  ?_
  refine lv_topi (fun x103 ex103 => ?_)
  obtain rfl : x103 = 2 := ex103.trans (by decide)
  refine va_sld hx hb hX hbl hbA hS (show vp_in 2 6 from by unfold vp_in; decide) dL_law_2700 ?_
  refine lv_topi (fun x104 ex104 => ?_)
  obtain rfl : w2 = x104 := hw2.trans ex104.symm
  refine lv_aload_n hx hb dL_law_2701 rfl (lv_at hl 0 rfl) ?_
  refine lv_iload hx hb dL_law_2702 (lv_at hl 4 rfl) ?_
  refine lv_iconst (v := 3) hx hb dL_law_2704 (by decide) ?_
  refine lv_iadd hx hb dL_law_2705  ?_
  refine lv_topi (fun x105 ex105 => ?_)
  obtain rfl : x105 = 3 := ex105.trans (by decide)
  refine va_sld hx hb hX hbl hbA hS (show vp_in 3 6 from by unfold vp_in; decide) dL_law_2706 ?_
  refine lv_topi (fun x106 ex106 => ?_)
  obtain rfl : w3 = x106 := hw3.trans ex106.symm
  refine lv_aload_n hx hb dL_law_2707 rfl (lv_at hl 3 rfl) ?_
  have hPc := hP.sub (ws' := [(aX, .inr (14, fsX)), (aR, .inr (10, fsR))]) [0, 1] rfl
  have hDc := hD.sub (ws' := [(aX, .inr (14, fsX)), (aR, .inr (10, fsR))]) [0, 1] (by decide) rfl
  have hKc := hK.sub (tys' := []) [] rfl
  have hFc := va_free (wc := [(aX, .inr (14, fsX)), (aR, .inr (10, fsR))]) hD hS hA [0, 1] rfl
  refine vx_calli (vx_runSX (As := [.ref aX, .int w1, .int w2, .int w3, .ref qO]) (rest := []) ⟨hx, hb, hml, hown, hts⟩ (z_L_isFact l dC dI H.size aX fsX aR fsR w1 w2 w3 qO (fh_sub o_fsX.2 [0] rfl) (fh_sub o_fsR.2 [0] rfl) hst ) (vx_cwSW 5 hts g_lk_42_z_L_isFact_284 rfl rfl rfl (by decide +kernel) ⟨Nat.le_of_ble_eq_true rfl, Nat.le_of_ble_eq_true rfl⟩) ⟨fun a U g mk q => by obtain ⟨q0, q1, qZ, qY, qP, qK, qD⟩ := q; exact ⟨q0, q1, Zz_call qZ, Yy_call qY, qP, va_K.moved (u := U) (U := U.calling g mk a) (Vm.Alike.refl U.vm) qK, qD⟩, fun U hU hW => ⟨rfl, by rw [hU], Zz_go hZ hS hFc hU hW, Yy_go hY hW, by rw [hU]; exact hPc, va_K.moved hW.alike hKc, hDc.weaken (fun _ _ _ _ => trivial)⟩⟩ rfl rfl hl.1 rfl (lv_room (Nat.le_of_ble_eq_true rfl)) dL_law_2708 ⟨Nat.le_of_ble_eq_true rfl, Nat.le_of_ble_eq_true rfl⟩) hS (fun q _ h => hFc q h) hFc (fun q _ h => hFc q h) (fun E ce q9 u t H1 locs ht hvm hpx hBX hz1 hk1 hS hce hcv hcl => ?_) (fun r107 u t H1 locs ht hvm hw hB hz1 hk1 hS => ?_)
  · exact False.elim hBX
  · skip
    obtain ⟨hP1, hK1, hD1⟩ := hB
    rw [ht] at hP1
    try dsimp only at hw
    obtain ⟨hP, hD⟩ := va_join (wr := [(aZ, .inr (15, fsZ))]) (w1 := []) hP hD [0, 1] [2] rfl rfl (by decide) (by decide) hk1 hFc hP1 hD1
    have hK := hK.sub (tys' := []) [] rfl
    generalize H1 = H at hP hS ⊢
    refine W.widen (k := 391) (n := 571365) (by omega) (by omega) ?_
    have hP : va_P (dC, dI) vwCl [(aZ, .inr (15, fsZ))] H := hP
    have hD : va_D A [(aZ, .inr (15, fsZ))] := hD
    rcases hw with ⟨c108, er109⟩ | ⟨c110, c111, er112⟩
    · skip
      subst er109
      refine lv_istore (lv' := [(5, .int 1), (0, .ref b), (1, .ref aX), (2, .ref aZ), (3, .ref qO), (4, .int 0)]) hx hb dL_law_2711 hl (by decide) rfl (fun ls hl => ?_)
      refine lv_aload_n hx hb dL_law_2713 rfl (lv_at hl 3 rfl) ?_
      refine lv_aload_n hx hb dL_law_2714 rfl (lv_at hl 1 rfl) ?_
      refine lv_iload hx hb dL_law_2715 (lv_at hl 5 rfl) ?_
      refine lv_iconst (v := 1) hx hb dL_law_2717 (by decide) ?_
      refine lv_iadd hx hb dL_law_2718  ?_
      refine lv_topi (fun x113 ex113 => ?_)
      obtain rfl : x113 = 1 := ex113.trans (by decide)
      refine va_sld hx hb hX hbl hbA hS (show vp_in 1 6 from by unfold vp_in; decide) dL_law_2719 ?_
      refine lv_topi (fun x114 ex114 => ?_)
      obtain rfl : w1 = x114 := hw1.trans ex114.symm
      refine lv_aload_n hx hb dL_law_2720 rfl (lv_at hl 1 rfl) ?_
      refine lv_iload hx hb dL_law_2721 (lv_at hl 5 rfl) ?_
      refine lv_iconst (v := 2) hx hb dL_law_2723 (by decide) ?_
      refine lv_iadd hx hb dL_law_2724  ?_
      refine lv_topi (fun x115 ex115 => ?_)
      obtain rfl : x115 = 2 := ex115.trans (by decide)
      refine va_sld hx hb hX hbl hbA hS (show vp_in 2 6 from by unfold vp_in; decide) dL_law_2725 ?_
      refine lv_topi (fun x116 ex116 => ?_)
      obtain rfl : w2 = x116 := hw2.trans ex116.symm
      refine lv_aload_n hx hb dL_law_2726 rfl (lv_at hl 1 rfl) ?_
      refine lv_iload hx hb dL_law_2727 (lv_at hl 5 rfl) ?_
      refine lv_iconst (v := 3) hx hb dL_law_2729 (by decide) ?_
      refine lv_iadd hx hb dL_law_2730  ?_
      refine lv_topi (fun x117 ex117 => ?_)
      obtain rfl : x117 = 3 := ex117.trans (by decide)
      refine va_sld hx hb hX hbl hbA hS (show vp_in 3 6 from by unfold vp_in; decide) dL_law_2731 ?_
      refine lv_topi (fun x118 ex118 => ?_)
      obtain rfl : w3 = x118 := hw3.trans ex118.symm
      have hPc := hP.sub (ws' := [(aZ, .inr (15, fsZ))]) [0] rfl
      have hDc := hD.sub (ws' := [(aZ, .inr (15, fsZ))]) [0] (by decide) rfl
      have hKc := hK.sub (tys' := []) [] rfl
      have hFc := va_free (wc := [(aZ, .inr (15, fsZ))]) hD hS hA [0] rfl
      refine va_calli (va_runV (As := [.int w1, .int w2, .int w3]) (rest := []) ⟨hx, hb, hml, hown, hts⟩ (z_X12_isFact l dC dI H.size aZ fsZ w1 w2 w3 (fh_sub o_fsZ.2 [0, 1] rfl) ) (cwV 3 hts g_lk_42_z_X12_isFact_286 rfl rfl rfl (by decide +kernel) ⟨Nat.le_of_ble_eq_true rfl, Nat.le_of_ble_eq_true rfl⟩) ⟨fun a U g mk q => by obtain ⟨q0, q1, qP, qK, qD⟩ := q; exact ⟨q0, q1, qP, va_K.moved (u := U) (U := U.calling g mk a) (Vm.Alike.refl U.vm) qK, qD⟩, va_recv hK hP (ci := 15) (q0 := 0) rfl rfl, fun U hU hW => ⟨rfl, by rw [hU], by rw [hU]; exact hPc, va_K.moved hW.alike hKc, hDc.weaken (fun _ _ _ _ => trivial)⟩⟩ rfl rfl hl.1 rfl (lv_room (Nat.le_of_ble_eq_true rfl)) dL_law_2732 ⟨Nat.le_of_ble_eq_true rfl, Nat.le_of_ble_eq_true rfl⟩) hS (fun q _ h => hFc q h) hFc (fun r119 u t H1 locs ht hvm hw hB hz1 hk1 hS => ?_)
      obtain ⟨s120, rfl⟩ : ∃ z, z = u := ⟨_, rfl⟩
      obtain ⟨hP1, hK1, hD1⟩ := hB
      rw [ht] at hP1
      try dsimp only at hw
      obtain ⟨hP, hD⟩ := va_join (wr := []) (w1 := [(aZ, .inr (15, s120))]) hP hD [0] [] rfl rfl (by decide) (by decide) hk1 hFc hP1 hD1
      have hK := hK.sub (tys' := []) [] rfl
      generalize H1 = H at hP hS ⊢
      have hP : va_P (dC, dI) vwCl [(aZ, .inr (15, s120))] H := hP
      have hD : va_D A [(aZ, .inr (15, s120))] := hD
      rcases hw with ⟨c121, er122, o_s120⟩ | ⟨c123, c124, er125, o_s120⟩
      · skip
        subst er122
        have o_s120 := ow_on o_fsZ o_s120 (l' := [(0, .int 1), (133, .int 0), (133, .int 0)]) (w' := [0]) rfl rfl
        refine lv_istore (lv' := [(6, .int 0), (5, .int 1), (0, .ref b), (1, .ref aX), (2, .ref aZ), (3, .ref qO), (4, .int 0)]) hx hb dL_law_2735 hl (by decide) rfl (fun ls hl => ?_)
        refine lv_aload_n hx hb dL_law_2737 rfl (lv_at hl 4 rfl) ?_
        have hPc := hP.sub (ws' := [(aZ, .inr (15, s120))]) [0] rfl
        have hDc := hD.sub (ws' := [(aZ, .inr (15, s120))]) [0] (by decide) rfl
        have hKc := hK.sub (tys' := []) [] rfl
        have hFc := va_free (wc := [(aZ, .inr (15, s120))]) hD hS hA [0] rfl
        refine va_calli (va_runV (As := []) (rest := []) ⟨hx, hb, hml, hown, hts⟩ (z_X12_thrown l dC dI H.size aZ s120 (fh_sub o_s120.2 [0] rfl) ) (cwV 0 hts g_lk_42_z_X12_thrown_149 rfl rfl rfl (by decide +kernel) ⟨Nat.le_of_ble_eq_true rfl, Nat.le_of_ble_eq_true rfl⟩) ⟨fun a U g mk q => by obtain ⟨q0, q1, qP, qK, qD⟩ := q; exact ⟨q0, q1, qP, va_K.moved (u := U) (U := U.calling g mk a) (Vm.Alike.refl U.vm) qK, qD⟩, va_recv hK hP (ci := 15) (q0 := 0) rfl rfl, fun U hU hW => ⟨rfl, by rw [hU], by rw [hU]; exact hPc, va_K.moved hW.alike hKc, hDc.weaken (fun _ _ _ _ => trivial)⟩⟩ rfl rfl hl.1 rfl (lv_room (Nat.le_of_ble_eq_true rfl)) dL_law_2738 ⟨Nat.le_of_ble_eq_true rfl, Nat.le_of_ble_eq_true rfl⟩) hS (fun q _ h => hFc q h) hFc (fun r126 u t H1 locs ht hvm hw hB hz1 hk1 hS => ?_)
        obtain ⟨hP1, hK1, hD1⟩ := hB
        rw [ht] at hP1
        try dsimp only at hw
        obtain ⟨hP, hD⟩ := va_join (wr := []) (w1 := [(aZ, .inr (15, s120))]) hP hD [0] [] rfl rfl (by decide) (by decide) hk1 hFc hP1 hD1
        have hK := hK.sub (tys' := []) [] rfl
        generalize H1 = H at hP hS ⊢
        have hP : va_P (dC, dI) vwCl [(aZ, .inr (15, s120))] H := hP
        have hD : va_D A [(aZ, .inr (15, s120))] := hD
        have er127 := hw
        subst er127
        refine lv_iload hx hb dL_law_2741 (lv_at hl 1 rfl) ?_
        refine lv_icmp_eq (tgt := 2748) hx hb dL_law_2743 (by decide) (fun c128 => ?_) (fun c128 => absurd c128 (by decide))
        refine lv_iload hx hb dL_law_2748 (lv_at hl 1 rfl) ?_
        refine lv_if_ne (tgt := 2772) hx hb dL_law_2750 (by decide) (fun c129 => ?_) (fun c129 => absurd c129 (by decide))
        refine lv_goto (tgt := 3111) hx hb dL_law_2772 (by decide) ?_
        exact lw_end hst C0 hA hAf hZ hY (Nat.le_of_ble_eq_true rfl) (Nat.le_of_ble_eq_true rfl) dC dI P0k P0 D0 hS ls (lv_sub hl [2, 6] rfl)
      · exact (by exfalso; (try simp only [i_lt, i_le, i_eq, kc_0] at c108 c123 c124); omega)
    · skip
      subst er112
      refine lv_istore (lv' := [(5, .int 1), (0, .ref b), (1, .ref aX), (2, .ref aZ), (3, .ref qO), (4, .int 0)]) hx hb dL_law_2711 hl (by decide) rfl (fun ls hl => ?_)
      refine lv_aload_n hx hb dL_law_2713 rfl (lv_at hl 3 rfl) ?_
      refine lv_aload_n hx hb dL_law_2714 rfl (lv_at hl 1 rfl) ?_
      refine lv_iload hx hb dL_law_2715 (lv_at hl 5 rfl) ?_
      refine lv_iconst (v := 1) hx hb dL_law_2717 (by decide) ?_
      refine lv_iadd hx hb dL_law_2718  ?_
      refine lv_topi (fun x130 ex130 => ?_)
      obtain rfl : x130 = 1 := ex130.trans (by decide)
      refine va_sld hx hb hX hbl hbA hS (show vp_in 1 6 from by unfold vp_in; decide) dL_law_2719 ?_
      refine lv_topi (fun x131 ex131 => ?_)
      obtain rfl : w1 = x131 := hw1.trans ex131.symm
      refine lv_aload_n hx hb dL_law_2720 rfl (lv_at hl 1 rfl) ?_
      refine lv_iload hx hb dL_law_2721 (lv_at hl 5 rfl) ?_
      refine lv_iconst (v := 2) hx hb dL_law_2723 (by decide) ?_
      refine lv_iadd hx hb dL_law_2724  ?_
      refine lv_topi (fun x132 ex132 => ?_)
      obtain rfl : x132 = 2 := ex132.trans (by decide)
      refine va_sld hx hb hX hbl hbA hS (show vp_in 2 6 from by unfold vp_in; decide) dL_law_2725 ?_
      refine lv_topi (fun x133 ex133 => ?_)
      obtain rfl : w2 = x133 := hw2.trans ex133.symm
      refine lv_aload_n hx hb dL_law_2726 rfl (lv_at hl 1 rfl) ?_
      refine lv_iload hx hb dL_law_2727 (lv_at hl 5 rfl) ?_
      refine lv_iconst (v := 3) hx hb dL_law_2729 (by decide) ?_
      refine lv_iadd hx hb dL_law_2730  ?_
      refine lv_topi (fun x134 ex134 => ?_)
      obtain rfl : x134 = 3 := ex134.trans (by decide)
      refine va_sld hx hb hX hbl hbA hS (show vp_in 3 6 from by unfold vp_in; decide) dL_law_2731 ?_
      refine lv_topi (fun x135 ex135 => ?_)
      obtain rfl : w3 = x135 := hw3.trans ex135.symm
      have hPc := hP.sub (ws' := [(aZ, .inr (15, fsZ))]) [0] rfl
      have hDc := hD.sub (ws' := [(aZ, .inr (15, fsZ))]) [0] (by decide) rfl
      have hKc := hK.sub (tys' := []) [] rfl
      have hFc := va_free (wc := [(aZ, .inr (15, fsZ))]) hD hS hA [0] rfl
      refine va_calli (va_runV (As := [.int w1, .int w2, .int w3]) (rest := []) ⟨hx, hb, hml, hown, hts⟩ (z_X12_isFact l dC dI H.size aZ fsZ w1 w2 w3 (fh_sub o_fsZ.2 [0, 1] rfl) ) (cwV 3 hts g_lk_42_z_X12_isFact_286 rfl rfl rfl (by decide +kernel) ⟨Nat.le_of_ble_eq_true rfl, Nat.le_of_ble_eq_true rfl⟩) ⟨fun a U g mk q => by obtain ⟨q0, q1, qP, qK, qD⟩ := q; exact ⟨q0, q1, qP, va_K.moved (u := U) (U := U.calling g mk a) (Vm.Alike.refl U.vm) qK, qD⟩, va_recv hK hP (ci := 15) (q0 := 0) rfl rfl, fun U hU hW => ⟨rfl, by rw [hU], by rw [hU]; exact hPc, va_K.moved hW.alike hKc, hDc.weaken (fun _ _ _ _ => trivial)⟩⟩ rfl rfl hl.1 rfl (lv_room (Nat.le_of_ble_eq_true rfl)) dL_law_2732 ⟨Nat.le_of_ble_eq_true rfl, Nat.le_of_ble_eq_true rfl⟩) hS (fun q _ h => hFc q h) hFc (fun r136 u t H1 locs ht hvm hw hB hz1 hk1 hS => ?_)
      obtain ⟨s137, rfl⟩ : ∃ z, z = u := ⟨_, rfl⟩
      obtain ⟨hP1, hK1, hD1⟩ := hB
      rw [ht] at hP1
      try dsimp only at hw
      obtain ⟨hP, hD⟩ := va_join (wr := []) (w1 := [(aZ, .inr (15, s137))]) hP hD [0] [] rfl rfl (by decide) (by decide) hk1 hFc hP1 hD1
      have hK := hK.sub (tys' := []) [] rfl
      generalize H1 = H at hP hS ⊢
      have hP : va_P (dC, dI) vwCl [(aZ, .inr (15, s137))] H := hP
      have hD : va_D A [(aZ, .inr (15, s137))] := hD
      rcases hw with ⟨c138, er139, o_s137⟩ | ⟨c140, c141, er142, o_s137⟩
      · exact (by exfalso; (try simp only [i_lt, i_le, i_eq, kc_0] at c110 c111 c138); omega)
      · skip
        subst er142
        have o_s137 := ow_on o_fsZ o_s137 (l' := [(0, .int 1), (133, .int 0), (133, .int 0)]) (w' := [0]) rfl rfl
        refine lv_istore (lv' := [(6, .int 0), (5, .int 1), (0, .ref b), (1, .ref aX), (2, .ref aZ), (3, .ref qO), (4, .int 0)]) hx hb dL_law_2735 hl (by decide) rfl (fun ls hl => ?_)
        refine lv_aload_n hx hb dL_law_2737 rfl (lv_at hl 4 rfl) ?_
        have hPc := hP.sub (ws' := [(aZ, .inr (15, s137))]) [0] rfl
        have hDc := hD.sub (ws' := [(aZ, .inr (15, s137))]) [0] (by decide) rfl
        have hKc := hK.sub (tys' := []) [] rfl
        have hFc := va_free (wc := [(aZ, .inr (15, s137))]) hD hS hA [0] rfl
        refine va_calli (va_runV (As := []) (rest := []) ⟨hx, hb, hml, hown, hts⟩ (z_X12_thrown l dC dI H.size aZ s137 (fh_sub o_s137.2 [0] rfl) ) (cwV 0 hts g_lk_42_z_X12_thrown_149 rfl rfl rfl (by decide +kernel) ⟨Nat.le_of_ble_eq_true rfl, Nat.le_of_ble_eq_true rfl⟩) ⟨fun a U g mk q => by obtain ⟨q0, q1, qP, qK, qD⟩ := q; exact ⟨q0, q1, qP, va_K.moved (u := U) (U := U.calling g mk a) (Vm.Alike.refl U.vm) qK, qD⟩, va_recv hK hP (ci := 15) (q0 := 0) rfl rfl, fun U hU hW => ⟨rfl, by rw [hU], by rw [hU]; exact hPc, va_K.moved hW.alike hKc, hDc.weaken (fun _ _ _ _ => trivial)⟩⟩ rfl rfl hl.1 rfl (lv_room (Nat.le_of_ble_eq_true rfl)) dL_law_2738 ⟨Nat.le_of_ble_eq_true rfl, Nat.le_of_ble_eq_true rfl⟩) hS (fun q _ h => hFc q h) hFc (fun r143 u t H1 locs ht hvm hw hB hz1 hk1 hS => ?_)
        obtain ⟨hP1, hK1, hD1⟩ := hB
        rw [ht] at hP1
        try dsimp only at hw
        obtain ⟨hP, hD⟩ := va_join (wr := []) (w1 := [(aZ, .inr (15, s137))]) hP hD [0] [] rfl rfl (by decide) (by decide) hk1 hFc hP1 hD1
        have hK := hK.sub (tys' := []) [] rfl
        generalize H1 = H at hP hS ⊢
        have hP : va_P (dC, dI) vwCl [(aZ, .inr (15, s137))] H := hP
        have hD : va_D A [(aZ, .inr (15, s137))] := hD
        have er144 := hw
        subst er144
        refine lv_iload hx hb dL_law_2741 (lv_at hl 1 rfl) ?_
        refine lv_icmp_eq (tgt := 2748) hx hb dL_law_2743 (by decide) (fun c145 => ?_) (fun c145 => absurd c145 (by decide))
        refine lv_iload hx hb dL_law_2748 (lv_at hl 1 rfl) ?_
        refine lv_if_ne (tgt := 2772) hx hb dL_law_2750 (by decide) (fun c146 => ?_) (fun c146 => absurd c146 (by decide))
        refine lv_goto (tgt := 3111) hx hb dL_law_2772 (by decide) ?_
        exact lw_end hst C0 hA hAf hZ hY (Nat.le_of_ble_eq_true rfl) (Nat.le_of_ble_eq_true rfl) dC dI P0k P0 D0 hS ls (lv_sub hl [2, 6] rfl)

set_option maxRecDepth 20000 in
theorem g_lk_43_z_X11_fault_287 : GoodIn lwW (wsV RL 287 RX11 yX11_fault w_z_X11_fault) := goodIn_app (goodIn_sub (ws := ([.methodLink RL 287 yX11_fault, .instanceMethod yX11_fault, .selects RX11 yX11_fault yX11_fault, .initialized RX11] : List Cond)) (gm_c (gm_at lwV_86_in 4 rfl) (gm_c (gm_at lwV_86_in 5 rfl) (gm_c (gm_at lwV_86_in 6 rfl) (gm_c (gm_at lwV_0_in 3 rfl) gm_nil)))) (by decide +kernel)) (goodIn_ca (goodIn_sub (ws := .code yX11_fault cX11_fault 2 (some .int) :: l_z_X11_fault) (gm_c (gm_at lwV_86_in 10 rfl) (gm_c (gm_at lwV_45_in 3 rfl) (gm_c (gm_at lwV_45_in 2 rfl) gm_nil))) (by decide +kernel)) (goodIn_in il_X11 gd_X11))
set_option maxRecDepth 20000 in
theorem g_lk_43_z_X12_fault_290 : GoodIn lwW (wsV RL 290 RX12 yX12_fault w_z_X12_fault) := goodIn_app (goodIn_sub (ws := ([.methodLink RL 290 yX12_fault, .instanceMethod yX12_fault, .selects RX12 yX12_fault yX12_fault, .initialized RX12] : List Cond)) (gm_c (gm_at lwV_86_in 7 rfl) (gm_c (gm_at lwV_86_in 8 rfl) (gm_c (gm_at lwV_86_in 9 rfl) (gm_c (gm_at lwV_0_in 7 rfl) gm_nil)))) (by decide +kernel)) (goodIn_ca (goodIn_sub (ws := .code yX12_fault cX12_fault 2 (some .int) :: l_z_X12_fault) (gm_c (gm_at lwV_86_in 11 rfl) (gm_c (gm_at lwV_1_in 5 rfl) (gm_c (gm_at lwV_53_in 0 rfl) (gm_c (gm_at lwV_46_in 4 rfl) gm_nil)))) (by decide +kernel)) (goodIn_in il_X12 gd_X12))
set_option maxHeartbeats 4000000 in
set_option maxRecDepth 100000 in
/-- the law, one call: fault -/
theorem lk_43 {p : Program} {l : Launch} {e : Env} {s : State} {m : MethodId} {below : List Frame} {meth : Method} {c : Code} {b : Nat} {xs : Nat → Int32} (hst : l.stackTraces = false) (C0 : lw_At p s m meth c b 6 xs) {A : Nat → Prop} (hA : ∀ q : Nat, s.heap.size ≤ q → A q) (hAf : ∀ q : Nat, A q → s.heap.size ≤ q) (hZ : Zz A s) (hY : Yy s) (dC : Nat → ClassId) (dI : Nat → Nat → Nat) (aX : Nat) (fsX : List Value) (aZ : Nat) (fsZ : List Value) (qO : Nat) (w1 : Int32) (hw1 : w1 = xs (1 : Int32).toNatClampNeg) (w2 : Int32) (hw2 : w2 = xs (2 : Int32).toNatClampNeg) (w3 : Int32) (hw3 : w3 = xs (3 : Int32).toNatClampNeg) (w4 : Int32) (hw4 : w4 = xs (4 : Int32).toNatClampNeg) (w5 : Int32) (hw5 : w5 = xs (5 : Int32).toNatClampNeg) (k_fsX : fh fsX 18 [(16, .int 0), (17, .int (-1))]) (k_fsZ : fh fsZ 150 [(81, .int 0), (82, .int (-1))])  {H : Heap} {locs : List Loc} (hK : va_K (dC, dI) vwCl [] s) (hP : va_P (dC, dI) vwCl [(aX, .inr (14, fsX)), (aZ, .inr (15, fsZ))] H) (hD : va_D A [(aX, .inr (14, fsX)), (aZ, .inr (15, fsZ))]) (hS : va_S A s.heap H locs) (ls : Array Slot) (hl : lv_has ls 8 [(0, .ref b), (1, .ref aX), (2, .ref aZ), (3, .ref qO), (4, .int 0)]) : W p l e room_1 s m #[Value.ref b] below meth c H locs 390 571359 (lw_Z below #[Value.ref b] s) (F0 m 2775 ls []) := by
  obtain ⟨hx, hb, hr, hml, hown0, hts0, hX, hbl, hlocks, hgv⟩ := id C0
  have hown : s.vm.findClass RL = some m.cls := hown0
  have hts : ∀ w ∈ lwW, w.before #[Value.ref b] s = true := fun w h => hts0 w (lwW_in w h)
  have hbA : ¬ A b := fun h => absurd (hAf b h) (Nat.not_le.mpr hbl)
  have o_fsX := ow_0 k_fsX
  have o_fsZ := ow_0 k_fsZ
  refine lv_aload_n hx hb dL_law_2775 rfl (lv_at hl 1 rfl) ?_
  refine lv_aload_n hx hb dL_law_2776 rfl (lv_at hl 0 rfl) ?_
  refine lv_iload hx hb dL_law_2777 (lv_at hl 4 rfl) ?_
  refine lv_iconst (v := 1) hx hb dL_law_2779 (by decide) ?_
  refine lv_iadd hx hb dL_law_2780  ?_
  refine lv_topi (fun x101 ex101 => ?_)
  obtain rfl : x101 = 1 := ex101.trans (by decide)
  refine va_sld hx hb hX hbl hbA hS (show vp_in 1 6 from by unfold vp_in; decide) dL_law_2781 ?_
  refine lv_topi (fun x102 ex102 => ?_)
  obtain rfl : w1 = x102 := hw1.trans ex102.symm
  have hPc := hP.sub (ws' := [(aX, .inr (14, fsX))]) [0] rfl
  have hDc := hD.sub (ws' := [(aX, .inr (14, fsX))]) [0] (by decide) rfl
  have hKc := hK.sub (tys' := []) [] rfl
  have hFc := va_free (wc := [(aX, .inr (14, fsX))]) hD hS hA [0] rfl
  refine va_calli (va_runV (As := [.int w1]) (rest := []) ⟨hx, hb, hml, hown, hts⟩ (z_X11_fault l dC dI H.size aX fsX w1 (fh_sub o_fsX.2 [0, 1] rfl) ) (cwV 1 hts g_lk_43_z_X11_fault_287 rfl rfl rfl (by decide +kernel) ⟨Nat.le_of_ble_eq_true rfl, Nat.le_of_ble_eq_true rfl⟩) ⟨fun a U g mk q => by obtain ⟨q0, q1, qP, qK, qD⟩ := q; exact ⟨q0, q1, qP, va_K.moved (u := U) (U := U.calling g mk a) (Vm.Alike.refl U.vm) qK, qD⟩, va_recv hK hP (ci := 14) (q0 := 0) rfl rfl, fun U hU hW => ⟨rfl, by rw [hU], by rw [hU]; exact hPc, va_K.moved hW.alike hKc, hDc.weaken (fun _ _ _ _ => trivial)⟩⟩ rfl rfl hl.1 rfl (lv_room (Nat.le_of_ble_eq_true rfl)) dL_law_2782 ⟨Nat.le_of_ble_eq_true rfl, Nat.le_of_ble_eq_true rfl⟩) hS (fun q _ h => hFc q h) hFc (fun r103 u t H1 locs ht hvm hw hB hz1 hk1 hS => ?_)
  obtain ⟨hP1, hK1, hD1⟩ := hB
  rw [ht] at hP1
  try dsimp only at hw
  obtain ⟨hP, hD⟩ := va_join (wr := [(aZ, .inr (15, fsZ))]) (w1 := [(aX, .inr (14, fsX))]) hP hD [0] [1] rfl rfl (by decide) (by decide) hk1 hFc hP1 hD1
  have hK := hK.sub (tys' := []) [] rfl
  generalize H1 = H at hP hS ⊢
  have hP : va_P (dC, dI) vwCl [(aZ, .inr (15, fsZ)), (aX, .inr (14, fsX))] H := hP
  have hD : va_D A [(aZ, .inr (15, fsZ)), (aX, .inr (14, fsX))] := hD
  rcases hw with ⟨c104, c105, er106⟩ | ⟨c107, c108, er109⟩ | ⟨c110, er111⟩
  · skip
    subst er106
    refine lv_aload_n hx hb dL_law_2785 rfl (lv_at hl 2 rfl) ?_
    refine lv_aload_n hx hb dL_law_2786 rfl (lv_at hl 0 rfl) ?_
    refine lv_iload hx hb dL_law_2787 (lv_at hl 4 rfl) ?_
    refine lv_iconst (v := 1) hx hb dL_law_2789 (by decide) ?_
    refine lv_iadd hx hb dL_law_2790  ?_
    refine lv_topi (fun x112 ex112 => ?_)
    obtain rfl : x112 = 1 := ex112.trans (by decide)
    refine va_sld hx hb hX hbl hbA hS (show vp_in 1 6 from by unfold vp_in; decide) dL_law_2791 ?_
    refine lv_topi (fun x113 ex113 => ?_)
    obtain rfl : w1 = x113 := hw1.trans ex113.symm
    have hPc := hP.sub (ws' := [(aZ, .inr (15, fsZ))]) [0] rfl
    have hDc := hD.sub (ws' := [(aZ, .inr (15, fsZ))]) [0] (by decide) rfl
    have hKc := hK.sub (tys' := []) [] rfl
    have hFc := va_free (wc := [(aZ, .inr (15, fsZ))]) hD hS hA [0] rfl
    refine va_calli (va_runV (As := [.int w1]) (rest := [.int (-1)]) ⟨hx, hb, hml, hown, hts⟩ (z_X12_fault l dC dI H.size aZ fsZ w1 (fh_sub o_fsZ.2 [0, 1] rfl) ) (cwV 1 hts g_lk_43_z_X12_fault_290 rfl rfl rfl (by decide +kernel) ⟨Nat.le_of_ble_eq_true rfl, Nat.le_of_ble_eq_true rfl⟩) ⟨fun a U g mk q => by obtain ⟨q0, q1, qP, qK, qD⟩ := q; exact ⟨q0, q1, qP, va_K.moved (u := U) (U := U.calling g mk a) (Vm.Alike.refl U.vm) qK, qD⟩, va_recv hK hP (ci := 15) (q0 := 0) rfl rfl, fun U hU hW => ⟨rfl, by rw [hU], by rw [hU]; exact hPc, va_K.moved hW.alike hKc, hDc.weaken (fun _ _ _ _ => trivial)⟩⟩ rfl rfl hl.1 rfl (lv_room (Nat.le_of_ble_eq_true rfl)) dL_law_2792 ⟨Nat.le_of_ble_eq_true rfl, Nat.le_of_ble_eq_true rfl⟩) hS (fun q _ h => hFc q h) hFc (fun r114 u t H1 locs ht hvm hw hB hz1 hk1 hS => ?_)
    obtain ⟨s115, rfl⟩ : ∃ z, z = u := ⟨_, rfl⟩
    obtain ⟨hP1, hK1, hD1⟩ := hB
    rw [ht] at hP1
    try dsimp only at hw
    obtain ⟨hP, hD⟩ := va_join (wr := [(aX, .inr (14, fsX))]) (w1 := [(aZ, .inr (15, s115))]) hP hD [0] [1] rfl rfl (by decide) (by decide) hk1 hFc hP1 hD1
    have hK := hK.sub (tys' := []) [] rfl
    generalize H1 = H at hP hS ⊢
    have hP : va_P (dC, dI) vwCl [(aX, .inr (14, fsX)), (aZ, .inr (15, s115))] H := hP
    have hD : va_D A [(aX, .inr (14, fsX)), (aZ, .inr (15, s115))] := hD
    rcases hw with ⟨c116, c117, er118, o_s115⟩ | ⟨c119, c120, er121, o_s115⟩ | ⟨c122, er123, o_s115⟩
    · skip
      subst er118
      have o_s115 := ow_on o_fsZ o_s115 (l' := [(0, .int 0), (81, .int 0), (82, .int (-1)), (81, .int 0), (82, .int (-1))]) (w' := [0]) rfl rfl
      refine lv_icmp_eq (tgt := 3111) hx hb dL_law_2795 (by decide) (fun c124 => ?_) (fun c124 => absurd c124 (by decide))
      exact lw_end hst C0 hA hAf hZ hY (Nat.le_of_ble_eq_true rfl) (Nat.le_of_ble_eq_true rfl) dC dI P0k P0 D0 hS ls (lv_sub hl [0, 4] rfl)
    · skip
      subst er121
      have o_s115 := ow_on o_fsZ o_s115 (l' := [(0, .int 0), (81, .int 0), (82, .int (-1)), (81, .int 0), (82, .int (-1))]) (w' := [0]) rfl rfl
      refine lv_icmp_eq (tgt := 3111) hx hb dL_law_2795 (by decide) (fun c125 => ?_) (fun c125 => absurd c125 (by decide))
      exact lw_end hst C0 hA hAf hZ hY (Nat.le_of_ble_eq_true rfl) (Nat.le_of_ble_eq_true rfl) dC dI P0k P0 D0 hS ls (lv_sub hl [0, 4] rfl)
    · skip
      subst er123
      have o_s115 := ow_on o_fsZ o_s115 (l' := [(0, .int 0), (81, .int 0), (82, .int (-1)), (81, .int 0), (82, .int (-1))]) (w' := [0]) rfl rfl
      refine lv_icmp_eq (tgt := 3111) hx hb dL_law_2795 (by decide) (fun c126 => absurd c126 (by decide)) (fun c126 => ?_)
      refine lv_iconst (v := 0) hx hb dL_law_2798 (by decide) ?_
      exact (by exfalso; (try simp only [i_lt, i_le, i_eq, kc_0, kc_1] at c104 c105 c122) <;> omega)
  · skip
    subst er109
    refine lv_aload_n hx hb dL_law_2785 rfl (lv_at hl 2 rfl) ?_
    refine lv_aload_n hx hb dL_law_2786 rfl (lv_at hl 0 rfl) ?_
    refine lv_iload hx hb dL_law_2787 (lv_at hl 4 rfl) ?_
    refine lv_iconst (v := 1) hx hb dL_law_2789 (by decide) ?_
    refine lv_iadd hx hb dL_law_2790  ?_
    refine lv_topi (fun x127 ex127 => ?_)
    obtain rfl : x127 = 1 := ex127.trans (by decide)
    refine va_sld hx hb hX hbl hbA hS (show vp_in 1 6 from by unfold vp_in; decide) dL_law_2791 ?_
    refine lv_topi (fun x128 ex128 => ?_)
    obtain rfl : w1 = x128 := hw1.trans ex128.symm
    have hPc := hP.sub (ws' := [(aZ, .inr (15, fsZ))]) [0] rfl
    have hDc := hD.sub (ws' := [(aZ, .inr (15, fsZ))]) [0] (by decide) rfl
    have hKc := hK.sub (tys' := []) [] rfl
    have hFc := va_free (wc := [(aZ, .inr (15, fsZ))]) hD hS hA [0] rfl
    refine va_calli (va_runV (As := [.int w1]) (rest := [.int (-1)]) ⟨hx, hb, hml, hown, hts⟩ (z_X12_fault l dC dI H.size aZ fsZ w1 (fh_sub o_fsZ.2 [0, 1] rfl) ) (cwV 1 hts g_lk_43_z_X12_fault_290 rfl rfl rfl (by decide +kernel) ⟨Nat.le_of_ble_eq_true rfl, Nat.le_of_ble_eq_true rfl⟩) ⟨fun a U g mk q => by obtain ⟨q0, q1, qP, qK, qD⟩ := q; exact ⟨q0, q1, qP, va_K.moved (u := U) (U := U.calling g mk a) (Vm.Alike.refl U.vm) qK, qD⟩, va_recv hK hP (ci := 15) (q0 := 0) rfl rfl, fun U hU hW => ⟨rfl, by rw [hU], by rw [hU]; exact hPc, va_K.moved hW.alike hKc, hDc.weaken (fun _ _ _ _ => trivial)⟩⟩ rfl rfl hl.1 rfl (lv_room (Nat.le_of_ble_eq_true rfl)) dL_law_2792 ⟨Nat.le_of_ble_eq_true rfl, Nat.le_of_ble_eq_true rfl⟩) hS (fun q _ h => hFc q h) hFc (fun r129 u t H1 locs ht hvm hw hB hz1 hk1 hS => ?_)
    obtain ⟨s130, rfl⟩ : ∃ z, z = u := ⟨_, rfl⟩
    obtain ⟨hP1, hK1, hD1⟩ := hB
    rw [ht] at hP1
    try dsimp only at hw
    obtain ⟨hP, hD⟩ := va_join (wr := [(aX, .inr (14, fsX))]) (w1 := [(aZ, .inr (15, s130))]) hP hD [0] [1] rfl rfl (by decide) (by decide) hk1 hFc hP1 hD1
    have hK := hK.sub (tys' := []) [] rfl
    generalize H1 = H at hP hS ⊢
    have hP : va_P (dC, dI) vwCl [(aX, .inr (14, fsX)), (aZ, .inr (15, s130))] H := hP
    have hD : va_D A [(aX, .inr (14, fsX)), (aZ, .inr (15, s130))] := hD
    rcases hw with ⟨c131, c132, er133, o_s130⟩ | ⟨c134, c135, er136, o_s130⟩ | ⟨c137, er138, o_s130⟩
    · exact (by exfalso; (try simp only [i_lt, i_le, i_eq, kc_0, kc_1] at c107 c108 c131 c132); omega)
    · skip
      subst er136
      have o_s130 := ow_on o_fsZ o_s130 (l' := [(0, .int 0), (81, .int 0), (82, .int (-1)), (81, .int 0), (82, .int (-1))]) (w' := [0]) rfl rfl
      refine lv_icmp_eq (tgt := 3111) hx hb dL_law_2795 (by decide) (fun c139 => ?_) (fun c139 => absurd c139 (by decide))
      exact lw_end hst C0 hA hAf hZ hY (Nat.le_of_ble_eq_true rfl) (Nat.le_of_ble_eq_true rfl) dC dI P0k P0 D0 hS ls (lv_sub hl [0, 4] rfl)
    · exact (by exfalso; (try simp only [i_lt, i_le, i_eq, kc_0, kc_1] at c107 c108 c137); omega)
  · skip
    subst er111
    refine lv_aload_n hx hb dL_law_2785 rfl (lv_at hl 2 rfl) ?_
    refine lv_aload_n hx hb dL_law_2786 rfl (lv_at hl 0 rfl) ?_
    refine lv_iload hx hb dL_law_2787 (lv_at hl 4 rfl) ?_
    refine lv_iconst (v := 1) hx hb dL_law_2789 (by decide) ?_
    refine lv_iadd hx hb dL_law_2790  ?_
    refine lv_topi (fun x140 ex140 => ?_)
    obtain rfl : x140 = 1 := ex140.trans (by decide)
    refine va_sld hx hb hX hbl hbA hS (show vp_in 1 6 from by unfold vp_in; decide) dL_law_2791 ?_
    refine lv_topi (fun x141 ex141 => ?_)
    obtain rfl : w1 = x141 := hw1.trans ex141.symm
    have hPc := hP.sub (ws' := [(aZ, .inr (15, fsZ))]) [0] rfl
    have hDc := hD.sub (ws' := [(aZ, .inr (15, fsZ))]) [0] (by decide) rfl
    have hKc := hK.sub (tys' := []) [] rfl
    have hFc := va_free (wc := [(aZ, .inr (15, fsZ))]) hD hS hA [0] rfl
    refine va_calli (va_runV (As := [.int w1]) (rest := [.int 0]) ⟨hx, hb, hml, hown, hts⟩ (z_X12_fault l dC dI H.size aZ fsZ w1 (fh_sub o_fsZ.2 [0, 1] rfl) ) (cwV 1 hts g_lk_43_z_X12_fault_290 rfl rfl rfl (by decide +kernel) ⟨Nat.le_of_ble_eq_true rfl, Nat.le_of_ble_eq_true rfl⟩) ⟨fun a U g mk q => by obtain ⟨q0, q1, qP, qK, qD⟩ := q; exact ⟨q0, q1, qP, va_K.moved (u := U) (U := U.calling g mk a) (Vm.Alike.refl U.vm) qK, qD⟩, va_recv hK hP (ci := 15) (q0 := 0) rfl rfl, fun U hU hW => ⟨rfl, by rw [hU], by rw [hU]; exact hPc, va_K.moved hW.alike hKc, hDc.weaken (fun _ _ _ _ => trivial)⟩⟩ rfl rfl hl.1 rfl (lv_room (Nat.le_of_ble_eq_true rfl)) dL_law_2792 ⟨Nat.le_of_ble_eq_true rfl, Nat.le_of_ble_eq_true rfl⟩) hS (fun q _ h => hFc q h) hFc (fun r142 u t H1 locs ht hvm hw hB hz1 hk1 hS => ?_)
    obtain ⟨s143, rfl⟩ : ∃ z, z = u := ⟨_, rfl⟩
    obtain ⟨hP1, hK1, hD1⟩ := hB
    rw [ht] at hP1
    try dsimp only at hw
    obtain ⟨hP, hD⟩ := va_join (wr := [(aX, .inr (14, fsX))]) (w1 := [(aZ, .inr (15, s143))]) hP hD [0] [1] rfl rfl (by decide) (by decide) hk1 hFc hP1 hD1
    have hK := hK.sub (tys' := []) [] rfl
    generalize H1 = H at hP hS ⊢
    have hP : va_P (dC, dI) vwCl [(aX, .inr (14, fsX)), (aZ, .inr (15, s143))] H := hP
    have hD : va_D A [(aX, .inr (14, fsX)), (aZ, .inr (15, s143))] := hD
    rcases hw with ⟨c144, c145, er146, o_s143⟩ | ⟨c147, c148, er149, o_s143⟩ | ⟨c150, er151, o_s143⟩
    · exact (by exfalso; (try simp only [i_lt, i_le, i_eq, kc_0, kc_1] at c110 c144 c145); omega)
    · exact (by exfalso; (try simp only [i_lt, i_le, i_eq, kc_0, kc_1] at c110 c147 c148); omega)
    · skip
      subst er151
      have o_s143 := ow_on o_fsZ o_s143 (l' := [(0, .int 0), (81, .int 0), (82, .int (-1)), (81, .int 0), (82, .int (-1))]) (w' := [0]) rfl rfl
      refine lv_icmp_eq (tgt := 3111) hx hb dL_law_2795 (by decide) (fun c152 => ?_) (fun c152 => absurd c152 (by decide))
      exact lw_end hst C0 hA hAf hZ hY (Nat.le_of_ble_eq_true rfl) (Nat.le_of_ble_eq_true rfl) dC dI P0k P0 D0 hS ls (lv_sub hl [0, 4] rfl)

set_option maxRecDepth 20000 in
theorem g_lk_44_z_L_bytes_291 : GoodIn lwW (va_wsS RL 291 yL_bytes w_z_L_bytes) := goodIn_app (goodIn_sub (ws := ([.methodLink RL 291 yL_bytes, .static yL_bytes, .initialized RL] : List Cond)) (gm_c (gm_at lwV_87_in 0 rfl) (gm_c (gm_at lwV_87_in 1 rfl) (gm_c (gm_at lwV_5_in 10 rfl) gm_nil))) (by decide +kernel)) (goodIn_ca (goodIn_sub (ws := .codeWith yL_bytes cL_bytes 4 (some .int) [(0, 9, 12, 13), (0, 9, 15, 17)] :: l_z_L_bytes) (gm_c (gm_at lwV_87_in 5 rfl) (gm_c (gm_at lwV_87_in 6 rfl) (gm_c (gm_at lwV_87_in 7 rfl) (gm_c (gm_at lwV_87_in 8 rfl) (gm_c (gm_at lwV_0_in 3 rfl) (gm_c (gm_at lwV_6_in 9 rfl) (gm_c (gm_at lwV_87_in 9 rfl) (gm_c (gm_at lwV_54_in 10 rfl) (gm_c (gm_at lwV_54_in 11 rfl) (gm_c (gm_at lwV_87_in 10 rfl) (gm_c (gm_at lwV_55_in 0 rfl) (gm_c (gm_at lwV_87_in 11 rfl) (gm_c (gm_at lwV_88_in 0 rfl) (gm_c (gm_at lwV_88_in 1 rfl) (gm_c (gm_at lwV_88_in 2 rfl) (gm_c (gm_at lwV_88_in 3 rfl) (gm_c (gm_at lwV_0_in 9 rfl) (gm_c (gm_at lwV_88_in 4 rfl) (gm_c (gm_at lwV_88_in 5 rfl) (gm_c (gm_at lwV_2_in 9 rfl) (gm_c (gm_at lwV_2_in 10 rfl) (gm_c (gm_at lwV_2_in 11 rfl) (gm_c (gm_at lwV_4_in 2 rfl) (gm_c (gm_at lwV_55_in 6 rfl) (gm_c (gm_at lwV_55_in 7 rfl) (gm_c (gm_at lwV_55_in 8 rfl) (gm_c (gm_at lwV_7_in 0 rfl) (gm_c (gm_at lwV_7_in 1 rfl) (gm_c (gm_at lwV_55_in 9 rfl) (gm_c (gm_at lwV_88_in 6 rfl) (gm_c (gm_at lwV_88_in 7 rfl) (gm_c (gm_at lwV_88_in 8 rfl) (gm_c (gm_at lwV_88_in 9 rfl) (gm_c (gm_at lwV_88_in 10 rfl) (gm_c (gm_at lwV_88_in 11 rfl) (gm_c (gm_at lwV_89_in 0 rfl) (gm_c (gm_at lwV_89_in 1 rfl) (gm_c (gm_at lwV_89_in 2 rfl) (gm_c (gm_at lwV_89_in 3 rfl) (gm_c (gm_at lwV_89_in 4 rfl) (gm_c (gm_at lwV_89_in 5 rfl) (gm_c (gm_at lwV_82_in 1 rfl) (gm_c (gm_at lwV_82_in 2 rfl) (gm_c (gm_at lwV_82_in 3 rfl) (gm_c (gm_at lwV_89_in 6 rfl) (gm_c (gm_at lwV_89_in 7 rfl) (gm_c (gm_at lwV_89_in 8 rfl) (gm_c (gm_at lwV_89_in 9 rfl) (gm_c (gm_at lwV_89_in 10 rfl) (gm_c (gm_at lwV_89_in 11 rfl) gm_nil)))))))))))))))))))))))))))))))))))))))))))))))))) (by decide +kernel)) (goodIn_app (goodIn_in il_X11 gd_X11) (goodIn_app (goodIn_in il_X0 gd_X0) (goodIn_app (goodIn_in il_X9 gd_X9) (goodIn_app (goodIn_in il_at0_X11_122 gd_at0_X11_122) (goodIn_in il_X5 gd_X5))))))
set_option maxRecDepth 20000 in
theorem g_lk_44_z_X12_bytes_293 : GoodIn lwW (wsV RL 293 RX12 yX12_bytes w_z_X12_bytes) := goodIn_app (goodIn_sub (ws := ([.methodLink RL 293 yX12_bytes, .instanceMethod yX12_bytes, .selects RX12 yX12_bytes yX12_bytes, .initialized RX12] : List Cond)) (gm_c (gm_at lwV_87_in 2 rfl) (gm_c (gm_at lwV_87_in 3 rfl) (gm_c (gm_at lwV_87_in 4 rfl) (gm_c (gm_at lwV_0_in 7 rfl) gm_nil)))) (by decide +kernel)) (goodIn_ca (goodIn_sub (ws := .code yX12_bytes cX12_bytes 3 (some .int) :: l_z_X12_bytes) (gm_c (gm_at lwV_90_in 0 rfl) (gm_c (gm_at lwV_57_in 0 rfl) (gm_c (gm_at lwV_57_in 1 rfl) (gm_c (gm_at lwV_57_in 2 rfl) (gm_c (gm_at lwV_0_in 7 rfl) (gm_c (gm_at lwV_1_in 5 rfl) (gm_c (gm_at lwV_90_in 1 rfl) (gm_c (gm_at lwV_90_in 2 rfl) (gm_c (gm_at lwV_90_in 3 rfl) (gm_c (gm_at lwV_90_in 4 rfl) (gm_c (gm_at lwV_3_in 5 rfl) (gm_c (gm_at lwV_3_in 6 rfl) (gm_c (gm_at lwV_90_in 5 rfl) (gm_c (gm_at lwV_57_in 10 rfl) (gm_c (gm_at lwV_90_in 6 rfl) (gm_c (gm_at lwV_90_in 7 rfl) (gm_c (gm_at lwV_90_in 8 rfl) (gm_c (gm_at lwV_90_in 9 rfl) (gm_c (gm_at lwV_90_in 10 rfl) (gm_c (gm_at lwV_90_in 11 rfl) (gm_c (gm_at lwV_57_in 9 rfl) (gm_c (gm_at lwV_58_in 0 rfl) (gm_c (gm_at lwV_91_in 0 rfl) (gm_c (gm_at lwV_91_in 1 rfl) (gm_c (gm_at lwV_91_in 2 rfl) (gm_c (gm_at lwV_91_in 3 rfl) (gm_c (gm_at lwV_91_in 4 rfl) (gm_c (gm_at lwV_91_in 5 rfl) gm_nil)))))))))))))))))))))))))))) (by decide +kernel)) (goodIn_in il_X12 gd_X12))
set_option maxRecDepth 20000 in
theorem g_lk_44_z_X12_thrown_149 : GoodIn lwW (wsV RL 149 RX12 yX12_thrown w_z_X12_thrown) := goodIn_app (goodIn_sub (ws := ([.methodLink RL 149 yX12_thrown, .instanceMethod yX12_thrown, .selects RX12 yX12_thrown yX12_thrown, .initialized RX12] : List Cond)) (gm_c (gm_at lwV_6_in 2 rfl) (gm_c (gm_at lwV_6_in 3 rfl) (gm_c (gm_at lwV_6_in 4 rfl) (gm_c (gm_at lwV_0_in 7 rfl) gm_nil)))) (by decide +kernel)) (goodIn_ca (goodIn_sub (ws := .code yX12_thrown cX12_thrown 1 (some .int) :: l_z_X12_thrown) (gm_c (gm_at lwV_9_in 9 rfl) (gm_c (gm_at lwV_1_in 5 rfl) gm_nil)) (by decide +kernel)) (goodIn_in il_X12 gd_X12))
set_option maxRecDepth 20000 in
theorem g_lk_44_z_X12_thrown_2_149 : GoodIn lwW (wsV RL 149 RX12 yX12_thrown w_z_X12_thrown_2) := goodIn_app (goodIn_sub (ws := ([.methodLink RL 149 yX12_thrown, .instanceMethod yX12_thrown, .selects RX12 yX12_thrown yX12_thrown, .initialized RX12] : List Cond)) (gm_c (gm_at lwV_6_in 2 rfl) (gm_c (gm_at lwV_6_in 3 rfl) (gm_c (gm_at lwV_6_in 4 rfl) (gm_c (gm_at lwV_0_in 7 rfl) gm_nil)))) (by decide +kernel)) (goodIn_ca (goodIn_sub (ws := .code yX12_thrown cX12_thrown 1 (some .int) :: l_z_X12_thrown_2) (gm_c (gm_at lwV_9_in 9 rfl) (gm_c (gm_at lwV_1_in 5 rfl) gm_nil)) (by decide +kernel)) (goodIn_in il_X12 gd_X12))
set_option maxHeartbeats 4000000 in
set_option maxRecDepth 100000 in
/-- the law, one call: bytes -/
theorem lk_44 {p : Program} {l : Launch} {e : Env} {s : State} {m : MethodId} {below : List Frame} {meth : Method} {c : Code} {b : Nat} {xs : Nat → Int32} (hst : l.stackTraces = false) (C0 : lw_At p s m meth c b 6 xs) {A : Nat → Prop} (hA : ∀ q : Nat, s.heap.size ≤ q → A q) (hAf : ∀ q : Nat, A q → s.heap.size ≤ q) (hZ : Zz A s) (hY : Yy s) (dC : Nat → ClassId) (dI : Nat → Nat → Nat) (aX : Nat) (fsX : List Value) (aT : Nat) (fsT : List Value) (qb : Nat) (fb : Nat → Int32) (kb : ClassId) (qP : Nat) (gP : Nat → Option Nat) (kP : ClassId) (ap : Nat) (fsp : List Value) (aA : Nat) (fsA : List Value) (qf : Nat) (ff : Nat → Int32) (kf : ClassId) (aZ : Nat) (fsZ : List Value) (q_tape : Nat) (f_tape : Nat → Int32) (k_tape : ClassId) (q_things : Nat) (f_things : Nat → Int32) (k_things : ClassId) (q_rootMany : Nat) (f_rootMany : Nat → Int32) (k_rootMany : ClassId) (q_row0 : Nat) (f_row0 : Nat → Int32) (k_row0 : ClassId) (qO : Nat) (fO : Nat → Int64) (kO : ClassId) (w1 : Int32) (hw1 : w1 = xs (1 : Int32).toNatClampNeg) (w2 : Int32) (hw2 : w2 = xs (2 : Int32).toNatClampNeg) (w3 : Int32) (hw3 : w3 = xs (3 : Int32).toNatClampNeg) (w4 : Int32) (hw4 : w4 = xs (4 : Int32).toNatClampNeg) (w5 : Int32) (hw5 : w5 = xs (5 : Int32).toNatClampNeg) (k_fsX : fh fsX 18 [(0, .ref aT), (4, .ref qP), (13, .ref aA)]) (k_fsT : fh fsT 12 [(0, .ref qb)]) (k_fsp : fh fsp 21 [(0, .int 0), (11, .int 0)]) (k_fsA : fh fsA 15 [(1, .ref qf)]) (k_fsZ : fh fsZ 150 [(0, .int 0), (1, .ref q_tape), (3, .int 0), (48, .ref q_things), (65, .ref q_rootMany), (139, .ref q_row0), (141, .int 0)]) (hg : gP w1.toNatClampNeg = some ap) (hz_f_things : ∀ j, f_things j = 0) (hz_f_rootMany : ∀ j, f_rootMany j = 0) {H : Heap} {locs : List Loc} (hK : va_K (dC, dI) vwCl [(kb, .int), (kP, .object "HeapWorks$Picture"), (kf, .int), (k_tape, .byte), (k_things, .int), (k_rootMany, .int), (k_row0, .byte), (kO, .long)] s) (hP : va_P (dC, dI) vwCl [(aX, .inr (14, fsX)), (aT, .inr (12, fsT)), (qb, .inl (kb, 4000, .inl fb)), (qP, .inl (kP, 4, .inr (.inr (.inr (.inr gP))))), (ap, .inr (8, fsp)), (aA, .inr (3, fsA)), (qf, .inl (kf, 4000, .inl ff)), (aZ, .inr (15, fsZ)), (q_tape, .inl (k_tape, 4000, .inl f_tape)), (q_things, .inl (k_things, 5, .inl f_things)), (q_rootMany, .inl (k_rootMany, 5, .inl f_rootMany)), (q_row0, .inl (k_row0, 9000, .inl f_row0)), (qO, .inl (kO, 1, .inr (.inl fO)))] H) (hD : va_D A [(aX, .inr (14, fsX)), (aT, .inr (12, fsT)), (qb, .inl (kb, 4000, .inl fb)), (qP, .inl (kP, 4, .inr (.inr (.inr (.inr gP))))), (ap, .inr (8, fsp)), (aA, .inr (3, fsA)), (qf, .inl (kf, 4000, .inl ff)), (aZ, .inr (15, fsZ)), (q_tape, .inl (k_tape, 4000, .inl f_tape)), (q_things, .inl (k_things, 5, .inl f_things)), (q_rootMany, .inl (k_rootMany, 5, .inl f_rootMany)), (q_row0, .inl (k_row0, 9000, .inl f_row0)), (qO, .inl (kO, 1, .inr (.inl fO)))]) (hS : va_S A s.heap H locs) (ls : Array Slot) (hl : lv_has ls 8 [(0, .ref b), (1, .ref aX), (2, .ref aZ), (3, .ref qO), (4, .int 0)]) : W p l e room_1 s m #[Value.ref b] below meth c H locs 390 571359 (lw_Z below #[Value.ref b] s) (F0 m 2800 ls []) := by
  obtain ⟨hx, hb, hr, hml, hown0, hts0, hX, hbl, hlocks, hgv⟩ := id C0
  have hown : s.vm.findClass RL = some m.cls := hown0
  have hts : ∀ w ∈ lwW, w.before #[Value.ref b] s = true := fun w h => hts0 w (lwW_in w h)
  have hbA : ¬ A b := fun h => absurd (hAf b h) (Nat.not_le.mpr hbl)
  have o_fsX := ow_0 k_fsX
  have o_fsT := ow_0 k_fsT
  have o_fsp := ow_0 k_fsp
  have o_fsA := ow_0 k_fsA
  have o_fsZ := ow_0 k_fsZ
  refine lv_aload_n hx hb dL_law_2800 rfl (lv_at hl 1 rfl) ?_
  refine lv_aload_n hx hb dL_law_2801 rfl (lv_at hl 0 rfl) ?_
  refine lv_iload hx hb dL_law_2802 (lv_at hl 4 rfl) ?_
  refine lv_iconst (v := 1) hx hb dL_law_2804 (by decide) ?_
  refine lv_iadd hx hb dL_law_2805  ?_
  refine lv_topi (fun x101 ex101 => ?_)
  obtain rfl : x101 = 1 := ex101.trans (by decide)
  refine va_sld hx hb hX hbl hbA hS (show vp_in 1 6 from by unfold vp_in; decide) dL_law_2806 ?_
  refine lv_topi (fun x102 ex102 => ?_)
  obtain rfl : w1 = x102 := hw1.trans ex102.symm
  refine lv_aload_n hx hb dL_law_2807 rfl (lv_at hl 3 rfl) ?_
  have hPc := hP.sub (ws' := [(aX, .inr (14, fsX)), (aT, .inr (12, fsT)), (qb, .inl (kb, 4000, .inl fb)), (qP, .inl (kP, 4, .inr (.inr (.inr (.inr gP))))), (ap, .inr (8, fsp)), (aA, .inr (3, fsA)), (qf, .inl (kf, 4000, .inl ff)), (qO, .inl (kO, 1, .inr (.inl fO)))]) [0, 1, 2, 3, 4, 5, 6, 12] rfl
  have hDc := hD.sub (ws' := [(aX, .inr (14, fsX)), (aT, .inr (12, fsT)), (qb, .inl (kb, 4000, .inl fb)), (qP, .inl (kP, 4, .inr (.inr (.inr (.inr gP))))), (ap, .inr (8, fsp)), (aA, .inr (3, fsA)), (qf, .inl (kf, 4000, .inl ff)), (qO, .inl (kO, 1, .inr (.inl fO)))]) [0, 1, 2, 3, 4, 5, 6, 12] (by decide) rfl
  have hKc := hK.sub (tys' := [(kb, .int), (kP, .object "HeapWorks$Picture"), (kf, .int), (kO, .long)]) [0, 1, 2, 7] rfl
  have hFc := va_free (wc := [(aX, .inr (14, fsX)), (aT, .inr (12, fsT)), (qb, .inl (kb, 4000, .inl fb)), (qP, .inl (kP, 4, .inr (.inr (.inr (.inr gP))))), (ap, .inr (8, fsp)), (aA, .inr (3, fsA)), (qf, .inl (kf, 4000, .inl ff)), (qO, .inl (kO, 1, .inr (.inl fO)))]) hD hS hA [0, 1, 2, 3, 4, 5, 6, 12] rfl
  refine vx_calli (vx_runSX (As := [.ref aX, .int w1, .ref qO]) (rest := []) ⟨hx, hb, hml, hown, hts⟩ (z_L_bytes l dC dI H.size aX fsX aT fsT qb fb kb qP gP kP ap fsp aA fsA qf ff kf qO fO kO w1 (fh_sub o_fsX.2 [0, 1, 2] rfl) (fh_sub o_fsT.2 [0] rfl) (fh_sub o_fsp.2 [0, 1] rfl) (fh_sub o_fsA.2 [0] rfl) hst hg) (vx_cwSW 3 hts g_lk_44_z_L_bytes_291 rfl rfl rfl (by decide +kernel) ⟨Nat.le_of_ble_eq_true rfl, Nat.le_of_ble_eq_true rfl⟩) ⟨fun a U g mk q => by obtain ⟨q0, q1, qZ, qY, qP, qK, qD⟩ := q; exact ⟨q0, q1, Zz_call qZ, Yy_call qY, qP, va_K.moved (u := U) (U := U.calling g mk a) (Vm.Alike.refl U.vm) qK, qD⟩, fun U hU hW => ⟨rfl, by rw [hU], Zz_go hZ hS hFc hU hW, Yy_go hY hW, by rw [hU]; exact hPc, va_K.moved hW.alike hKc, hDc.weaken (fun _ _ _ _ => trivial)⟩⟩ rfl rfl hl.1 rfl (lv_room (Nat.le_of_ble_eq_true rfl)) dL_law_2808 ⟨Nat.le_of_ble_eq_true rfl, Nat.le_of_ble_eq_true rfl⟩) hS (fun q _ h => hFc q h) hFc (fun q _ h => hFc q h) (fun E ce q9 u t H1 locs ht hvm hpx hBX hz1 hk1 hS hce hcv hcl => ?_) (fun r103 u t H1 locs ht hvm hw hB hz1 hk1 hS => ?_)
  · exact False.elim hBX
  · skip
    obtain ⟨f104, rfl⟩ : ∃ z, z = u := ⟨_, rfl⟩
    obtain ⟨hP1, hK1, hD1⟩ := hB
    rw [ht] at hP1
    try dsimp only at hw
    obtain ⟨hP, hD⟩ := va_join (wr := [(aZ, .inr (15, fsZ)), (q_tape, .inl (k_tape, 4000, .inl f_tape)), (q_things, .inl (k_things, 5, .inl f_things)), (q_rootMany, .inl (k_rootMany, 5, .inl f_rootMany)), (q_row0, .inl (k_row0, 9000, .inl f_row0))]) (w1 := [(qO, .inl (kO, 1, .inr (.inl f104)))]) hP hD [0, 1, 2, 3, 4, 5, 6, 12] [7, 8, 9, 10, 11] rfl rfl (by decide) (by decide) hk1 hFc hP1 hD1
    have hK := hK.sub (tys' := [(k_tape, .byte), (k_things, .int), (k_rootMany, .int), (k_row0, .byte), (kO, .long)]) [3, 4, 5, 6, 7] rfl
    generalize H1 = H at hP hS ⊢
    refine W.widen (k := 391) (n := 571365) (by omega) (by omega) ?_
    have hP : va_P (dC, dI) vwCl [(aZ, .inr (15, fsZ)), (q_tape, .inl (k_tape, 4000, .inl f_tape)), (q_things, .inl (k_things, 5, .inl f_things)), (q_rootMany, .inl (k_rootMany, 5, .inl f_rootMany)), (q_row0, .inl (k_row0, 9000, .inl f_row0)), (qO, .inl (kO, 1, .inr (.inl f104)))] H := hP
    have hD : va_D A [(aZ, .inr (15, fsZ)), (q_tape, .inl (k_tape, 4000, .inl f_tape)), (q_things, .inl (k_things, 5, .inl f_things)), (q_rootMany, .inl (k_rootMany, 5, .inl f_rootMany)), (q_row0, .inl (k_row0, 9000, .inl f_row0)), (qO, .inl (kO, 1, .inr (.inl f104)))] := hD
    rcases hw with ⟨c105, er106⟩ | ⟨c107, c108, er109⟩ | ⟨c110, c111, er112, q113⟩
    · skip
      subst er106
      refine lv_istore (lv' := [(5, .int 1), (0, .ref b), (1, .ref aX), (2, .ref aZ), (3, .ref qO), (4, .int 0)]) hx hb dL_law_2811 hl (by decide) rfl (fun ls hl => ?_)
      refine lv_aload_n hx hb dL_law_2813 rfl (lv_at hl 3 rfl) ?_
      refine lv_aload_n hx hb dL_law_2814 rfl (lv_at hl 1 rfl) ?_
      refine lv_iload hx hb dL_law_2815 (lv_at hl 5 rfl) ?_
      refine lv_iconst (v := 1) hx hb dL_law_2817 (by decide) ?_
      refine lv_iadd hx hb dL_law_2818  ?_
      refine lv_topi (fun x114 ex114 => ?_)
      obtain rfl : x114 = 1 := ex114.trans (by decide)
      refine va_sld hx hb hX hbl hbA hS (show vp_in 1 6 from by unfold vp_in; decide) dL_law_2819 ?_
      refine lv_topi (fun x115 ex115 => ?_)
      obtain rfl : w1 = x115 := hw1.trans ex115.symm
      have hPc := hP.sub (ws' := [(aZ, .inr (15, fsZ)), (q_tape, .inl (k_tape, 4000, .inl f_tape)), (q_things, .inl (k_things, 5, .inl f_things)), (q_rootMany, .inl (k_rootMany, 5, .inl f_rootMany)), (q_row0, .inl (k_row0, 9000, .inl f_row0))]) [0, 1, 2, 3, 4] rfl
      have hDc := hD.sub (ws' := [(aZ, .inr (15, fsZ)), (q_tape, .inl (k_tape, 4000, .inl f_tape)), (q_things, .inl (k_things, 5, .inl f_things)), (q_rootMany, .inl (k_rootMany, 5, .inl f_rootMany)), (q_row0, .inl (k_row0, 9000, .inl f_row0))]) [0, 1, 2, 3, 4] (by decide) rfl
      have hKc := hK.sub (tys' := [(k_tape, .byte), (k_things, .int), (k_rootMany, .int), (k_row0, .byte)]) [0, 1, 2, 3] rfl
      have hFc := va_free (wc := [(aZ, .inr (15, fsZ)), (q_tape, .inl (k_tape, 4000, .inl f_tape)), (q_things, .inl (k_things, 5, .inl f_things)), (q_rootMany, .inl (k_rootMany, 5, .inl f_rootMany)), (q_row0, .inl (k_row0, 9000, .inl f_row0))]) hD hS hA [0, 1, 2, 3, 4] rfl
      refine va_calli (va_runV (As := [.int w1]) (rest := []) ⟨hx, hb, hml, hown, hts⟩ (z_X12_bytes l dC dI H.size aZ fsZ q_tape f_tape k_tape q_things f_things k_things q_rootMany f_rootMany k_rootMany q_row0 f_row0 k_row0 w1 (fh_sub o_fsZ.2 [0, 1, 2, 3, 4, 5, 6] rfl) hz_f_things hz_f_rootMany) (cwV 1 hts g_lk_44_z_X12_bytes_293 rfl rfl rfl (by decide +kernel) ⟨Nat.le_of_ble_eq_true rfl, Nat.le_of_ble_eq_true rfl⟩) ⟨fun a U g mk q => by obtain ⟨q0, q1, qP, qK, qD⟩ := q; exact ⟨q0, q1, qP, va_K.moved (u := U) (U := U.calling g mk a) (Vm.Alike.refl U.vm) qK, qD⟩, va_recv hK hP (ci := 15) (q0 := 0) rfl rfl, fun U hU hW => ⟨rfl, by rw [hU], by rw [hU]; exact hPc, va_K.moved hW.alike hKc, hDc.weaken (fun _ _ _ _ => trivial)⟩⟩ rfl rfl hl.1 rfl (lv_room (Nat.le_of_ble_eq_true rfl)) dL_law_2820 ⟨Nat.le_of_ble_eq_true rfl, Nat.le_of_ble_eq_true rfl⟩) hS (fun q _ h => hFc q h) hFc (fun r116 u t H1 locs ht hvm hw hB hz1 hk1 hS => ?_)
      obtain ⟨s117, f118, f119⟩ := u
      obtain ⟨hP1, hK1, hD1⟩ := hB
      rw [ht] at hP1
      try dsimp only at hw
      obtain ⟨hP, hD⟩ := va_join (wr := [(qO, .inl (kO, 1, .inr (.inl f104)))]) (w1 := [(aZ, .inr (15, s117)), (q_tape, .inl (k_tape, 4000, .inl f118)), (q_things, .inl (k_things, 5, .inl f_things)), (q_rootMany, .inl (k_rootMany, 5, .inl f_rootMany)), (q_row0, .inl (k_row0, 9000, .inl f119))]) hP hD [0, 1, 2, 3, 4] [5] rfl rfl (by decide) (by decide) hk1 hFc hP1 hD1
      have hK := hK.sub (tys' := [(kO, .long), (k_tape, .byte), (k_things, .int), (k_rootMany, .int), (k_row0, .byte)]) [4, 0, 1, 2, 3] rfl
      generalize H1 = H at hP hS ⊢
      have hP : va_P (dC, dI) vwCl [(qO, .inl (kO, 1, .inr (.inl f104))), (aZ, .inr (15, s117)), (q_tape, .inl (k_tape, 4000, .inl f118)), (q_things, .inl (k_things, 5, .inl f_things)), (q_rootMany, .inl (k_rootMany, 5, .inl f_rootMany)), (q_row0, .inl (k_row0, 9000, .inl f119))] H := hP
      have hD : va_D A [(qO, .inl (kO, 1, .inr (.inl f104))), (aZ, .inr (15, s117)), (q_tape, .inl (k_tape, 4000, .inl f118)), (q_things, .inl (k_things, 5, .inl f_things)), (q_rootMany, .inl (k_rootMany, 5, .inl f_rootMany)), (q_row0, .inl (k_row0, 9000, .inl f119))] := hD
      rcases hw with ⟨c120, er121, o_s117⟩ | ⟨c122, c123, er124, o_s117⟩ | ⟨c125, c126, er127, o_s117, q128⟩
      · skip
        subst er121
        have o_s117 := ow_on o_fsZ o_s117 (l' := [(0, .int 1), (1, .ref q_tape), (3, .int 0), (48, .ref q_things), (65, .ref q_rootMany), (139, .ref q_row0), (141, .int 0), (1, .ref q_tape), (3, .int 0), (48, .ref q_things), (65, .ref q_rootMany), (139, .ref q_row0), (141, .int 0)]) (w' := [0]) rfl rfl
        refine lv_istore (lv' := [(6, .int 0), (5, .int 1), (0, .ref b), (1, .ref aX), (2, .ref aZ), (3, .ref qO), (4, .int 0)]) hx hb dL_law_2823 hl (by decide) rfl (fun ls hl => ?_)
        refine lv_aload_n hx hb dL_law_2825 rfl (lv_at hl 4 rfl) ?_
        have hPc := hP.sub (ws' := [(aZ, .inr (15, s117))]) [1] rfl
        have hDc := hD.sub (ws' := [(aZ, .inr (15, s117))]) [1] (by decide) rfl
        have hKc := hK.sub (tys' := []) [] rfl
        have hFc := va_free (wc := [(aZ, .inr (15, s117))]) hD hS hA [1] rfl
        refine va_calli (va_runV (As := []) (rest := []) ⟨hx, hb, hml, hown, hts⟩ (z_X12_thrown l dC dI H.size aZ s117 (fh_sub o_s117.2 [0] rfl) ) (cwV 0 hts g_lk_44_z_X12_thrown_149 rfl rfl rfl (by decide +kernel) ⟨Nat.le_of_ble_eq_true rfl, Nat.le_of_ble_eq_true rfl⟩) ⟨fun a U g mk q => by obtain ⟨q0, q1, qP, qK, qD⟩ := q; exact ⟨q0, q1, qP, va_K.moved (u := U) (U := U.calling g mk a) (Vm.Alike.refl U.vm) qK, qD⟩, va_recv hK hP (ci := 15) (q0 := 1) rfl rfl, fun U hU hW => ⟨rfl, by rw [hU], by rw [hU]; exact hPc, va_K.moved hW.alike hKc, hDc.weaken (fun _ _ _ _ => trivial)⟩⟩ rfl rfl hl.1 rfl (lv_room (Nat.le_of_ble_eq_true rfl)) dL_law_2826 ⟨Nat.le_of_ble_eq_true rfl, Nat.le_of_ble_eq_true rfl⟩) hS (fun q _ h => hFc q h) hFc (fun r129 u t H1 locs ht hvm hw hB hz1 hk1 hS => ?_)
        obtain ⟨hP1, hK1, hD1⟩ := hB
        rw [ht] at hP1
        try dsimp only at hw
        obtain ⟨hP, hD⟩ := va_join (wr := [(qO, .inl (kO, 1, .inr (.inl f104))), (q_tape, .inl (k_tape, 4000, .inl f118)), (q_things, .inl (k_things, 5, .inl f_things)), (q_rootMany, .inl (k_rootMany, 5, .inl f_rootMany)), (q_row0, .inl (k_row0, 9000, .inl f119))]) (w1 := [(aZ, .inr (15, s117))]) hP hD [1] [0, 2, 3, 4, 5] rfl rfl (by decide) (by decide) hk1 hFc hP1 hD1
        have hK := hK.sub (tys' := [(kO, .long), (k_tape, .byte), (k_things, .int), (k_rootMany, .int), (k_row0, .byte)]) [0, 1, 2, 3, 4] rfl
        generalize H1 = H at hP hS ⊢
        have hP : va_P (dC, dI) vwCl [(qO, .inl (kO, 1, .inr (.inl f104))), (q_tape, .inl (k_tape, 4000, .inl f118)), (q_things, .inl (k_things, 5, .inl f_things)), (q_rootMany, .inl (k_rootMany, 5, .inl f_rootMany)), (q_row0, .inl (k_row0, 9000, .inl f119)), (aZ, .inr (15, s117))] H := hP
        have hD : va_D A [(qO, .inl (kO, 1, .inr (.inl f104))), (q_tape, .inl (k_tape, 4000, .inl f118)), (q_things, .inl (k_things, 5, .inl f_things)), (q_rootMany, .inl (k_rootMany, 5, .inl f_rootMany)), (q_row0, .inl (k_row0, 9000, .inl f119)), (aZ, .inr (15, s117))] := hD
        have er130 := hw
        subst er130
        refine lv_iload hx hb dL_law_2829 (lv_at hl 1 rfl) ?_
        refine lv_icmp_eq (tgt := 2836) hx hb dL_law_2831 (by decide) (fun c131 => ?_) (fun c131 => absurd c131 (by decide))
        refine lv_iload hx hb dL_law_2836 (lv_at hl 1 rfl) ?_
        refine lv_if_ne (tgt := 2853) hx hb dL_law_2838 (by decide) (fun c132 => ?_) (fun c132 => absurd c132 (by decide))
        refine lv_goto (tgt := 3111) hx hb dL_law_2853 (by decide) ?_
        exact lw_end hst C0 hA hAf hZ hY (Nat.le_of_ble_eq_true rfl) (Nat.le_of_ble_eq_true rfl) dC dI P0k P0 D0 hS ls (lv_sub hl [2, 6] rfl)
      · exact (by exfalso; (try simp only [i_lt, i_le, i_eq, kc_0, kc_4] at c105 c122 c123); omega)
      · exact (by exfalso; (try simp only [i_lt, i_le, i_eq, kc_0, kc_4] at c105 c125 c126); omega)
    · skip
      subst er109
      refine lv_istore (lv' := [(5, .int 1), (0, .ref b), (1, .ref aX), (2, .ref aZ), (3, .ref qO), (4, .int 0)]) hx hb dL_law_2811 hl (by decide) rfl (fun ls hl => ?_)
      refine lv_aload_n hx hb dL_law_2813 rfl (lv_at hl 3 rfl) ?_
      refine lv_aload_n hx hb dL_law_2814 rfl (lv_at hl 1 rfl) ?_
      refine lv_iload hx hb dL_law_2815 (lv_at hl 5 rfl) ?_
      refine lv_iconst (v := 1) hx hb dL_law_2817 (by decide) ?_
      refine lv_iadd hx hb dL_law_2818  ?_
      refine lv_topi (fun x133 ex133 => ?_)
      obtain rfl : x133 = 1 := ex133.trans (by decide)
      refine va_sld hx hb hX hbl hbA hS (show vp_in 1 6 from by unfold vp_in; decide) dL_law_2819 ?_
      refine lv_topi (fun x134 ex134 => ?_)
      obtain rfl : w1 = x134 := hw1.trans ex134.symm
      have hPc := hP.sub (ws' := [(aZ, .inr (15, fsZ)), (q_tape, .inl (k_tape, 4000, .inl f_tape)), (q_things, .inl (k_things, 5, .inl f_things)), (q_rootMany, .inl (k_rootMany, 5, .inl f_rootMany)), (q_row0, .inl (k_row0, 9000, .inl f_row0))]) [0, 1, 2, 3, 4] rfl
      have hDc := hD.sub (ws' := [(aZ, .inr (15, fsZ)), (q_tape, .inl (k_tape, 4000, .inl f_tape)), (q_things, .inl (k_things, 5, .inl f_things)), (q_rootMany, .inl (k_rootMany, 5, .inl f_rootMany)), (q_row0, .inl (k_row0, 9000, .inl f_row0))]) [0, 1, 2, 3, 4] (by decide) rfl
      have hKc := hK.sub (tys' := [(k_tape, .byte), (k_things, .int), (k_rootMany, .int), (k_row0, .byte)]) [0, 1, 2, 3] rfl
      have hFc := va_free (wc := [(aZ, .inr (15, fsZ)), (q_tape, .inl (k_tape, 4000, .inl f_tape)), (q_things, .inl (k_things, 5, .inl f_things)), (q_rootMany, .inl (k_rootMany, 5, .inl f_rootMany)), (q_row0, .inl (k_row0, 9000, .inl f_row0))]) hD hS hA [0, 1, 2, 3, 4] rfl
      refine va_calli (va_runV (As := [.int w1]) (rest := []) ⟨hx, hb, hml, hown, hts⟩ (z_X12_bytes l dC dI H.size aZ fsZ q_tape f_tape k_tape q_things f_things k_things q_rootMany f_rootMany k_rootMany q_row0 f_row0 k_row0 w1 (fh_sub o_fsZ.2 [0, 1, 2, 3, 4, 5, 6] rfl) hz_f_things hz_f_rootMany) (cwV 1 hts g_lk_44_z_X12_bytes_293 rfl rfl rfl (by decide +kernel) ⟨Nat.le_of_ble_eq_true rfl, Nat.le_of_ble_eq_true rfl⟩) ⟨fun a U g mk q => by obtain ⟨q0, q1, qP, qK, qD⟩ := q; exact ⟨q0, q1, qP, va_K.moved (u := U) (U := U.calling g mk a) (Vm.Alike.refl U.vm) qK, qD⟩, va_recv hK hP (ci := 15) (q0 := 0) rfl rfl, fun U hU hW => ⟨rfl, by rw [hU], by rw [hU]; exact hPc, va_K.moved hW.alike hKc, hDc.weaken (fun _ _ _ _ => trivial)⟩⟩ rfl rfl hl.1 rfl (lv_room (Nat.le_of_ble_eq_true rfl)) dL_law_2820 ⟨Nat.le_of_ble_eq_true rfl, Nat.le_of_ble_eq_true rfl⟩) hS (fun q _ h => hFc q h) hFc (fun r135 u t H1 locs ht hvm hw hB hz1 hk1 hS => ?_)
      obtain ⟨s136, f137, f138⟩ := u
      obtain ⟨hP1, hK1, hD1⟩ := hB
      rw [ht] at hP1
      try dsimp only at hw
      obtain ⟨hP, hD⟩ := va_join (wr := [(qO, .inl (kO, 1, .inr (.inl f104)))]) (w1 := [(aZ, .inr (15, s136)), (q_tape, .inl (k_tape, 4000, .inl f137)), (q_things, .inl (k_things, 5, .inl f_things)), (q_rootMany, .inl (k_rootMany, 5, .inl f_rootMany)), (q_row0, .inl (k_row0, 9000, .inl f138))]) hP hD [0, 1, 2, 3, 4] [5] rfl rfl (by decide) (by decide) hk1 hFc hP1 hD1
      have hK := hK.sub (tys' := [(kO, .long), (k_tape, .byte), (k_things, .int), (k_rootMany, .int), (k_row0, .byte)]) [4, 0, 1, 2, 3] rfl
      generalize H1 = H at hP hS ⊢
      have hP : va_P (dC, dI) vwCl [(qO, .inl (kO, 1, .inr (.inl f104))), (aZ, .inr (15, s136)), (q_tape, .inl (k_tape, 4000, .inl f137)), (q_things, .inl (k_things, 5, .inl f_things)), (q_rootMany, .inl (k_rootMany, 5, .inl f_rootMany)), (q_row0, .inl (k_row0, 9000, .inl f138))] H := hP
      have hD : va_D A [(qO, .inl (kO, 1, .inr (.inl f104))), (aZ, .inr (15, s136)), (q_tape, .inl (k_tape, 4000, .inl f137)), (q_things, .inl (k_things, 5, .inl f_things)), (q_rootMany, .inl (k_rootMany, 5, .inl f_rootMany)), (q_row0, .inl (k_row0, 9000, .inl f138))] := hD
      rcases hw with ⟨c139, er140, o_s136⟩ | ⟨c141, c142, er143, o_s136⟩ | ⟨c144, c145, er146, o_s136, q147⟩
      · exact (by exfalso; (try simp only [i_lt, i_le, i_eq, kc_0, kc_4] at c107 c108 c139); omega)
      · skip
        subst er143
        have o_s136 := ow_on o_fsZ o_s136 (l' := [(0, .int 1), (1, .ref q_tape), (3, .int 0), (48, .ref q_things), (65, .ref q_rootMany), (139, .ref q_row0), (141, .int 0), (1, .ref q_tape), (3, .int 0), (48, .ref q_things), (65, .ref q_rootMany), (139, .ref q_row0), (141, .int 0)]) (w' := [0]) rfl rfl
        refine lv_istore (lv' := [(6, .int 0), (5, .int 1), (0, .ref b), (1, .ref aX), (2, .ref aZ), (3, .ref qO), (4, .int 0)]) hx hb dL_law_2823 hl (by decide) rfl (fun ls hl => ?_)
        refine lv_aload_n hx hb dL_law_2825 rfl (lv_at hl 4 rfl) ?_
        have hPc := hP.sub (ws' := [(aZ, .inr (15, s136))]) [1] rfl
        have hDc := hD.sub (ws' := [(aZ, .inr (15, s136))]) [1] (by decide) rfl
        have hKc := hK.sub (tys' := []) [] rfl
        have hFc := va_free (wc := [(aZ, .inr (15, s136))]) hD hS hA [1] rfl
        refine va_calli (va_runV (As := []) (rest := []) ⟨hx, hb, hml, hown, hts⟩ (z_X12_thrown l dC dI H.size aZ s136 (fh_sub o_s136.2 [0] rfl) ) (cwV 0 hts g_lk_44_z_X12_thrown_149 rfl rfl rfl (by decide +kernel) ⟨Nat.le_of_ble_eq_true rfl, Nat.le_of_ble_eq_true rfl⟩) ⟨fun a U g mk q => by obtain ⟨q0, q1, qP, qK, qD⟩ := q; exact ⟨q0, q1, qP, va_K.moved (u := U) (U := U.calling g mk a) (Vm.Alike.refl U.vm) qK, qD⟩, va_recv hK hP (ci := 15) (q0 := 1) rfl rfl, fun U hU hW => ⟨rfl, by rw [hU], by rw [hU]; exact hPc, va_K.moved hW.alike hKc, hDc.weaken (fun _ _ _ _ => trivial)⟩⟩ rfl rfl hl.1 rfl (lv_room (Nat.le_of_ble_eq_true rfl)) dL_law_2826 ⟨Nat.le_of_ble_eq_true rfl, Nat.le_of_ble_eq_true rfl⟩) hS (fun q _ h => hFc q h) hFc (fun r148 u t H1 locs ht hvm hw hB hz1 hk1 hS => ?_)
        obtain ⟨hP1, hK1, hD1⟩ := hB
        rw [ht] at hP1
        try dsimp only at hw
        obtain ⟨hP, hD⟩ := va_join (wr := [(qO, .inl (kO, 1, .inr (.inl f104))), (q_tape, .inl (k_tape, 4000, .inl f137)), (q_things, .inl (k_things, 5, .inl f_things)), (q_rootMany, .inl (k_rootMany, 5, .inl f_rootMany)), (q_row0, .inl (k_row0, 9000, .inl f138))]) (w1 := [(aZ, .inr (15, s136))]) hP hD [1] [0, 2, 3, 4, 5] rfl rfl (by decide) (by decide) hk1 hFc hP1 hD1
        have hK := hK.sub (tys' := [(kO, .long), (k_tape, .byte), (k_things, .int), (k_rootMany, .int), (k_row0, .byte)]) [0, 1, 2, 3, 4] rfl
        generalize H1 = H at hP hS ⊢
        have hP : va_P (dC, dI) vwCl [(qO, .inl (kO, 1, .inr (.inl f104))), (q_tape, .inl (k_tape, 4000, .inl f137)), (q_things, .inl (k_things, 5, .inl f_things)), (q_rootMany, .inl (k_rootMany, 5, .inl f_rootMany)), (q_row0, .inl (k_row0, 9000, .inl f138)), (aZ, .inr (15, s136))] H := hP
        have hD : va_D A [(qO, .inl (kO, 1, .inr (.inl f104))), (q_tape, .inl (k_tape, 4000, .inl f137)), (q_things, .inl (k_things, 5, .inl f_things)), (q_rootMany, .inl (k_rootMany, 5, .inl f_rootMany)), (q_row0, .inl (k_row0, 9000, .inl f138)), (aZ, .inr (15, s136))] := hD
        have er149 := hw
        subst er149
        refine lv_iload hx hb dL_law_2829 (lv_at hl 1 rfl) ?_
        refine lv_icmp_eq (tgt := 2836) hx hb dL_law_2831 (by decide) (fun c150 => ?_) (fun c150 => absurd c150 (by decide))
        refine lv_iload hx hb dL_law_2836 (lv_at hl 1 rfl) ?_
        refine lv_if_ne (tgt := 2853) hx hb dL_law_2838 (by decide) (fun c151 => ?_) (fun c151 => absurd c151 (by decide))
        refine lv_goto (tgt := 3111) hx hb dL_law_2853 (by decide) ?_
        exact lw_end hst C0 hA hAf hZ hY (Nat.le_of_ble_eq_true rfl) (Nat.le_of_ble_eq_true rfl) dC dI P0k P0 D0 hS ls (lv_sub hl [2, 6] rfl)
      · exact (by exfalso; (try simp only [i_lt, i_le, i_eq, kc_0, kc_4] at c107 c108 c144 c145); omega)
    · skip
      subst er112
      refine lv_istore (lv' := [(5, .int 0), (0, .ref b), (1, .ref aX), (2, .ref aZ), (3, .ref qO), (4, .int 0)]) hx hb dL_law_2811 hl (by decide) rfl (fun ls hl => ?_)
      refine lv_aload_n hx hb dL_law_2813 rfl (lv_at hl 3 rfl) ?_
      refine lv_aload_n hx hb dL_law_2814 rfl (lv_at hl 1 rfl) ?_
      refine lv_iload hx hb dL_law_2815 (lv_at hl 5 rfl) ?_
      refine lv_iconst (v := 1) hx hb dL_law_2817 (by decide) ?_
      refine lv_iadd hx hb dL_law_2818  ?_
      refine lv_topi (fun x152 ex152 => ?_)
      obtain rfl : x152 = 1 := ex152.trans (by decide)
      refine va_sld hx hb hX hbl hbA hS (show vp_in 1 6 from by unfold vp_in; decide) dL_law_2819 ?_
      refine lv_topi (fun x153 ex153 => ?_)
      obtain rfl : w1 = x153 := hw1.trans ex153.symm
      have hPc := hP.sub (ws' := [(aZ, .inr (15, fsZ)), (q_tape, .inl (k_tape, 4000, .inl f_tape)), (q_things, .inl (k_things, 5, .inl f_things)), (q_rootMany, .inl (k_rootMany, 5, .inl f_rootMany)), (q_row0, .inl (k_row0, 9000, .inl f_row0))]) [0, 1, 2, 3, 4] rfl
      have hDc := hD.sub (ws' := [(aZ, .inr (15, fsZ)), (q_tape, .inl (k_tape, 4000, .inl f_tape)), (q_things, .inl (k_things, 5, .inl f_things)), (q_rootMany, .inl (k_rootMany, 5, .inl f_rootMany)), (q_row0, .inl (k_row0, 9000, .inl f_row0))]) [0, 1, 2, 3, 4] (by decide) rfl
      have hKc := hK.sub (tys' := [(k_tape, .byte), (k_things, .int), (k_rootMany, .int), (k_row0, .byte)]) [0, 1, 2, 3] rfl
      have hFc := va_free (wc := [(aZ, .inr (15, fsZ)), (q_tape, .inl (k_tape, 4000, .inl f_tape)), (q_things, .inl (k_things, 5, .inl f_things)), (q_rootMany, .inl (k_rootMany, 5, .inl f_rootMany)), (q_row0, .inl (k_row0, 9000, .inl f_row0))]) hD hS hA [0, 1, 2, 3, 4] rfl
      refine va_calli (va_runV (As := [.int w1]) (rest := []) ⟨hx, hb, hml, hown, hts⟩ (z_X12_bytes l dC dI H.size aZ fsZ q_tape f_tape k_tape q_things f_things k_things q_rootMany f_rootMany k_rootMany q_row0 f_row0 k_row0 w1 (fh_sub o_fsZ.2 [0, 1, 2, 3, 4, 5, 6] rfl) hz_f_things hz_f_rootMany) (cwV 1 hts g_lk_44_z_X12_bytes_293 rfl rfl rfl (by decide +kernel) ⟨Nat.le_of_ble_eq_true rfl, Nat.le_of_ble_eq_true rfl⟩) ⟨fun a U g mk q => by obtain ⟨q0, q1, qP, qK, qD⟩ := q; exact ⟨q0, q1, qP, va_K.moved (u := U) (U := U.calling g mk a) (Vm.Alike.refl U.vm) qK, qD⟩, va_recv hK hP (ci := 15) (q0 := 0) rfl rfl, fun U hU hW => ⟨rfl, by rw [hU], by rw [hU]; exact hPc, va_K.moved hW.alike hKc, hDc.weaken (fun _ _ _ _ => trivial)⟩⟩ rfl rfl hl.1 rfl (lv_room (Nat.le_of_ble_eq_true rfl)) dL_law_2820 ⟨Nat.le_of_ble_eq_true rfl, Nat.le_of_ble_eq_true rfl⟩) hS (fun q _ h => hFc q h) hFc (fun r154 u t H1 locs ht hvm hw hB hz1 hk1 hS => ?_)
      obtain ⟨s155, f156, f157⟩ := u
      obtain ⟨hP1, hK1, hD1⟩ := hB
      rw [ht] at hP1
      try dsimp only at hw
      obtain ⟨hP, hD⟩ := va_join (wr := [(qO, .inl (kO, 1, .inr (.inl f104)))]) (w1 := [(aZ, .inr (15, s155)), (q_tape, .inl (k_tape, 4000, .inl f156)), (q_things, .inl (k_things, 5, .inl f_things)), (q_rootMany, .inl (k_rootMany, 5, .inl f_rootMany)), (q_row0, .inl (k_row0, 9000, .inl f157))]) hP hD [0, 1, 2, 3, 4] [5] rfl rfl (by decide) (by decide) hk1 hFc hP1 hD1
      have hK := hK.sub (tys' := [(kO, .long), (k_tape, .byte), (k_things, .int), (k_rootMany, .int), (k_row0, .byte)]) [4, 0, 1, 2, 3] rfl
      generalize H1 = H at hP hS ⊢
      have hP : va_P (dC, dI) vwCl [(qO, .inl (kO, 1, .inr (.inl f104))), (aZ, .inr (15, s155)), (q_tape, .inl (k_tape, 4000, .inl f156)), (q_things, .inl (k_things, 5, .inl f_things)), (q_rootMany, .inl (k_rootMany, 5, .inl f_rootMany)), (q_row0, .inl (k_row0, 9000, .inl f157))] H := hP
      have hD : va_D A [(qO, .inl (kO, 1, .inr (.inl f104))), (aZ, .inr (15, s155)), (q_tape, .inl (k_tape, 4000, .inl f156)), (q_things, .inl (k_things, 5, .inl f_things)), (q_rootMany, .inl (k_rootMany, 5, .inl f_rootMany)), (q_row0, .inl (k_row0, 9000, .inl f157))] := hD
      rcases hw with ⟨c158, er159, o_s155⟩ | ⟨c160, c161, er162, o_s155⟩ | ⟨c163, c164, er165, o_s155, q166⟩
      · exact (by exfalso; (try simp only [i_lt, i_le, i_eq, kc_0, kc_4] at c110 c111 c158); omega)
      · exact (by exfalso; (try simp only [i_lt, i_le, i_eq, kc_0, kc_4] at c110 c111 c160 c161); omega)
      · skip
        subst er165
        have o_s155 := ow_on o_fsZ o_s155 (l' := [(3, .int 8), (0, .int 0), (141, .int 8), (139, .ref q_row0), (139, .ref q_row0), (139, .ref q_row0), (139, .ref q_row0), (139, .ref q_row0), (139, .ref q_row0), (139, .ref q_row0), (139, .ref q_row0), (139, .ref q_row0), (139, .ref q_row0), (139, .ref q_row0), (139, .ref q_row0), (139, .ref q_row0), (139, .ref q_row0), (139, .ref q_row0), (48, .ref q_things), (65, .ref q_rootMany), (139, .ref q_row0), (1, .ref q_tape), (48, .ref q_things), (65, .ref q_rootMany), (139, .ref q_row0), (1, .ref q_tape), (48, .ref q_things), (65, .ref q_rootMany), (139, .ref q_row0)]) (w' := [3, 0, 141]) rfl rfl
        refine lv_istore (lv' := [(6, .int 8), (5, .int 0), (0, .ref b), (1, .ref aX), (2, .ref aZ), (3, .ref qO), (4, .int 0)]) hx hb dL_law_2823 hl (by decide) rfl (fun ls hl => ?_)
        refine lv_aload_n hx hb dL_law_2825 rfl (lv_at hl 4 rfl) ?_
        have hPc := hP.sub (ws' := [(aZ, .inr (15, s155))]) [1] rfl
        have hDc := hD.sub (ws' := [(aZ, .inr (15, s155))]) [1] (by decide) rfl
        have hKc := hK.sub (tys' := []) [] rfl
        have hFc := va_free (wc := [(aZ, .inr (15, s155))]) hD hS hA [1] rfl
        refine va_calli (va_runV (As := []) (rest := []) ⟨hx, hb, hml, hown, hts⟩ (z_X12_thrown_2 l dC dI H.size aZ s155 (fh_sub o_s155.2 [1] rfl) ) (cwV 0 hts g_lk_44_z_X12_thrown_2_149 rfl rfl rfl (by decide +kernel) ⟨Nat.le_of_ble_eq_true rfl, Nat.le_of_ble_eq_true rfl⟩) ⟨fun a U g mk q => by obtain ⟨q0, q1, qP, qK, qD⟩ := q; exact ⟨q0, q1, qP, va_K.moved (u := U) (U := U.calling g mk a) (Vm.Alike.refl U.vm) qK, qD⟩, va_recv hK hP (ci := 15) (q0 := 1) rfl rfl, fun U hU hW => ⟨rfl, by rw [hU], by rw [hU]; exact hPc, va_K.moved hW.alike hKc, hDc.weaken (fun _ _ _ _ => trivial)⟩⟩ rfl rfl hl.1 rfl (lv_room (Nat.le_of_ble_eq_true rfl)) dL_law_2826 ⟨Nat.le_of_ble_eq_true rfl, Nat.le_of_ble_eq_true rfl⟩) hS (fun q _ h => hFc q h) hFc (fun r167 u t H1 locs ht hvm hw hB hz1 hk1 hS => ?_)
        obtain ⟨hP1, hK1, hD1⟩ := hB
        rw [ht] at hP1
        try dsimp only at hw
        obtain ⟨hP, hD⟩ := va_join (wr := [(qO, .inl (kO, 1, .inr (.inl f104))), (q_tape, .inl (k_tape, 4000, .inl f156)), (q_things, .inl (k_things, 5, .inl f_things)), (q_rootMany, .inl (k_rootMany, 5, .inl f_rootMany)), (q_row0, .inl (k_row0, 9000, .inl f157))]) (w1 := [(aZ, .inr (15, s155))]) hP hD [1] [0, 2, 3, 4, 5] rfl rfl (by decide) (by decide) hk1 hFc hP1 hD1
        have hK := hK.sub (tys' := [(kO, .long), (k_tape, .byte), (k_things, .int), (k_rootMany, .int), (k_row0, .byte)]) [0, 1, 2, 3, 4] rfl
        generalize H1 = H at hP hS ⊢
        have hP : va_P (dC, dI) vwCl [(qO, .inl (kO, 1, .inr (.inl f104))), (q_tape, .inl (k_tape, 4000, .inl f156)), (q_things, .inl (k_things, 5, .inl f_things)), (q_rootMany, .inl (k_rootMany, 5, .inl f_rootMany)), (q_row0, .inl (k_row0, 9000, .inl f157)), (aZ, .inr (15, s155))] H := hP
        have hD : va_D A [(qO, .inl (kO, 1, .inr (.inl f104))), (q_tape, .inl (k_tape, 4000, .inl f156)), (q_things, .inl (k_things, 5, .inl f_things)), (q_rootMany, .inl (k_rootMany, 5, .inl f_rootMany)), (q_row0, .inl (k_row0, 9000, .inl f157)), (aZ, .inr (15, s155))] := hD
        have er168 := hw
        subst er168
        refine lv_iload hx hb dL_law_2829 (lv_at hl 1 rfl) ?_
        refine lv_icmp_eq (tgt := 2836) hx hb dL_law_2831 (by decide) (fun c169 => ?_) (fun c169 => absurd c169 (by decide))
        refine lv_iload hx hb dL_law_2836 (lv_at hl 1 rfl) ?_
        refine lv_if_ne (tgt := 2853) hx hb dL_law_2838 (by decide) (fun c170 => absurd c170 (by decide)) (fun c170 => ?_)
        refine lv_aload_n hx hb dL_law_2841 rfl (lv_at hl 5 rfl) ?_
        refine lv_iconst (v := 0) hx hb dL_law_2842 (by decide) ?_
        refine va_lald hx hb hK hP 0 0 rfl rfl (show vp_in 0 1 from by unfold vp_in; decide) dL_law_2843 ?_
        refine lv_topl (fun x171 ex171 => ?_)
        obtain rfl : 8 = x171 := (ex171.trans q113).symm
        refine lv_iload hx hb dL_law_2844 (lv_at hl 0 rfl) ?_
        refine lv_i2l hx hb dL_law_2846 rfl ?_
        refine lv_topl (fun x172 ex172 => ?_)
        obtain rfl : x172 = 8 := ex172.trans (by decide)
        refine W.lcmp hx hb dL_law_2847  ?_
        refine lv_topi (fun x173 ex173 => ?_)
        obtain rfl : x173 = 0 := ex173.trans (by decide)
        refine lv_if_eq (tgt := 2853) hx hb dL_law_2848 (by decide) (fun c174 => ?_) (fun c174 => absurd c174 (by decide))
        refine lv_goto (tgt := 3111) hx hb dL_law_2853 (by decide) ?_
        exact lw_end hst C0 hA hAf hZ hY (Nat.le_of_ble_eq_true rfl) (Nat.le_of_ble_eq_true rfl) dC dI P0k P0 D0 hS ls (lv_sub hl [2, 6] rfl)

set_option maxRecDepth 20000 in
theorem g_lk_45_z_X11_letter_294 : GoodIn lwW (wsV RL 294 RX11 yX11_letter w_z_X11_letter) := goodIn_app (goodIn_sub (ws := ([.methodLink RL 294 yX11_letter, .instanceMethod yX11_letter, .selects RX11 yX11_letter yX11_letter, .initialized RX11] : List Cond)) (gm_c (gm_at lwV_91_in 6 rfl) (gm_c (gm_at lwV_91_in 7 rfl) (gm_c (gm_at lwV_91_in 8 rfl) (gm_c (gm_at lwV_0_in 3 rfl) gm_nil)))) (by decide +kernel)) (goodIn_ca (goodIn_sub (ws := .code yX11_letter cX11_letter 2 (some .int) :: l_z_X11_letter) (gm_c (gm_at lwV_92_in 0 rfl) (gm_c (gm_at lwV_0_in 9 rfl) (gm_c (gm_at lwV_4_in 2 rfl) gm_nil))) (by decide +kernel)) (goodIn_app (goodIn_in il_X11 gd_X11) (goodIn_in il_X9 gd_X9)))
set_option maxRecDepth 20000 in
theorem g_lk_45_z_X12_letter_297 : GoodIn lwW (wsV RL 297 RX12 yX12_letter w_z_X12_letter) := goodIn_app (goodIn_sub (ws := ([.methodLink RL 297 yX12_letter, .instanceMethod yX12_letter, .selects RX12 yX12_letter yX12_letter, .initialized RX12] : List Cond)) (gm_c (gm_at lwV_91_in 9 rfl) (gm_c (gm_at lwV_91_in 10 rfl) (gm_c (gm_at lwV_91_in 11 rfl) (gm_c (gm_at lwV_0_in 7 rfl) gm_nil)))) (by decide +kernel)) (goodIn_ca (goodIn_sub (ws := .code yX12_letter cX12_letter 2 (some .int) :: l_z_X12_letter) (gm_c (gm_at lwV_92_in 1 rfl) (gm_c (gm_at lwV_1_in 5 rfl) (gm_c (gm_at lwV_3_in 5 rfl) gm_nil))) (by decide +kernel)) (goodIn_in il_X12 gd_X12))
set_option maxHeartbeats 4000000 in
set_option maxRecDepth 100000 in
/-- the law, one call: letter -/
theorem lk_45 {p : Program} {l : Launch} {e : Env} {s : State} {m : MethodId} {below : List Frame} {meth : Method} {c : Code} {b : Nat} {xs : Nat → Int32} (hst : l.stackTraces = false) (C0 : lw_At p s m meth c b 6 xs) {A : Nat → Prop} (hA : ∀ q : Nat, s.heap.size ≤ q → A q) (hAf : ∀ q : Nat, A q → s.heap.size ≤ q) (hZ : Zz A s) (hY : Yy s) (dC : Nat → ClassId) (dI : Nat → Nat → Nat) (aX : Nat) (fsX : List Value) (aT : Nat) (fsT : List Value) (aZ : Nat) (fsZ : List Value) (qO : Nat) (w1 : Int32) (hw1 : w1 = xs (1 : Int32).toNatClampNeg) (w2 : Int32) (hw2 : w2 = xs (2 : Int32).toNatClampNeg) (w3 : Int32) (hw3 : w3 = xs (3 : Int32).toNatClampNeg) (w4 : Int32) (hw4 : w4 = xs (4 : Int32).toNatClampNeg) (w5 : Int32) (hw5 : w5 = xs (5 : Int32).toNatClampNeg) (k_fsX : fh fsX 18 [(0, .ref aT)]) (k_fsT : fh fsT 12 [(1, .int 0)]) (k_fsZ : fh fsZ 150 [(3, .int 0)])  {H : Heap} {locs : List Loc} (hK : va_K (dC, dI) vwCl [] s) (hP : va_P (dC, dI) vwCl [(aX, .inr (14, fsX)), (aT, .inr (12, fsT)), (aZ, .inr (15, fsZ))] H) (hD : va_D A [(aX, .inr (14, fsX)), (aT, .inr (12, fsT)), (aZ, .inr (15, fsZ))]) (hS : va_S A s.heap H locs) (ls : Array Slot) (hl : lv_has ls 8 [(0, .ref b), (1, .ref aX), (2, .ref aZ), (3, .ref qO), (4, .int 0)]) : W p l e room_1 s m #[Value.ref b] below meth c H locs 390 571359 (lw_Z below #[Value.ref b] s) (F0 m 2856 ls []) := by
  obtain ⟨hx, hb, hr, hml, hown0, hts0, hX, hbl, hlocks, hgv⟩ := id C0
  have hown : s.vm.findClass RL = some m.cls := hown0
  have hts : ∀ w ∈ lwW, w.before #[Value.ref b] s = true := fun w h => hts0 w (lwW_in w h)
  have hbA : ¬ A b := fun h => absurd (hAf b h) (Nat.not_le.mpr hbl)
  have o_fsX := ow_0 k_fsX
  have o_fsT := ow_0 k_fsT
  have o_fsZ := ow_0 k_fsZ
  refine lv_aload_n hx hb dL_law_2856 rfl (lv_at hl 1 rfl) ?_
  refine lv_aload_n hx hb dL_law_2857 rfl (lv_at hl 0 rfl) ?_
  refine lv_iload hx hb dL_law_2858 (lv_at hl 4 rfl) ?_
  refine lv_iconst (v := 1) hx hb dL_law_2860 (by decide) ?_
  refine lv_iadd hx hb dL_law_2861  ?_
  refine lv_topi (fun x101 ex101 => ?_)
  obtain rfl : x101 = 1 := ex101.trans (by decide)
  refine va_sld hx hb hX hbl hbA hS (show vp_in 1 6 from by unfold vp_in; decide) dL_law_2862 ?_
  refine lv_topi (fun x102 ex102 => ?_)
  obtain rfl : w1 = x102 := hw1.trans ex102.symm
  have hPc := hP.sub (ws' := [(aX, .inr (14, fsX)), (aT, .inr (12, fsT))]) [0, 1] rfl
  have hDc := hD.sub (ws' := [(aX, .inr (14, fsX)), (aT, .inr (12, fsT))]) [0, 1] (by decide) rfl
  have hKc := hK.sub (tys' := []) [] rfl
  have hFc := va_free (wc := [(aX, .inr (14, fsX)), (aT, .inr (12, fsT))]) hD hS hA [0, 1] rfl
  refine va_calli (va_runV (As := [.int w1]) (rest := []) ⟨hx, hb, hml, hown, hts⟩ (z_X11_letter l dC dI H.size aX fsX aT fsT w1 (fh_sub o_fsX.2 [0] rfl) (fh_sub o_fsT.2 [0] rfl) ) (cwV 1 hts g_lk_45_z_X11_letter_294 rfl rfl rfl (by decide +kernel) ⟨Nat.le_of_ble_eq_true rfl, Nat.le_of_ble_eq_true rfl⟩) ⟨fun a U g mk q => by obtain ⟨q0, q1, qP, qK, qD⟩ := q; exact ⟨q0, q1, qP, va_K.moved (u := U) (U := U.calling g mk a) (Vm.Alike.refl U.vm) qK, qD⟩, va_recv hK hP (ci := 14) (q0 := 0) rfl rfl, fun U hU hW => ⟨rfl, by rw [hU], by rw [hU]; exact hPc, va_K.moved hW.alike hKc, hDc.weaken (fun _ _ _ _ => trivial)⟩⟩ rfl rfl hl.1 rfl (lv_room (Nat.le_of_ble_eq_true rfl)) dL_law_2863 ⟨Nat.le_of_ble_eq_true rfl, Nat.le_of_ble_eq_true rfl⟩) hS (fun q _ h => hFc q h) hFc (fun r103 u t H1 locs ht hvm hw hB hz1 hk1 hS => ?_)
  obtain ⟨hP1, hK1, hD1⟩ := hB
  rw [ht] at hP1
  try dsimp only at hw
  obtain ⟨hP, hD⟩ := va_join (wr := [(aZ, .inr (15, fsZ))]) (w1 := [(aX, .inr (14, fsX)), (aT, .inr (12, fsT))]) hP hD [0, 1] [2] rfl rfl (by decide) (by decide) hk1 hFc hP1 hD1
  have hK := hK.sub (tys' := []) [] rfl
  generalize H1 = H at hP hS ⊢
  have hP : va_P (dC, dI) vwCl [(aZ, .inr (15, fsZ)), (aX, .inr (14, fsX)), (aT, .inr (12, fsT))] H := hP
  have hD : va_D A [(aZ, .inr (15, fsZ)), (aX, .inr (14, fsX)), (aT, .inr (12, fsT))] := hD
  rcases hw with ⟨c104, er105⟩ | ⟨c106, c107, er108⟩
  · skip
    subst er105
    refine lv_aload_n hx hb dL_law_2866 rfl (lv_at hl 2 rfl) ?_
    refine lv_aload_n hx hb dL_law_2867 rfl (lv_at hl 0 rfl) ?_
    refine lv_iload hx hb dL_law_2868 (lv_at hl 4 rfl) ?_
    refine lv_iconst (v := 1) hx hb dL_law_2870 (by decide) ?_
    refine lv_iadd hx hb dL_law_2871  ?_
    refine lv_topi (fun x109 ex109 => ?_)
    obtain rfl : x109 = 1 := ex109.trans (by decide)
    refine va_sld hx hb hX hbl hbA hS (show vp_in 1 6 from by unfold vp_in; decide) dL_law_2872 ?_
    refine lv_topi (fun x110 ex110 => ?_)
    obtain rfl : w1 = x110 := hw1.trans ex110.symm
    have hPc := hP.sub (ws' := [(aZ, .inr (15, fsZ))]) [0] rfl
    have hDc := hD.sub (ws' := [(aZ, .inr (15, fsZ))]) [0] (by decide) rfl
    have hKc := hK.sub (tys' := []) [] rfl
    have hFc := va_free (wc := [(aZ, .inr (15, fsZ))]) hD hS hA [0] rfl
    refine va_calli (va_runV (As := [.int w1]) (rest := [.int (-1)]) ⟨hx, hb, hml, hown, hts⟩ (z_X12_letter l dC dI H.size aZ fsZ w1 (fh_sub o_fsZ.2 [0] rfl) ) (cwV 1 hts g_lk_45_z_X12_letter_297 rfl rfl rfl (by decide +kernel) ⟨Nat.le_of_ble_eq_true rfl, Nat.le_of_ble_eq_true rfl⟩) ⟨fun a U g mk q => by obtain ⟨q0, q1, qP, qK, qD⟩ := q; exact ⟨q0, q1, qP, va_K.moved (u := U) (U := U.calling g mk a) (Vm.Alike.refl U.vm) qK, qD⟩, va_recv hK hP (ci := 15) (q0 := 0) rfl rfl, fun U hU hW => ⟨rfl, by rw [hU], by rw [hU]; exact hPc, va_K.moved hW.alike hKc, hDc.weaken (fun _ _ _ _ => trivial)⟩⟩ rfl rfl hl.1 rfl (lv_room (Nat.le_of_ble_eq_true rfl)) dL_law_2873 ⟨Nat.le_of_ble_eq_true rfl, Nat.le_of_ble_eq_true rfl⟩) hS (fun q _ h => hFc q h) hFc (fun r111 u t H1 locs ht hvm hw hB hz1 hk1 hS => ?_)
    obtain ⟨s112, rfl⟩ : ∃ z, z = u := ⟨_, rfl⟩
    obtain ⟨hP1, hK1, hD1⟩ := hB
    rw [ht] at hP1
    try dsimp only at hw
    obtain ⟨hP, hD⟩ := va_join (wr := [(aX, .inr (14, fsX)), (aT, .inr (12, fsT))]) (w1 := [(aZ, .inr (15, s112))]) hP hD [0] [1, 2] rfl rfl (by decide) (by decide) hk1 hFc hP1 hD1
    have hK := hK.sub (tys' := []) [] rfl
    generalize H1 = H at hP hS ⊢
    have hP : va_P (dC, dI) vwCl [(aX, .inr (14, fsX)), (aT, .inr (12, fsT)), (aZ, .inr (15, s112))] H := hP
    have hD : va_D A [(aX, .inr (14, fsX)), (aT, .inr (12, fsT)), (aZ, .inr (15, s112))] := hD
    rcases hw with ⟨c113, er114, o_s112⟩ | ⟨c115, c116, er117, o_s112⟩
    · skip
      subst er114
      have o_s112 := ow_on o_fsZ o_s112 (l' := [(0, .int 0), (3, .int 0), (3, .int 0)]) (w' := [0]) rfl rfl
      refine lv_icmp_eq (tgt := 3111) hx hb dL_law_2876 (by decide) (fun c118 => ?_) (fun c118 => absurd c118 (by decide))
      exact lw_end hst C0 hA hAf hZ hY (Nat.le_of_ble_eq_true rfl) (Nat.le_of_ble_eq_true rfl) dC dI P0k P0 D0 hS ls (lv_sub hl [0, 4] rfl)
    · exact (by exfalso; (try simp only [i_lt, i_le, i_eq, kc_0] at c104 c115 c116); omega)
  · skip
    subst er108
    refine lv_aload_n hx hb dL_law_2866 rfl (lv_at hl 2 rfl) ?_
    refine lv_aload_n hx hb dL_law_2867 rfl (lv_at hl 0 rfl) ?_
    refine lv_iload hx hb dL_law_2868 (lv_at hl 4 rfl) ?_
    refine lv_iconst (v := 1) hx hb dL_law_2870 (by decide) ?_
    refine lv_iadd hx hb dL_law_2871  ?_
    refine lv_topi (fun x119 ex119 => ?_)
    obtain rfl : x119 = 1 := ex119.trans (by decide)
    refine va_sld hx hb hX hbl hbA hS (show vp_in 1 6 from by unfold vp_in; decide) dL_law_2872 ?_
    refine lv_topi (fun x120 ex120 => ?_)
    obtain rfl : w1 = x120 := hw1.trans ex120.symm
    have hPc := hP.sub (ws' := [(aZ, .inr (15, fsZ))]) [0] rfl
    have hDc := hD.sub (ws' := [(aZ, .inr (15, fsZ))]) [0] (by decide) rfl
    have hKc := hK.sub (tys' := []) [] rfl
    have hFc := va_free (wc := [(aZ, .inr (15, fsZ))]) hD hS hA [0] rfl
    refine va_calli (va_runV (As := [.int w1]) (rest := [.int (-1)]) ⟨hx, hb, hml, hown, hts⟩ (z_X12_letter l dC dI H.size aZ fsZ w1 (fh_sub o_fsZ.2 [0] rfl) ) (cwV 1 hts g_lk_45_z_X12_letter_297 rfl rfl rfl (by decide +kernel) ⟨Nat.le_of_ble_eq_true rfl, Nat.le_of_ble_eq_true rfl⟩) ⟨fun a U g mk q => by obtain ⟨q0, q1, qP, qK, qD⟩ := q; exact ⟨q0, q1, qP, va_K.moved (u := U) (U := U.calling g mk a) (Vm.Alike.refl U.vm) qK, qD⟩, va_recv hK hP (ci := 15) (q0 := 0) rfl rfl, fun U hU hW => ⟨rfl, by rw [hU], by rw [hU]; exact hPc, va_K.moved hW.alike hKc, hDc.weaken (fun _ _ _ _ => trivial)⟩⟩ rfl rfl hl.1 rfl (lv_room (Nat.le_of_ble_eq_true rfl)) dL_law_2873 ⟨Nat.le_of_ble_eq_true rfl, Nat.le_of_ble_eq_true rfl⟩) hS (fun q _ h => hFc q h) hFc (fun r121 u t H1 locs ht hvm hw hB hz1 hk1 hS => ?_)
    obtain ⟨s122, rfl⟩ : ∃ z, z = u := ⟨_, rfl⟩
    obtain ⟨hP1, hK1, hD1⟩ := hB
    rw [ht] at hP1
    try dsimp only at hw
    obtain ⟨hP, hD⟩ := va_join (wr := [(aX, .inr (14, fsX)), (aT, .inr (12, fsT))]) (w1 := [(aZ, .inr (15, s122))]) hP hD [0] [1, 2] rfl rfl (by decide) (by decide) hk1 hFc hP1 hD1
    have hK := hK.sub (tys' := []) [] rfl
    generalize H1 = H at hP hS ⊢
    have hP : va_P (dC, dI) vwCl [(aX, .inr (14, fsX)), (aT, .inr (12, fsT)), (aZ, .inr (15, s122))] H := hP
    have hD : va_D A [(aX, .inr (14, fsX)), (aT, .inr (12, fsT)), (aZ, .inr (15, s122))] := hD
    rcases hw with ⟨c123, er124, o_s122⟩ | ⟨c125, c126, er127, o_s122⟩
    · exact (by exfalso; (try simp only [i_lt, i_le, i_eq, kc_0] at c106 c107 c123); omega)
    · skip
      subst er127
      have o_s122 := ow_on o_fsZ o_s122 (l' := [(0, .int 0), (3, .int 0), (3, .int 0)]) (w' := [0]) rfl rfl
      refine lv_icmp_eq (tgt := 3111) hx hb dL_law_2876 (by decide) (fun c128 => ?_) (fun c128 => absurd c128 (by decide))
      exact lw_end hst C0 hA hAf hZ hY (Nat.le_of_ble_eq_true rfl) (Nat.le_of_ble_eq_true rfl) dC dI P0k P0 D0 hS ls (lv_sub hl [0, 4] rfl)

set_option maxRecDepth 20000 in
theorem g_lk_46_z_L_load_298 : GoodIn lwW (va_wsS RL 298 yL_load w_z_L_load) := goodIn_app (goodIn_sub (ws := ([.methodLink RL 298 yL_load, .static yL_load, .initialized RL] : List Cond)) (gm_c (gm_at lwV_92_in 2 rfl) (gm_c (gm_at lwV_92_in 3 rfl) (gm_c (gm_at lwV_5_in 10 rfl) gm_nil))) (by decide +kernel)) (goodIn_ca (goodIn_sub (ws := .codeWith yL_load cL_load 4 (some .int) [(0, 9, 12, 13), (0, 9, 15, 15)] :: l_z_L_load) (gm_c (gm_at lwV_92_in 7 rfl) (gm_c (gm_at lwV_92_in 8 rfl) (gm_c (gm_at lwV_92_in 9 rfl) (gm_c (gm_at lwV_92_in 10 rfl) (gm_c (gm_at lwV_0_in 3 rfl) (gm_c (gm_at lwV_6_in 9 rfl) (gm_c (gm_at lwV_6_in 10 rfl) (gm_c (gm_at lwV_92_in 11 rfl) (gm_c (gm_at lwV_54_in 10 rfl) (gm_c (gm_at lwV_54_in 11 rfl) (gm_c (gm_at lwV_87_in 10 rfl) (gm_c (gm_at lwV_0_in 9 rfl) (gm_c (gm_at lwV_88_in 4 rfl) (gm_c (gm_at lwV_4_in 2 rfl) (gm_c (gm_at lwV_93_in 0 rfl) (gm_c (gm_at lwV_93_in 1 rfl) (gm_c (gm_at lwV_93_in 2 rfl) (gm_c (gm_at lwV_93_in 3 rfl) (gm_c (gm_at lwV_88_in 2 rfl) (gm_c (gm_at lwV_93_in 4 rfl) (gm_c (gm_at lwV_93_in 5 rfl) (gm_c (gm_at lwV_38_in 7 rfl) (gm_c (gm_at lwV_38_in 8 rfl) (gm_c (gm_at lwV_38_in 9 rfl) (gm_c (gm_at lwV_7_in 5 rfl) (gm_c (gm_at lwV_7_in 6 rfl) (gm_c (gm_at lwV_55_in 6 rfl) (gm_c (gm_at lwV_55_in 7 rfl) (gm_c (gm_at lwV_55_in 8 rfl) (gm_c (gm_at lwV_7_in 0 rfl) (gm_c (gm_at lwV_7_in 1 rfl) (gm_c (gm_at lwV_55_in 9 rfl) (gm_c (gm_at lwV_93_in 6 rfl) (gm_c (gm_at lwV_93_in 7 rfl) (gm_c (gm_at lwV_93_in 8 rfl) (gm_c (gm_at lwV_93_in 9 rfl) (gm_c (gm_at lwV_93_in 10 rfl) (gm_c (gm_at lwV_93_in 11 rfl) (gm_c (gm_at lwV_94_in 0 rfl) (gm_c (gm_at lwV_94_in 1 rfl) (gm_c (gm_at lwV_56_in 0 rfl) (gm_c (gm_at lwV_56_in 1 rfl) (gm_c (gm_at lwV_55_in 4 rfl) (gm_c (gm_at lwV_94_in 2 rfl) (gm_c (gm_at lwV_94_in 3 rfl) (gm_c (gm_at lwV_94_in 4 rfl) (gm_c (gm_at lwV_56_in 6 rfl) (gm_c (gm_at lwV_56_in 5 rfl) (gm_c (gm_at lwV_56_in 7 rfl) (gm_c (gm_at lwV_56_in 8 rfl) (gm_c (gm_at lwV_56_in 9 rfl) (gm_c (gm_at lwV_56_in 10 rfl) (gm_c (gm_at lwV_94_in 5 rfl) (gm_c (gm_at lwV_94_in 6 rfl) (gm_c (gm_at lwV_94_in 7 rfl) (gm_c (gm_at lwV_94_in 8 rfl) (gm_c (gm_at lwV_94_in 9 rfl) (gm_c (gm_at lwV_45_in 1 rfl) (gm_c (gm_at lwV_45_in 2 rfl) (gm_c (gm_at lwV_45_in 3 rfl) gm_nil)))))))))))))))))))))))))))))))))))))))))))))))))))))))))))) (by decide +kernel)) (goodIn_app (goodIn_in il_X11 gd_X11) (goodIn_app (goodIn_in il_X9 gd_X9) (goodIn_app (goodIn_in il_X0 gd_X0) (goodIn_app (goodIn_in il_at0_X11_129 gd_at0_X11_129) (goodIn_app (goodIn_in il_at0_X11_122 gd_at0_X11_122) (goodIn_app (goodIn_in il_X5 gd_X5) (goodIn_in il_X8 gd_X8))))))))
set_option maxRecDepth 20000 in
theorem g_lk_46_z_X12_load_300 : GoodIn lwW (wsV RL 300 RX12 yX12_load w_z_X12_load) := goodIn_app (goodIn_sub (ws := ([.methodLink RL 300 yX12_load, .instanceMethod yX12_load, .selects RX12 yX12_load yX12_load, .initialized RX12] : List Cond)) (gm_c (gm_at lwV_92_in 4 rfl) (gm_c (gm_at lwV_92_in 5 rfl) (gm_c (gm_at lwV_92_in 6 rfl) (gm_c (gm_at lwV_0_in 7 rfl) gm_nil)))) (by decide +kernel)) (goodIn_ca (goodIn_sub (ws := .code yX12_load cX12_load 3 (some .int) :: l_z_X12_load) (gm_c (gm_at lwV_94_in 10 rfl) (gm_c (gm_at lwV_57_in 0 rfl) (gm_c (gm_at lwV_57_in 1 rfl) (gm_c (gm_at lwV_57_in 2 rfl) (gm_c (gm_at lwV_0_in 7 rfl) (gm_c (gm_at lwV_1_in 5 rfl) (gm_c (gm_at lwV_3_in 5 rfl) (gm_c (gm_at lwV_90_in 4 rfl) (gm_c (gm_at lwV_94_in 11 rfl) (gm_c (gm_at lwV_95_in 0 rfl) (gm_c (gm_at lwV_95_in 1 rfl) (gm_c (gm_at lwV_46_in 10 rfl) (gm_c (gm_at lwV_46_in 4 rfl) (gm_c (gm_at lwV_46_in 11 rfl) (gm_c (gm_at lwV_53_in 0 rfl) (gm_c (gm_at lwV_57_in 10 rfl) (gm_c (gm_at lwV_95_in 2 rfl) (gm_c (gm_at lwV_95_in 3 rfl) (gm_c (gm_at lwV_95_in 4 rfl) (gm_c (gm_at lwV_95_in 5 rfl) (gm_c (gm_at lwV_95_in 6 rfl) (gm_c (gm_at lwV_95_in 7 rfl) (gm_c (gm_at lwV_57_in 9 rfl) (gm_c (gm_at lwV_95_in 8 rfl) (gm_c (gm_at lwV_52_in 7 rfl) (gm_c (gm_at lwV_52_in 8 rfl) (gm_c (gm_at lwV_52_in 9 rfl) (gm_c (gm_at lwV_52_in 10 rfl) gm_nil)))))))))))))))))))))))))))) (by decide +kernel)) (goodIn_in il_X12 gd_X12))
set_option maxRecDepth 20000 in
theorem g_lk_46_z_X12_thrown_149 : GoodIn lwW (wsV RL 149 RX12 yX12_thrown w_z_X12_thrown) := goodIn_app (goodIn_sub (ws := ([.methodLink RL 149 yX12_thrown, .instanceMethod yX12_thrown, .selects RX12 yX12_thrown yX12_thrown, .initialized RX12] : List Cond)) (gm_c (gm_at lwV_6_in 2 rfl) (gm_c (gm_at lwV_6_in 3 rfl) (gm_c (gm_at lwV_6_in 4 rfl) (gm_c (gm_at lwV_0_in 7 rfl) gm_nil)))) (by decide +kernel)) (goodIn_ca (goodIn_sub (ws := .code yX12_thrown cX12_thrown 1 (some .int) :: l_z_X12_thrown) (gm_c (gm_at lwV_9_in 9 rfl) (gm_c (gm_at lwV_1_in 5 rfl) gm_nil)) (by decide +kernel)) (goodIn_in il_X12 gd_X12))
set_option maxRecDepth 20000 in
theorem g_lk_46_z_X12_thrown_1_149 : GoodIn lwW (wsV RL 149 RX12 yX12_thrown w_z_X12_thrown_1) := goodIn_app (goodIn_sub (ws := ([.methodLink RL 149 yX12_thrown, .instanceMethod yX12_thrown, .selects RX12 yX12_thrown yX12_thrown, .initialized RX12] : List Cond)) (gm_c (gm_at lwV_6_in 2 rfl) (gm_c (gm_at lwV_6_in 3 rfl) (gm_c (gm_at lwV_6_in 4 rfl) (gm_c (gm_at lwV_0_in 7 rfl) gm_nil)))) (by decide +kernel)) (goodIn_ca (goodIn_sub (ws := .code yX12_thrown cX12_thrown 1 (some .int) :: l_z_X12_thrown_1) (gm_c (gm_at lwV_9_in 9 rfl) (gm_c (gm_at lwV_1_in 5 rfl) gm_nil)) (by decide +kernel)) (goodIn_in il_X12 gd_X12))
set_option maxHeartbeats 4000000 in
set_option maxRecDepth 100000 in
/-- the law, one call: load -/
theorem lk_46 {p : Program} {l : Launch} {e : Env} {s : State} {m : MethodId} {below : List Frame} {meth : Method} {c : Code} {b : Nat} {xs : Nat → Int32} (hst : l.stackTraces = false) (C0 : lw_At p s m meth c b 6 xs) {A : Nat → Prop} (hA : ∀ q : Nat, s.heap.size ≤ q → A q) (hAf : ∀ q : Nat, A q → s.heap.size ≤ q) (hZ : Zz A s) (hY : Yy s) (dC : Nat → ClassId) (dI : Nat → Nat → Nat) (aX : Nat) (fsX : List Value) (aT : Nat) (fsT : List Value) (aSp : Nat) (fsS : List Value) (aSq : Nat) (fs2 : List Value) (aA : Nat) (fsA : List Value) (aZ : Nat) (fsZ : List Value) (q_things : Nat) (f_things : Nat → Int32) (k_things : ClassId) (qO : Nat) (qb : Nat) (w1 : Int32) (hw1 : w1 = xs (1 : Int32).toNatClampNeg) (w2 : Int32) (hw2 : w2 = xs (2 : Int32).toNatClampNeg) (w3 : Int32) (hw3 : w3 = xs (3 : Int32).toNatClampNeg) (w4 : Int32) (hw4 : w4 = xs (4 : Int32).toNatClampNeg) (w5 : Int32) (hw5 : w5 = xs (5 : Int32).toNatClampNeg) (k_fsX : fh fsX 18 [(0, .ref aT), (5, .ref aSp), (13, .ref aA)]) (k_fsT : fh fsT 12 [(0, .ref qb), (1, .int 0)]) (k_fsS : fh fsS 21 [(0, .int 0), (20, .ref aSq)]) (k_fs2 : fh fs2 18 []) (k_fsA : fh fsA 15 []) (k_fsZ : fh fsZ 150 [(0, .int 0), (3, .int 0), (48, .ref q_things), (83, .int 0), (84, .int 0), (141, .int 0), (142, .int 0)]) (hz_f_things : ∀ j, f_things j = 0) {H : Heap} {locs : List Loc} (hK : va_K (dC, dI) vwCl [(k_things, .int)] s) (hP : va_P (dC, dI) vwCl [(aX, .inr (14, fsX)), (aT, .inr (12, fsT)), (aSp, .inr (8, fsS)), (aSq, .inr (11, fs2)), (aA, .inr (3, fsA)), (aZ, .inr (15, fsZ)), (q_things, .inl (k_things, 5, .inl f_things))] H) (hD : va_D A [(aX, .inr (14, fsX)), (aT, .inr (12, fsT)), (aSp, .inr (8, fsS)), (aSq, .inr (11, fs2)), (aA, .inr (3, fsA)), (aZ, .inr (15, fsZ)), (q_things, .inl (k_things, 5, .inl f_things))]) (hS : va_S A s.heap H locs) (ls : Array Slot) (hl : lv_has ls 8 [(0, .ref b), (1, .ref aX), (2, .ref aZ), (3, .ref qO), (4, .int 0)]) : W p l e room_1 s m #[Value.ref b] below meth c H locs 390 571359 (lw_Z below #[Value.ref b] s) (F0 m 2881 ls []) := by
  obtain ⟨hx, hb, hr, hml, hown0, hts0, hX, hbl, hlocks, hgv⟩ := id C0
  have hown : s.vm.findClass RL = some m.cls := hown0
  have hts : ∀ w ∈ lwW, w.before #[Value.ref b] s = true := fun w h => hts0 w (lwW_in w h)
  have hbA : ¬ A b := fun h => absurd (hAf b h) (Nat.not_le.mpr hbl)
  have o_fsX := ow_0 k_fsX
  have o_fsT := ow_0 k_fsT
  have o_fsS := ow_0 k_fsS
  have o_fs2 := ow_0 k_fs2
  have o_fsA := ow_0 k_fsA
  have o_fsZ := ow_0 k_fsZ
  refine lv_aload_n hx hb dL_law_2881 rfl (lv_at hl 1 rfl) ?_
  refine lv_aload_n hx hb dL_law_2882 rfl (lv_at hl 0 rfl) ?_
  refine lv_iload hx hb dL_law_2883 (lv_at hl 4 rfl) ?_
  refine lv_iconst (v := 1) hx hb dL_law_2885 (by decide) ?_
  refine lv_iadd hx hb dL_law_2886  ?_
  refine lv_topi (fun x101 ex101 => ?_)
  obtain rfl : x101 = 1 := ex101.trans (by decide)
  refine va_sld hx hb hX hbl hbA hS (show vp_in 1 6 from by unfold vp_in; decide) dL_law_2887 ?_
  refine lv_topi (fun x102 ex102 => ?_)
  obtain rfl : w1 = x102 := hw1.trans ex102.symm
  refine lv_aload_n hx hb dL_law_2888 rfl (lv_at hl 3 rfl) ?_
  have hPc := hP.sub (ws' := [(aX, .inr (14, fsX)), (aT, .inr (12, fsT)), (aSp, .inr (8, fsS)), (aSq, .inr (11, fs2)), (aA, .inr (3, fsA))]) [0, 1, 2, 3, 4] rfl
  have hDc := hD.sub (ws' := [(aX, .inr (14, fsX)), (aT, .inr (12, fsT)), (aSp, .inr (8, fsS)), (aSq, .inr (11, fs2)), (aA, .inr (3, fsA))]) [0, 1, 2, 3, 4] (by decide) rfl
  have hKc := hK.sub (tys' := []) [] rfl
  have hFc := va_free (wc := [(aX, .inr (14, fsX)), (aT, .inr (12, fsT)), (aSp, .inr (8, fsS)), (aSq, .inr (11, fs2)), (aA, .inr (3, fsA))]) hD hS hA [0, 1, 2, 3, 4] rfl
  refine vx_calli (vx_runSX (As := [.ref aX, .int w1, .ref qO]) (rest := []) ⟨hx, hb, hml, hown, hts⟩ (z_L_load l dC dI H.size aX fsX aT fsT aSp fsS aSq fs2 aA fsA w1 qO qb (fh_sub o_fsX.2 [0, 1, 2] rfl) (fh_sub o_fsT.2 [0, 1] rfl) (fh_sub o_fsS.2 [0, 1] rfl) (fh_sub o_fs2.2 [] rfl) (fh_sub o_fsA.2 [] rfl) hst ) (vx_cwSW 3 hts g_lk_46_z_L_load_298 rfl rfl rfl (by decide +kernel) ⟨Nat.le_of_ble_eq_true rfl, Nat.le_of_ble_eq_true rfl⟩) ⟨fun a U g mk q => by obtain ⟨q0, q1, qZ, qY, qP, qK, qD⟩ := q; exact ⟨q0, q1, Zz_call qZ, Yy_call qY, qP, va_K.moved (u := U) (U := U.calling g mk a) (Vm.Alike.refl U.vm) qK, qD⟩, fun U hU hW => ⟨rfl, by rw [hU], Zz_go hZ hS hFc hU hW, Yy_go hY hW, by rw [hU]; exact hPc, va_K.moved hW.alike hKc, hDc.weaken (fun _ _ _ _ => trivial)⟩⟩ rfl rfl hl.1 rfl (lv_room (Nat.le_of_ble_eq_true rfl)) dL_law_2889 ⟨Nat.le_of_ble_eq_true rfl, Nat.le_of_ble_eq_true rfl⟩) hS (fun q _ h => hFc q h) hFc (fun q _ h => hFc q h) (fun E ce q9 u t H1 locs ht hvm hpx hBX hz1 hk1 hS hce hcv hcl => ?_) (fun r103 u t H1 locs ht hvm hw hB hz1 hk1 hS => ?_)
  · exact False.elim hBX
  · skip
    obtain ⟨hP1, hK1, hD1⟩ := hB
    rw [ht] at hP1
    try dsimp only at hw
    obtain ⟨hP, hD⟩ := va_join (wr := [(aZ, .inr (15, fsZ)), (q_things, .inl (k_things, 5, .inl f_things))]) (w1 := []) hP hD [0, 1, 2, 3, 4] [5, 6] rfl rfl (by decide) (by decide) hk1 hFc hP1 hD1
    have hK := hK.sub (tys' := [(k_things, .int)]) [0] rfl
    generalize H1 = H at hP hS ⊢
    refine W.widen (k := 392) (n := 571371) (by omega) (by omega) ?_
    have hP : va_P (dC, dI) vwCl [(aZ, .inr (15, fsZ)), (q_things, .inl (k_things, 5, .inl f_things))] H := hP
    have hD : va_D A [(aZ, .inr (15, fsZ)), (q_things, .inl (k_things, 5, .inl f_things))] := hD
    rcases hw with ⟨c104, er105⟩ | ⟨c106, c107, er108⟩ | ⟨c109, c110, er111⟩
    · skip
      subst er105
      refine lv_istore (lv' := [(5, .int 1), (0, .ref b), (1, .ref aX), (2, .ref aZ), (3, .ref qO), (4, .int 0)]) hx hb dL_law_2892 hl (by decide) rfl (fun ls hl => ?_)
      refine lv_aload_n hx hb dL_law_2894 rfl (lv_at hl 3 rfl) ?_
      refine lv_aload_n hx hb dL_law_2895 rfl (lv_at hl 1 rfl) ?_
      refine lv_iload hx hb dL_law_2896 (lv_at hl 5 rfl) ?_
      refine lv_iconst (v := 1) hx hb dL_law_2898 (by decide) ?_
      refine lv_iadd hx hb dL_law_2899  ?_
      refine lv_topi (fun x112 ex112 => ?_)
      obtain rfl : x112 = 1 := ex112.trans (by decide)
      refine va_sld hx hb hX hbl hbA hS (show vp_in 1 6 from by unfold vp_in; decide) dL_law_2900 ?_
      refine lv_topi (fun x113 ex113 => ?_)
      obtain rfl : w1 = x113 := hw1.trans ex113.symm
      have hPc := hP.sub (ws' := [(aZ, .inr (15, fsZ)), (q_things, .inl (k_things, 5, .inl f_things))]) [0, 1] rfl
      have hDc := hD.sub (ws' := [(aZ, .inr (15, fsZ)), (q_things, .inl (k_things, 5, .inl f_things))]) [0, 1] (by decide) rfl
      have hKc := hK.sub (tys' := [(k_things, .int)]) [0] rfl
      have hFc := va_free (wc := [(aZ, .inr (15, fsZ)), (q_things, .inl (k_things, 5, .inl f_things))]) hD hS hA [0, 1] rfl
      refine va_calli (va_runV (As := [.int w1]) (rest := []) ⟨hx, hb, hml, hown, hts⟩ (z_X12_load l dC dI H.size aZ fsZ q_things f_things k_things w1 (fh_sub o_fsZ.2 [0, 1, 2, 3, 4, 5, 6] rfl) hz_f_things) (cwV 1 hts g_lk_46_z_X12_load_300 rfl rfl rfl (by decide +kernel) ⟨Nat.le_of_ble_eq_true rfl, Nat.le_of_ble_eq_true rfl⟩) ⟨fun a U g mk q => by obtain ⟨q0, q1, qP, qK, qD⟩ := q; exact ⟨q0, q1, qP, va_K.moved (u := U) (U := U.calling g mk a) (Vm.Alike.refl U.vm) qK, qD⟩, va_recv hK hP (ci := 15) (q0 := 0) rfl rfl, fun U hU hW => ⟨rfl, by rw [hU], by rw [hU]; exact hPc, va_K.moved hW.alike hKc, hDc.weaken (fun _ _ _ _ => trivial)⟩⟩ rfl rfl hl.1 rfl (lv_room (Nat.le_of_ble_eq_true rfl)) dL_law_2901 ⟨Nat.le_of_ble_eq_true rfl, Nat.le_of_ble_eq_true rfl⟩) hS (fun q _ h => hFc q h) hFc (fun r114 u t H1 locs ht hvm hw hB hz1 hk1 hS => ?_)
      obtain ⟨s115, f116⟩ := u
      obtain ⟨hP1, hK1, hD1⟩ := hB
      rw [ht] at hP1
      try dsimp only at hw
      obtain ⟨hP, hD⟩ := va_join (wr := []) (w1 := [(aZ, .inr (15, s115)), (q_things, .inl (k_things, 5, .inl f116))]) hP hD [0, 1] [] rfl rfl (by decide) (by decide) hk1 hFc hP1 hD1
      have hK := hK.sub (tys' := [(k_things, .int)]) [0] rfl
      generalize H1 = H at hP hS ⊢
      have hP : va_P (dC, dI) vwCl [(aZ, .inr (15, s115)), (q_things, .inl (k_things, 5, .inl f116))] H := hP
      have hD : va_D A [(aZ, .inr (15, s115)), (q_things, .inl (k_things, 5, .inl f116))] := hD
      rcases hw with ⟨c117, er118, o_s115, q119⟩ | ⟨c120, c121, er122, o_s115, q123⟩ | ⟨c124, c125, er126, o_s115, q127, q128⟩
      · skip
        subst er118
        have o_s115 := ow_on o_fsZ o_s115 (l' := [(0, .int 1), (3, .int 0), (48, .ref q_things), (83, .int 0), (84, .int 0), (141, .int 0), (142, .int 0), (3, .int 0), (48, .ref q_things), (83, .int 0), (84, .int 0), (141, .int 0), (142, .int 0)]) (w' := [0]) rfl rfl
        refine lv_istore (lv' := [(6, .int 0), (5, .int 1), (0, .ref b), (1, .ref aX), (2, .ref aZ), (3, .ref qO), (4, .int 0)]) hx hb dL_law_2904 hl (by decide) rfl (fun ls hl => ?_)
        refine lv_aload_n hx hb dL_law_2906 rfl (lv_at hl 4 rfl) ?_
        have hPc := hP.sub (ws' := [(aZ, .inr (15, s115))]) [0] rfl
        have hDc := hD.sub (ws' := [(aZ, .inr (15, s115))]) [0] (by decide) rfl
        have hKc := hK.sub (tys' := []) [] rfl
        have hFc := va_free (wc := [(aZ, .inr (15, s115))]) hD hS hA [0] rfl
        refine va_calli (va_runV (As := []) (rest := []) ⟨hx, hb, hml, hown, hts⟩ (z_X12_thrown l dC dI H.size aZ s115 (fh_sub o_s115.2 [0] rfl) ) (cwV 0 hts g_lk_46_z_X12_thrown_149 rfl rfl rfl (by decide +kernel) ⟨Nat.le_of_ble_eq_true rfl, Nat.le_of_ble_eq_true rfl⟩) ⟨fun a U g mk q => by obtain ⟨q0, q1, qP, qK, qD⟩ := q; exact ⟨q0, q1, qP, va_K.moved (u := U) (U := U.calling g mk a) (Vm.Alike.refl U.vm) qK, qD⟩, va_recv hK hP (ci := 15) (q0 := 0) rfl rfl, fun U hU hW => ⟨rfl, by rw [hU], by rw [hU]; exact hPc, va_K.moved hW.alike hKc, hDc.weaken (fun _ _ _ _ => trivial)⟩⟩ rfl rfl hl.1 rfl (lv_room (Nat.le_of_ble_eq_true rfl)) dL_law_2907 ⟨Nat.le_of_ble_eq_true rfl, Nat.le_of_ble_eq_true rfl⟩) hS (fun q _ h => hFc q h) hFc (fun r129 u t H1 locs ht hvm hw hB hz1 hk1 hS => ?_)
        obtain ⟨hP1, hK1, hD1⟩ := hB
        rw [ht] at hP1
        try dsimp only at hw
        obtain ⟨hP, hD⟩ := va_join (wr := [(q_things, .inl (k_things, 5, .inl f116))]) (w1 := [(aZ, .inr (15, s115))]) hP hD [0] [1] rfl rfl (by decide) (by decide) hk1 hFc hP1 hD1
        have hK := hK.sub (tys' := [(k_things, .int)]) [0] rfl
        generalize H1 = H at hP hS ⊢
        have hP : va_P (dC, dI) vwCl [(q_things, .inl (k_things, 5, .inl f116)), (aZ, .inr (15, s115))] H := hP
        have hD : va_D A [(q_things, .inl (k_things, 5, .inl f116)), (aZ, .inr (15, s115))] := hD
        have er130 := hw
        subst er130
        refine lv_iload hx hb dL_law_2910 (lv_at hl 1 rfl) ?_
        refine lv_icmp_eq (tgt := 2917) hx hb dL_law_2912 (by decide) (fun c131 => ?_) (fun c131 => absurd c131 (by decide))
        refine lv_iload hx hb dL_law_2917 (lv_at hl 1 rfl) ?_
        refine lv_if_ne (tgt := 2934) hx hb dL_law_2919 (by decide) (fun c132 => ?_) (fun c132 => absurd c132 (by decide))
        refine lv_goto (tgt := 3111) hx hb dL_law_2934 (by decide) ?_
        exact lw_end hst C0 hA hAf hZ hY (Nat.le_of_ble_eq_true rfl) (Nat.le_of_ble_eq_true rfl) dC dI P0k P0 D0 hS ls (lv_sub hl [2, 6] rfl)
      · exact (by exfalso; (try simp only [i_lt, i_le, i_eq, kc_0, kc_4] at c104 c120 c121); omega)
      · exact (by exfalso; (try simp only [i_lt, i_le, i_eq, kc_0, kc_4] at c104 c124 c125); omega)
    · skip
      subst er108
      refine lv_istore (lv' := [(5, .int 1), (0, .ref b), (1, .ref aX), (2, .ref aZ), (3, .ref qO), (4, .int 0)]) hx hb dL_law_2892 hl (by decide) rfl (fun ls hl => ?_)
      refine lv_aload_n hx hb dL_law_2894 rfl (lv_at hl 3 rfl) ?_
      refine lv_aload_n hx hb dL_law_2895 rfl (lv_at hl 1 rfl) ?_
      refine lv_iload hx hb dL_law_2896 (lv_at hl 5 rfl) ?_
      refine lv_iconst (v := 1) hx hb dL_law_2898 (by decide) ?_
      refine lv_iadd hx hb dL_law_2899  ?_
      refine lv_topi (fun x133 ex133 => ?_)
      obtain rfl : x133 = 1 := ex133.trans (by decide)
      refine va_sld hx hb hX hbl hbA hS (show vp_in 1 6 from by unfold vp_in; decide) dL_law_2900 ?_
      refine lv_topi (fun x134 ex134 => ?_)
      obtain rfl : w1 = x134 := hw1.trans ex134.symm
      have hPc := hP.sub (ws' := [(aZ, .inr (15, fsZ)), (q_things, .inl (k_things, 5, .inl f_things))]) [0, 1] rfl
      have hDc := hD.sub (ws' := [(aZ, .inr (15, fsZ)), (q_things, .inl (k_things, 5, .inl f_things))]) [0, 1] (by decide) rfl
      have hKc := hK.sub (tys' := [(k_things, .int)]) [0] rfl
      have hFc := va_free (wc := [(aZ, .inr (15, fsZ)), (q_things, .inl (k_things, 5, .inl f_things))]) hD hS hA [0, 1] rfl
      refine va_calli (va_runV (As := [.int w1]) (rest := []) ⟨hx, hb, hml, hown, hts⟩ (z_X12_load l dC dI H.size aZ fsZ q_things f_things k_things w1 (fh_sub o_fsZ.2 [0, 1, 2, 3, 4, 5, 6] rfl) hz_f_things) (cwV 1 hts g_lk_46_z_X12_load_300 rfl rfl rfl (by decide +kernel) ⟨Nat.le_of_ble_eq_true rfl, Nat.le_of_ble_eq_true rfl⟩) ⟨fun a U g mk q => by obtain ⟨q0, q1, qP, qK, qD⟩ := q; exact ⟨q0, q1, qP, va_K.moved (u := U) (U := U.calling g mk a) (Vm.Alike.refl U.vm) qK, qD⟩, va_recv hK hP (ci := 15) (q0 := 0) rfl rfl, fun U hU hW => ⟨rfl, by rw [hU], by rw [hU]; exact hPc, va_K.moved hW.alike hKc, hDc.weaken (fun _ _ _ _ => trivial)⟩⟩ rfl rfl hl.1 rfl (lv_room (Nat.le_of_ble_eq_true rfl)) dL_law_2901 ⟨Nat.le_of_ble_eq_true rfl, Nat.le_of_ble_eq_true rfl⟩) hS (fun q _ h => hFc q h) hFc (fun r135 u t H1 locs ht hvm hw hB hz1 hk1 hS => ?_)
      obtain ⟨s136, f137⟩ := u
      obtain ⟨hP1, hK1, hD1⟩ := hB
      rw [ht] at hP1
      try dsimp only at hw
      obtain ⟨hP, hD⟩ := va_join (wr := []) (w1 := [(aZ, .inr (15, s136)), (q_things, .inl (k_things, 5, .inl f137))]) hP hD [0, 1] [] rfl rfl (by decide) (by decide) hk1 hFc hP1 hD1
      have hK := hK.sub (tys' := [(k_things, .int)]) [0] rfl
      generalize H1 = H at hP hS ⊢
      have hP : va_P (dC, dI) vwCl [(aZ, .inr (15, s136)), (q_things, .inl (k_things, 5, .inl f137))] H := hP
      have hD : va_D A [(aZ, .inr (15, s136)), (q_things, .inl (k_things, 5, .inl f137))] := hD
      rcases hw with ⟨c138, er139, o_s136, q140⟩ | ⟨c141, c142, er143, o_s136, q144⟩ | ⟨c145, c146, er147, o_s136, q148, q149⟩
      · exact (by exfalso; (try simp only [i_lt, i_le, i_eq, kc_0, kc_4] at c106 c107 c138); omega)
      · skip
        subst er143
        have o_s136 := ow_on o_fsZ o_s136 (l' := [(0, .int 1), (3, .int 0), (48, .ref q_things), (83, .int 0), (84, .int 0), (141, .int 0), (142, .int 0), (3, .int 0), (48, .ref q_things), (83, .int 0), (84, .int 0), (141, .int 0), (142, .int 0)]) (w' := [0]) rfl rfl
        refine lv_istore (lv' := [(6, .int 0), (5, .int 1), (0, .ref b), (1, .ref aX), (2, .ref aZ), (3, .ref qO), (4, .int 0)]) hx hb dL_law_2904 hl (by decide) rfl (fun ls hl => ?_)
        refine lv_aload_n hx hb dL_law_2906 rfl (lv_at hl 4 rfl) ?_
        have hPc := hP.sub (ws' := [(aZ, .inr (15, s136))]) [0] rfl
        have hDc := hD.sub (ws' := [(aZ, .inr (15, s136))]) [0] (by decide) rfl
        have hKc := hK.sub (tys' := []) [] rfl
        have hFc := va_free (wc := [(aZ, .inr (15, s136))]) hD hS hA [0] rfl
        refine va_calli (va_runV (As := []) (rest := []) ⟨hx, hb, hml, hown, hts⟩ (z_X12_thrown l dC dI H.size aZ s136 (fh_sub o_s136.2 [0] rfl) ) (cwV 0 hts g_lk_46_z_X12_thrown_149 rfl rfl rfl (by decide +kernel) ⟨Nat.le_of_ble_eq_true rfl, Nat.le_of_ble_eq_true rfl⟩) ⟨fun a U g mk q => by obtain ⟨q0, q1, qP, qK, qD⟩ := q; exact ⟨q0, q1, qP, va_K.moved (u := U) (U := U.calling g mk a) (Vm.Alike.refl U.vm) qK, qD⟩, va_recv hK hP (ci := 15) (q0 := 0) rfl rfl, fun U hU hW => ⟨rfl, by rw [hU], by rw [hU]; exact hPc, va_K.moved hW.alike hKc, hDc.weaken (fun _ _ _ _ => trivial)⟩⟩ rfl rfl hl.1 rfl (lv_room (Nat.le_of_ble_eq_true rfl)) dL_law_2907 ⟨Nat.le_of_ble_eq_true rfl, Nat.le_of_ble_eq_true rfl⟩) hS (fun q _ h => hFc q h) hFc (fun r150 u t H1 locs ht hvm hw hB hz1 hk1 hS => ?_)
        obtain ⟨hP1, hK1, hD1⟩ := hB
        rw [ht] at hP1
        try dsimp only at hw
        obtain ⟨hP, hD⟩ := va_join (wr := [(q_things, .inl (k_things, 5, .inl f137))]) (w1 := [(aZ, .inr (15, s136))]) hP hD [0] [1] rfl rfl (by decide) (by decide) hk1 hFc hP1 hD1
        have hK := hK.sub (tys' := [(k_things, .int)]) [0] rfl
        generalize H1 = H at hP hS ⊢
        have hP : va_P (dC, dI) vwCl [(q_things, .inl (k_things, 5, .inl f137)), (aZ, .inr (15, s136))] H := hP
        have hD : va_D A [(q_things, .inl (k_things, 5, .inl f137)), (aZ, .inr (15, s136))] := hD
        have er151 := hw
        subst er151
        refine lv_iload hx hb dL_law_2910 (lv_at hl 1 rfl) ?_
        refine lv_icmp_eq (tgt := 2917) hx hb dL_law_2912 (by decide) (fun c152 => ?_) (fun c152 => absurd c152 (by decide))
        refine lv_iload hx hb dL_law_2917 (lv_at hl 1 rfl) ?_
        refine lv_if_ne (tgt := 2934) hx hb dL_law_2919 (by decide) (fun c153 => ?_) (fun c153 => absurd c153 (by decide))
        refine lv_goto (tgt := 3111) hx hb dL_law_2934 (by decide) ?_
        exact lw_end hst C0 hA hAf hZ hY (Nat.le_of_ble_eq_true rfl) (Nat.le_of_ble_eq_true rfl) dC dI P0k P0 D0 hS ls (lv_sub hl [2, 6] rfl)
      · exact (by exfalso; (try simp only [i_lt, i_le, i_eq, kc_0, kc_4] at c106 c107 c145 c146); omega)
    · skip
      subst er111
      refine lv_istore (lv' := [(5, .int 2), (0, .ref b), (1, .ref aX), (2, .ref aZ), (3, .ref qO), (4, .int 0)]) hx hb dL_law_2892 hl (by decide) rfl (fun ls hl => ?_)
      refine lv_aload_n hx hb dL_law_2894 rfl (lv_at hl 3 rfl) ?_
      refine lv_aload_n hx hb dL_law_2895 rfl (lv_at hl 1 rfl) ?_
      refine lv_iload hx hb dL_law_2896 (lv_at hl 5 rfl) ?_
      refine lv_iconst (v := 1) hx hb dL_law_2898 (by decide) ?_
      refine lv_iadd hx hb dL_law_2899  ?_
      refine lv_topi (fun x154 ex154 => ?_)
      obtain rfl : x154 = 1 := ex154.trans (by decide)
      refine va_sld hx hb hX hbl hbA hS (show vp_in 1 6 from by unfold vp_in; decide) dL_law_2900 ?_
      refine lv_topi (fun x155 ex155 => ?_)
      obtain rfl : w1 = x155 := hw1.trans ex155.symm
      have hPc := hP.sub (ws' := [(aZ, .inr (15, fsZ)), (q_things, .inl (k_things, 5, .inl f_things))]) [0, 1] rfl
      have hDc := hD.sub (ws' := [(aZ, .inr (15, fsZ)), (q_things, .inl (k_things, 5, .inl f_things))]) [0, 1] (by decide) rfl
      have hKc := hK.sub (tys' := [(k_things, .int)]) [0] rfl
      have hFc := va_free (wc := [(aZ, .inr (15, fsZ)), (q_things, .inl (k_things, 5, .inl f_things))]) hD hS hA [0, 1] rfl
      refine va_calli (va_runV (As := [.int w1]) (rest := []) ⟨hx, hb, hml, hown, hts⟩ (z_X12_load l dC dI H.size aZ fsZ q_things f_things k_things w1 (fh_sub o_fsZ.2 [0, 1, 2, 3, 4, 5, 6] rfl) hz_f_things) (cwV 1 hts g_lk_46_z_X12_load_300 rfl rfl rfl (by decide +kernel) ⟨Nat.le_of_ble_eq_true rfl, Nat.le_of_ble_eq_true rfl⟩) ⟨fun a U g mk q => by obtain ⟨q0, q1, qP, qK, qD⟩ := q; exact ⟨q0, q1, qP, va_K.moved (u := U) (U := U.calling g mk a) (Vm.Alike.refl U.vm) qK, qD⟩, va_recv hK hP (ci := 15) (q0 := 0) rfl rfl, fun U hU hW => ⟨rfl, by rw [hU], by rw [hU]; exact hPc, va_K.moved hW.alike hKc, hDc.weaken (fun _ _ _ _ => trivial)⟩⟩ rfl rfl hl.1 rfl (lv_room (Nat.le_of_ble_eq_true rfl)) dL_law_2901 ⟨Nat.le_of_ble_eq_true rfl, Nat.le_of_ble_eq_true rfl⟩) hS (fun q _ h => hFc q h) hFc (fun r156 u t H1 locs ht hvm hw hB hz1 hk1 hS => ?_)
      obtain ⟨s157, f158⟩ := u
      obtain ⟨hP1, hK1, hD1⟩ := hB
      rw [ht] at hP1
      try dsimp only at hw
      obtain ⟨hP, hD⟩ := va_join (wr := []) (w1 := [(aZ, .inr (15, s157)), (q_things, .inl (k_things, 5, .inl f158))]) hP hD [0, 1] [] rfl rfl (by decide) (by decide) hk1 hFc hP1 hD1
      have hK := hK.sub (tys' := [(k_things, .int)]) [0] rfl
      generalize H1 = H at hP hS ⊢
      have hP : va_P (dC, dI) vwCl [(aZ, .inr (15, s157)), (q_things, .inl (k_things, 5, .inl f158))] H := hP
      have hD : va_D A [(aZ, .inr (15, s157)), (q_things, .inl (k_things, 5, .inl f158))] := hD
      rcases hw with ⟨c159, er160, o_s157, q161⟩ | ⟨c162, c163, er164, o_s157, q165⟩ | ⟨c166, c167, er168, o_s157, q169, q170⟩
      · exact (by exfalso; (try simp only [i_lt, i_le, i_eq, kc_0, kc_4] at c109 c110 c159); omega)
      · exact (by exfalso; (try simp only [i_lt, i_le, i_eq, kc_0, kc_4] at c109 c110 c162 c163); omega)
      · skip
        subst er168
        have o_s157 := ow_on o_fsZ o_s157 (l' := [(0, .int 2), (82, .int 0), (81, .int 1), (142, .int 1), (84, .int 0), (83, .int 1), (141, .int 0), (146, .int 0), (141, .int 0), (48, .ref q_things), (141, .int 0), (3, .int 0), (48, .ref q_things), (3, .int 0), (48, .ref q_things)]) (w' := [0, 82, 81, 142, 84, 83, 146, 141]) rfl rfl
        refine lv_istore (lv' := [(6, .int 0), (5, .int 2), (0, .ref b), (1, .ref aX), (2, .ref aZ), (3, .ref qO), (4, .int 0)]) hx hb dL_law_2904 hl (by decide) rfl (fun ls hl => ?_)
        refine lv_aload_n hx hb dL_law_2906 rfl (lv_at hl 4 rfl) ?_
        have hPc := hP.sub (ws' := [(aZ, .inr (15, s157))]) [0] rfl
        have hDc := hD.sub (ws' := [(aZ, .inr (15, s157))]) [0] (by decide) rfl
        have hKc := hK.sub (tys' := []) [] rfl
        have hFc := va_free (wc := [(aZ, .inr (15, s157))]) hD hS hA [0] rfl
        refine va_calli (va_runV (As := []) (rest := []) ⟨hx, hb, hml, hown, hts⟩ (z_X12_thrown_1 l dC dI H.size aZ s157 (fh_sub o_s157.2 [0] rfl) ) (cwV 0 hts g_lk_46_z_X12_thrown_1_149 rfl rfl rfl (by decide +kernel) ⟨Nat.le_of_ble_eq_true rfl, Nat.le_of_ble_eq_true rfl⟩) ⟨fun a U g mk q => by obtain ⟨q0, q1, qP, qK, qD⟩ := q; exact ⟨q0, q1, qP, va_K.moved (u := U) (U := U.calling g mk a) (Vm.Alike.refl U.vm) qK, qD⟩, va_recv hK hP (ci := 15) (q0 := 0) rfl rfl, fun U hU hW => ⟨rfl, by rw [hU], by rw [hU]; exact hPc, va_K.moved hW.alike hKc, hDc.weaken (fun _ _ _ _ => trivial)⟩⟩ rfl rfl hl.1 rfl (lv_room (Nat.le_of_ble_eq_true rfl)) dL_law_2907 ⟨Nat.le_of_ble_eq_true rfl, Nat.le_of_ble_eq_true rfl⟩) hS (fun q _ h => hFc q h) hFc (fun r171 u t H1 locs ht hvm hw hB hz1 hk1 hS => ?_)
        obtain ⟨hP1, hK1, hD1⟩ := hB
        rw [ht] at hP1
        try dsimp only at hw
        obtain ⟨hP, hD⟩ := va_join (wr := [(q_things, .inl (k_things, 5, .inl f158))]) (w1 := [(aZ, .inr (15, s157))]) hP hD [0] [1] rfl rfl (by decide) (by decide) hk1 hFc hP1 hD1
        have hK := hK.sub (tys' := [(k_things, .int)]) [0] rfl
        generalize H1 = H at hP hS ⊢
        have hP : va_P (dC, dI) vwCl [(q_things, .inl (k_things, 5, .inl f158)), (aZ, .inr (15, s157))] H := hP
        have hD : va_D A [(q_things, .inl (k_things, 5, .inl f158)), (aZ, .inr (15, s157))] := hD
        have er172 := hw
        subst er172
        refine lv_iload hx hb dL_law_2910 (lv_at hl 1 rfl) ?_
        refine lv_icmp_eq (tgt := 2917) hx hb dL_law_2912 (by decide) (fun c173 => ?_) (fun c173 => absurd c173 (by decide))
        refine lv_iload hx hb dL_law_2917 (lv_at hl 1 rfl) ?_
        refine lv_if_ne (tgt := 2934) hx hb dL_law_2919 (by decide) (fun c174 => ?_) (fun c174 => absurd c174 (by decide))
        refine lv_goto (tgt := 3111) hx hb dL_law_2934 (by decide) ?_
        exact lw_end hst C0 hA hAf hZ hY (Nat.le_of_ble_eq_true rfl) (Nat.le_of_ble_eq_true rfl) dC dI P0k P0 D0 hS ls (lv_sub hl [2, 6] rfl)

set_option maxRecDepth 20000 in
theorem g_lk_47_z_L_keep_301 : GoodIn lwW (va_wsS RL 301 yL_keep w_z_L_keep) := goodIn_app (goodIn_sub (ws := ([.methodLink RL 301 yL_keep, .static yL_keep, .initialized RL] : List Cond)) (gm_c (gm_at lwV_95_in 9 rfl) (gm_c (gm_at lwV_95_in 10 rfl) (gm_c (gm_at lwV_5_in 10 rfl) gm_nil))) (by decide +kernel)) (goodIn_ca (goodIn_sub (ws := .codeWith yL_keep cL_keep 4 (some .int) [(0, 9, 12, 13), (0, 9, 15, 17)] :: l_z_L_keep) (gm_c (gm_at lwV_96_in 2 rfl) (gm_c (gm_at lwV_96_in 3 rfl) (gm_c (gm_at lwV_96_in 4 rfl) (gm_c (gm_at lwV_96_in 5 rfl) (gm_c (gm_at lwV_0_in 3 rfl) (gm_c (gm_at lwV_6_in 9 rfl) (gm_c (gm_at lwV_96_in 6 rfl) (gm_c (gm_at lwV_54_in 10 rfl) (gm_c (gm_at lwV_54_in 11 rfl) (gm_c (gm_at lwV_87_in 10 rfl) (gm_c (gm_at lwV_55_in 0 rfl) (gm_c (gm_at lwV_87_in 11 rfl) (gm_c (gm_at lwV_88_in 0 rfl) (gm_c (gm_at lwV_88_in 1 rfl) (gm_c (gm_at lwV_88_in 2 rfl) (gm_c (gm_at lwV_96_in 7 rfl) (gm_c (gm_at lwV_96_in 8 rfl) (gm_c (gm_at lwV_96_in 9 rfl) (gm_c (gm_at lwV_96_in 10 rfl) (gm_c (gm_at lwV_55_in 6 rfl) (gm_c (gm_at lwV_55_in 7 rfl) (gm_c (gm_at lwV_55_in 8 rfl) (gm_c (gm_at lwV_7_in 0 rfl) (gm_c (gm_at lwV_7_in 1 rfl) (gm_c (gm_at lwV_55_in 9 rfl) (gm_c (gm_at lwV_88_in 6 rfl) (gm_c (gm_at lwV_88_in 7 rfl) (gm_c (gm_at lwV_88_in 8 rfl) (gm_c (gm_at lwV_88_in 9 rfl) (gm_c (gm_at lwV_88_in 10 rfl) (gm_c (gm_at lwV_88_in 11 rfl) (gm_c (gm_at lwV_89_in 0 rfl) (gm_c (gm_at lwV_89_in 1 rfl) (gm_c (gm_at lwV_89_in 2 rfl) (gm_c (gm_at lwV_89_in 3 rfl) (gm_c (gm_at lwV_89_in 4 rfl) (gm_c (gm_at lwV_89_in 5 rfl) (gm_c (gm_at lwV_82_in 1 rfl) (gm_c (gm_at lwV_82_in 2 rfl) (gm_c (gm_at lwV_82_in 3 rfl) (gm_c (gm_at lwV_89_in 6 rfl) (gm_c (gm_at lwV_89_in 7 rfl) (gm_c (gm_at lwV_89_in 8 rfl) (gm_c (gm_at lwV_89_in 9 rfl) (gm_c (gm_at lwV_89_in 10 rfl) (gm_c (gm_at lwV_89_in 11 rfl) (gm_c (gm_at lwV_96_in 11 rfl) (gm_c (gm_at lwV_97_in 0 rfl) (gm_c (gm_at lwV_97_in 1 rfl) (gm_c (gm_at lwV_97_in 2 rfl) (gm_c (gm_at lwV_2_in 9 rfl) (gm_c (gm_at lwV_2_in 10 rfl) (gm_c (gm_at lwV_2_in 11 rfl) (gm_c (gm_at lwV_97_in 3 rfl) gm_nil)))))))))))))))))))))))))))))))))))))))))))))))))))))) (by decide +kernel)) (goodIn_app (goodIn_in il_X11 gd_X11) (goodIn_app (goodIn_in il_X0 gd_X0) (goodIn_app (goodIn_in il_at0_X11_122 gd_at0_X11_122) (goodIn_in il_X5 gd_X5)))))
set_option maxRecDepth 20000 in
theorem g_lk_47_z_X12_keep_303 : GoodIn lwW (wsV RL 303 RX12 yX12_keep w_z_X12_keep) := goodIn_app (goodIn_sub (ws := ([.methodLink RL 303 yX12_keep, .instanceMethod yX12_keep, .selects RX12 yX12_keep yX12_keep, .initialized RX12] : List Cond)) (gm_c (gm_at lwV_95_in 11 rfl) (gm_c (gm_at lwV_96_in 0 rfl) (gm_c (gm_at lwV_96_in 1 rfl) (gm_c (gm_at lwV_0_in 7 rfl) gm_nil)))) (by decide +kernel)) (goodIn_ca (goodIn_sub (ws := .code yX12_keep cX12_keep 3 (some .int) :: l_z_X12_keep) (gm_c (gm_at lwV_97_in 4 rfl) (gm_c (gm_at lwV_57_in 0 rfl) (gm_c (gm_at lwV_57_in 1 rfl) (gm_c (gm_at lwV_57_in 2 rfl) (gm_c (gm_at lwV_0_in 7 rfl) (gm_c (gm_at lwV_1_in 5 rfl) (gm_c (gm_at lwV_90_in 1 rfl) (gm_c (gm_at lwV_90_in 2 rfl) (gm_c (gm_at lwV_90_in 3 rfl) (gm_c (gm_at lwV_97_in 5 rfl) (gm_c (gm_at lwV_90_in 4 rfl) (gm_c (gm_at lwV_97_in 6 rfl) (gm_c (gm_at lwV_97_in 7 rfl) (gm_c (gm_at lwV_97_in 8 rfl) (gm_c (gm_at lwV_90_in 5 rfl) (gm_c (gm_at lwV_57_in 10 rfl) (gm_c (gm_at lwV_90_in 6 rfl) (gm_c (gm_at lwV_90_in 7 rfl) (gm_c (gm_at lwV_90_in 8 rfl) (gm_c (gm_at lwV_90_in 9 rfl) (gm_c (gm_at lwV_90_in 10 rfl) (gm_c (gm_at lwV_90_in 11 rfl) (gm_c (gm_at lwV_57_in 9 rfl) (gm_c (gm_at lwV_58_in 0 rfl) (gm_c (gm_at lwV_91_in 0 rfl) (gm_c (gm_at lwV_91_in 1 rfl) (gm_c (gm_at lwV_91_in 2 rfl) (gm_c (gm_at lwV_91_in 3 rfl) (gm_c (gm_at lwV_91_in 4 rfl) (gm_c (gm_at lwV_91_in 5 rfl) gm_nil)))))))))))))))))))))))))))))) (by decide +kernel)) (goodIn_in il_X12 gd_X12))
set_option maxRecDepth 20000 in
theorem g_lk_47_z_X12_thrown_149 : GoodIn lwW (wsV RL 149 RX12 yX12_thrown w_z_X12_thrown) := goodIn_app (goodIn_sub (ws := ([.methodLink RL 149 yX12_thrown, .instanceMethod yX12_thrown, .selects RX12 yX12_thrown yX12_thrown, .initialized RX12] : List Cond)) (gm_c (gm_at lwV_6_in 2 rfl) (gm_c (gm_at lwV_6_in 3 rfl) (gm_c (gm_at lwV_6_in 4 rfl) (gm_c (gm_at lwV_0_in 7 rfl) gm_nil)))) (by decide +kernel)) (goodIn_ca (goodIn_sub (ws := .code yX12_thrown cX12_thrown 1 (some .int) :: l_z_X12_thrown) (gm_c (gm_at lwV_9_in 9 rfl) (gm_c (gm_at lwV_1_in 5 rfl) gm_nil)) (by decide +kernel)) (goodIn_in il_X12 gd_X12))
set_option maxRecDepth 20000 in
theorem g_lk_47_z_X12_thrown_2_149 : GoodIn lwW (wsV RL 149 RX12 yX12_thrown w_z_X12_thrown_2) := goodIn_app (goodIn_sub (ws := ([.methodLink RL 149 yX12_thrown, .instanceMethod yX12_thrown, .selects RX12 yX12_thrown yX12_thrown, .initialized RX12] : List Cond)) (gm_c (gm_at lwV_6_in 2 rfl) (gm_c (gm_at lwV_6_in 3 rfl) (gm_c (gm_at lwV_6_in 4 rfl) (gm_c (gm_at lwV_0_in 7 rfl) gm_nil)))) (by decide +kernel)) (goodIn_ca (goodIn_sub (ws := .code yX12_thrown cX12_thrown 1 (some .int) :: l_z_X12_thrown_2) (gm_c (gm_at lwV_9_in 9 rfl) (gm_c (gm_at lwV_1_in 5 rfl) gm_nil)) (by decide +kernel)) (goodIn_in il_X12 gd_X12))
set_option maxHeartbeats 4000000 in
set_option maxRecDepth 100000 in
/-- the law, one call: keep -/
theorem lk_47 {p : Program} {l : Launch} {e : Env} {s : State} {m : MethodId} {below : List Frame} {meth : Method} {c : Code} {b : Nat} {xs : Nat → Int32} (hst : l.stackTraces = false) (C0 : lw_At p s m meth c b 6 xs) {A : Nat → Prop} (hA : ∀ q : Nat, s.heap.size ≤ q → A q) (hAf : ∀ q : Nat, A q → s.heap.size ≤ q) (hZ : Zz A s) (hY : Yy s) (dC : Nat → ClassId) (dI : Nat → Nat → Nat) (aX : Nat) (fsX : List Value) (qP : Nat) (gP : Nat → Option Nat) (kP : ClassId) (ap : Nat) (fsp : List Value) (aA : Nat) (fsA : List Value) (qf : Nat) (ff : Nat → Int32) (kf : ClassId) (qg : Nat) (fg : Nat → Int32) (kg : ClassId) (aZ : Nat) (fsZ : List Value) (q_things : Nat) (f_things : Nat → Int32) (k_things : ClassId) (q_rootMany : Nat) (f_rootMany : Nat → Int32) (k_rootMany : ClassId) (q_row0 : Nat) (f_row0 : Nat → Int32) (k_row0 : ClassId) (q_log : Nat) (f_log : Nat → Int32) (k_log : ClassId) (q_recordAt : Nat) (f_recordAt : Nat → Int32) (k_recordAt : ClassId) (qO : Nat) (fO : Nat → Int64) (kO : ClassId) (w1 : Int32) (hw1 : w1 = xs (1 : Int32).toNatClampNeg) (w2 : Int32) (hw2 : w2 = xs (2 : Int32).toNatClampNeg) (w3 : Int32) (hw3 : w3 = xs (3 : Int32).toNatClampNeg) (w4 : Int32) (hw4 : w4 = xs (4 : Int32).toNatClampNeg) (w5 : Int32) (hw5 : w5 = xs (5 : Int32).toNatClampNeg) (k_fsX : fh fsX 18 [(4, .ref qP), (13, .ref aA)]) (k_fsp : fh fsp 21 [(0, .int 0), (11, .int 0)]) (k_fsA : fh fsA 15 [(1, .ref qf), (3, .ref qg), (4, .int 0), (5, .int 0)]) (k_fsZ : fh fsZ 150 [(0, .int 0), (48, .ref q_things), (65, .ref q_rootMany), (139, .ref q_row0), (140, .ref q_log), (141, .int 0), (147, .ref q_recordAt), (148, .int 0), (149, .int 0)]) (hg : gP w1.toNatClampNeg = some ap) (hz_f_things : ∀ j, f_things j = 0) (hz_f_rootMany : ∀ j, f_rootMany j = 0) (hz_f_recordAt : ∀ j, f_recordAt j = 0) {H : Heap} {locs : List Loc} (hK : va_K (dC, dI) vwCl [(kP, .object "HeapWorks$Picture"), (kf, .int), (kg, .int), (k_things, .int), (k_rootMany, .int), (k_row0, .byte), (k_log, .byte), (k_recordAt, .int), (kO, .long)] s) (hP : va_P (dC, dI) vwCl [(aX, .inr (14, fsX)), (qP, .inl (kP, 4, .inr (.inr (.inr (.inr gP))))), (ap, .inr (8, fsp)), (aA, .inr (3, fsA)), (qf, .inl (kf, 4000, .inl ff)), (qg, .inl (kg, 8000, .inl fg)), (aZ, .inr (15, fsZ)), (q_things, .inl (k_things, 5, .inl f_things)), (q_rootMany, .inl (k_rootMany, 5, .inl f_rootMany)), (q_row0, .inl (k_row0, 9000, .inl f_row0)), (q_log, .inl (k_log, 8000, .inl f_log)), (q_recordAt, .inl (k_recordAt, 1000, .inl f_recordAt)), (qO, .inl (kO, 1, .inr (.inl fO)))] H) (hD : va_D A [(aX, .inr (14, fsX)), (qP, .inl (kP, 4, .inr (.inr (.inr (.inr gP))))), (ap, .inr (8, fsp)), (aA, .inr (3, fsA)), (qf, .inl (kf, 4000, .inl ff)), (qg, .inl (kg, 8000, .inl fg)), (aZ, .inr (15, fsZ)), (q_things, .inl (k_things, 5, .inl f_things)), (q_rootMany, .inl (k_rootMany, 5, .inl f_rootMany)), (q_row0, .inl (k_row0, 9000, .inl f_row0)), (q_log, .inl (k_log, 8000, .inl f_log)), (q_recordAt, .inl (k_recordAt, 1000, .inl f_recordAt)), (qO, .inl (kO, 1, .inr (.inl fO)))]) (hS : va_S A s.heap H locs) (ls : Array Slot) (hl : lv_has ls 8 [(0, .ref b), (1, .ref aX), (2, .ref aZ), (3, .ref qO), (4, .int 0)]) : W p l e room_1 s m #[Value.ref b] below meth c H locs 390 571359 (lw_Z below #[Value.ref b] s) (F0 m 2937 ls []) := by
  obtain ⟨hx, hb, hr, hml, hown0, hts0, hX, hbl, hlocks, hgv⟩ := id C0
  have hown : s.vm.findClass RL = some m.cls := hown0
  have hts : ∀ w ∈ lwW, w.before #[Value.ref b] s = true := fun w h => hts0 w (lwW_in w h)
  have hbA : ¬ A b := fun h => absurd (hAf b h) (Nat.not_le.mpr hbl)
  have o_fsX := ow_0 k_fsX
  have o_fsp := ow_0 k_fsp
  have o_fsA := ow_0 k_fsA
  have o_fsZ := ow_0 k_fsZ
  refine lv_aload_n hx hb dL_law_2937 rfl (lv_at hl 1 rfl) ?_
  refine lv_aload_n hx hb dL_law_2938 rfl (lv_at hl 0 rfl) ?_
  refine lv_iload hx hb dL_law_2939 (lv_at hl 4 rfl) ?_
  refine lv_iconst (v := 1) hx hb dL_law_2941 (by decide) ?_
  refine lv_iadd hx hb dL_law_2942  ?_
  refine lv_topi (fun x101 ex101 => ?_)
  obtain rfl : x101 = 1 := ex101.trans (by decide)
  refine va_sld hx hb hX hbl hbA hS (show vp_in 1 6 from by unfold vp_in; decide) dL_law_2943 ?_
  refine lv_topi (fun x102 ex102 => ?_)
  obtain rfl : w1 = x102 := hw1.trans ex102.symm
  refine lv_aload_n hx hb dL_law_2944 rfl (lv_at hl 3 rfl) ?_
  have hPc := hP.sub (ws' := [(aX, .inr (14, fsX)), (qP, .inl (kP, 4, .inr (.inr (.inr (.inr gP))))), (ap, .inr (8, fsp)), (aA, .inr (3, fsA)), (qf, .inl (kf, 4000, .inl ff)), (qg, .inl (kg, 8000, .inl fg)), (qO, .inl (kO, 1, .inr (.inl fO)))]) [0, 1, 2, 3, 4, 5, 12] rfl
  have hDc := hD.sub (ws' := [(aX, .inr (14, fsX)), (qP, .inl (kP, 4, .inr (.inr (.inr (.inr gP))))), (ap, .inr (8, fsp)), (aA, .inr (3, fsA)), (qf, .inl (kf, 4000, .inl ff)), (qg, .inl (kg, 8000, .inl fg)), (qO, .inl (kO, 1, .inr (.inl fO)))]) [0, 1, 2, 3, 4, 5, 12] (by decide) rfl
  have hKc := hK.sub (tys' := [(kP, .object "HeapWorks$Picture"), (kf, .int), (kg, .int), (kO, .long)]) [0, 1, 2, 8] rfl
  have hFc := va_free (wc := [(aX, .inr (14, fsX)), (qP, .inl (kP, 4, .inr (.inr (.inr (.inr gP))))), (ap, .inr (8, fsp)), (aA, .inr (3, fsA)), (qf, .inl (kf, 4000, .inl ff)), (qg, .inl (kg, 8000, .inl fg)), (qO, .inl (kO, 1, .inr (.inl fO)))]) hD hS hA [0, 1, 2, 3, 4, 5, 12] rfl
  refine vx_calli (vx_runSX (As := [.ref aX, .int w1, .ref qO]) (rest := []) ⟨hx, hb, hml, hown, hts⟩ (z_L_keep l dC dI H.size aX fsX qP gP kP ap fsp aA fsA qf ff kf qg fg kg qO fO kO w1 (fh_sub o_fsX.2 [0, 1] rfl) (fh_sub o_fsp.2 [0, 1] rfl) (fh_sub o_fsA.2 [0, 1, 2, 3] rfl) hst hg) (vx_cwSW 3 hts g_lk_47_z_L_keep_301 rfl rfl rfl (by decide +kernel) ⟨Nat.le_of_ble_eq_true rfl, Nat.le_of_ble_eq_true rfl⟩) ⟨fun a U g mk q => by obtain ⟨q0, q1, qZ, qY, qP, qK, qD⟩ := q; exact ⟨q0, q1, Zz_call qZ, Yy_call qY, qP, va_K.moved (u := U) (U := U.calling g mk a) (Vm.Alike.refl U.vm) qK, qD⟩, fun U hU hW => ⟨rfl, by rw [hU], Zz_go hZ hS hFc hU hW, Yy_go hY hW, by rw [hU]; exact hPc, va_K.moved hW.alike hKc, hDc.weaken (fun _ _ _ _ => trivial)⟩⟩ rfl rfl hl.1 rfl (lv_room (Nat.le_of_ble_eq_true rfl)) dL_law_2945 ⟨Nat.le_of_ble_eq_true rfl, Nat.le_of_ble_eq_true rfl⟩) hS (fun q _ h => hFc q h) hFc (fun q _ h => hFc q h) (fun E ce q9 u t H1 locs ht hvm hpx hBX hz1 hk1 hS hce hcv hcl => ?_) (fun r103 u t H1 locs ht hvm hw hB hz1 hk1 hS => ?_)
  · exact False.elim hBX
  · skip
    obtain ⟨f104, rfl⟩ : ∃ z, z = u := ⟨_, rfl⟩
    obtain ⟨hP1, hK1, hD1⟩ := hB
    rw [ht] at hP1
    try dsimp only at hw
    obtain ⟨hP, hD⟩ := va_join (wr := [(aZ, .inr (15, fsZ)), (q_things, .inl (k_things, 5, .inl f_things)), (q_rootMany, .inl (k_rootMany, 5, .inl f_rootMany)), (q_row0, .inl (k_row0, 9000, .inl f_row0)), (q_log, .inl (k_log, 8000, .inl f_log)), (q_recordAt, .inl (k_recordAt, 1000, .inl f_recordAt))]) (w1 := [(qO, .inl (kO, 1, .inr (.inl f104)))]) hP hD [0, 1, 2, 3, 4, 5, 12] [6, 7, 8, 9, 10, 11] rfl rfl (by decide) (by decide) hk1 hFc hP1 hD1
    have hK := hK.sub (tys' := [(k_things, .int), (k_rootMany, .int), (k_row0, .byte), (k_log, .byte), (k_recordAt, .int), (kO, .long)]) [3, 4, 5, 6, 7, 8] rfl
    generalize H1 = H at hP hS ⊢
    refine W.widen (k := 391) (n := 571365) (by omega) (by omega) ?_
    have hP : va_P (dC, dI) vwCl [(aZ, .inr (15, fsZ)), (q_things, .inl (k_things, 5, .inl f_things)), (q_rootMany, .inl (k_rootMany, 5, .inl f_rootMany)), (q_row0, .inl (k_row0, 9000, .inl f_row0)), (q_log, .inl (k_log, 8000, .inl f_log)), (q_recordAt, .inl (k_recordAt, 1000, .inl f_recordAt)), (qO, .inl (kO, 1, .inr (.inl f104)))] H := hP
    have hD : va_D A [(aZ, .inr (15, fsZ)), (q_things, .inl (k_things, 5, .inl f_things)), (q_rootMany, .inl (k_rootMany, 5, .inl f_rootMany)), (q_row0, .inl (k_row0, 9000, .inl f_row0)), (q_log, .inl (k_log, 8000, .inl f_log)), (q_recordAt, .inl (k_recordAt, 1000, .inl f_recordAt)), (qO, .inl (kO, 1, .inr (.inl f104)))] := hD
    rcases hw with ⟨c105, er106⟩ | ⟨c107, c108, er109⟩ | ⟨c110, c111, er112, q113⟩
    · skip
      subst er106
      refine lv_istore (lv' := [(5, .int 1), (0, .ref b), (1, .ref aX), (2, .ref aZ), (3, .ref qO), (4, .int 0)]) hx hb dL_law_2948 hl (by decide) rfl (fun ls hl => ?_)
      refine lv_aload_n hx hb dL_law_2950 rfl (lv_at hl 3 rfl) ?_
      refine lv_aload_n hx hb dL_law_2951 rfl (lv_at hl 1 rfl) ?_
      refine lv_iload hx hb dL_law_2952 (lv_at hl 5 rfl) ?_
      refine lv_iconst (v := 1) hx hb dL_law_2954 (by decide) ?_
      refine lv_iadd hx hb dL_law_2955  ?_
      refine lv_topi (fun x114 ex114 => ?_)
      obtain rfl : x114 = 1 := ex114.trans (by decide)
      refine va_sld hx hb hX hbl hbA hS (show vp_in 1 6 from by unfold vp_in; decide) dL_law_2956 ?_
      refine lv_topi (fun x115 ex115 => ?_)
      obtain rfl : w1 = x115 := hw1.trans ex115.symm
      have hPc := hP.sub (ws' := [(aZ, .inr (15, fsZ)), (q_things, .inl (k_things, 5, .inl f_things)), (q_rootMany, .inl (k_rootMany, 5, .inl f_rootMany)), (q_row0, .inl (k_row0, 9000, .inl f_row0)), (q_log, .inl (k_log, 8000, .inl f_log)), (q_recordAt, .inl (k_recordAt, 1000, .inl f_recordAt))]) [0, 1, 2, 3, 4, 5] rfl
      have hDc := hD.sub (ws' := [(aZ, .inr (15, fsZ)), (q_things, .inl (k_things, 5, .inl f_things)), (q_rootMany, .inl (k_rootMany, 5, .inl f_rootMany)), (q_row0, .inl (k_row0, 9000, .inl f_row0)), (q_log, .inl (k_log, 8000, .inl f_log)), (q_recordAt, .inl (k_recordAt, 1000, .inl f_recordAt))]) [0, 1, 2, 3, 4, 5] (by decide) rfl
      have hKc := hK.sub (tys' := [(k_things, .int), (k_rootMany, .int), (k_row0, .byte), (k_log, .byte), (k_recordAt, .int)]) [0, 1, 2, 3, 4] rfl
      have hFc := va_free (wc := [(aZ, .inr (15, fsZ)), (q_things, .inl (k_things, 5, .inl f_things)), (q_rootMany, .inl (k_rootMany, 5, .inl f_rootMany)), (q_row0, .inl (k_row0, 9000, .inl f_row0)), (q_log, .inl (k_log, 8000, .inl f_log)), (q_recordAt, .inl (k_recordAt, 1000, .inl f_recordAt))]) hD hS hA [0, 1, 2, 3, 4, 5] rfl
      refine va_calli (va_runV (As := [.int w1]) (rest := []) ⟨hx, hb, hml, hown, hts⟩ (z_X12_keep l dC dI H.size aZ fsZ q_things f_things k_things q_rootMany f_rootMany k_rootMany q_row0 f_row0 k_row0 q_log f_log k_log q_recordAt f_recordAt k_recordAt w1 (fh_sub o_fsZ.2 [0, 1, 2, 3, 4, 5, 6, 7, 8] rfl) hz_f_things hz_f_rootMany hz_f_recordAt) (cwV 1 hts g_lk_47_z_X12_keep_303 rfl rfl rfl (by decide +kernel) ⟨Nat.le_of_ble_eq_true rfl, Nat.le_of_ble_eq_true rfl⟩) ⟨fun a U g mk q => by obtain ⟨q0, q1, qP, qK, qD⟩ := q; exact ⟨q0, q1, qP, va_K.moved (u := U) (U := U.calling g mk a) (Vm.Alike.refl U.vm) qK, qD⟩, va_recv hK hP (ci := 15) (q0 := 0) rfl rfl, fun U hU hW => ⟨rfl, by rw [hU], by rw [hU]; exact hPc, va_K.moved hW.alike hKc, hDc.weaken (fun _ _ _ _ => trivial)⟩⟩ rfl rfl hl.1 rfl (lv_room (Nat.le_of_ble_eq_true rfl)) dL_law_2957 ⟨Nat.le_of_ble_eq_true rfl, Nat.le_of_ble_eq_true rfl⟩) hS (fun q _ h => hFc q h) hFc (fun r116 u t H1 locs ht hvm hw hB hz1 hk1 hS => ?_)
      obtain ⟨s117, f118, f119, f120⟩ := u
      obtain ⟨hP1, hK1, hD1⟩ := hB
      rw [ht] at hP1
      try dsimp only at hw
      obtain ⟨hP, hD⟩ := va_join (wr := [(qO, .inl (kO, 1, .inr (.inl f104)))]) (w1 := [(aZ, .inr (15, s117)), (q_things, .inl (k_things, 5, .inl f_things)), (q_rootMany, .inl (k_rootMany, 5, .inl f_rootMany)), (q_row0, .inl (k_row0, 9000, .inl f118)), (q_log, .inl (k_log, 8000, .inl f119)), (q_recordAt, .inl (k_recordAt, 1000, .inl f120))]) hP hD [0, 1, 2, 3, 4, 5] [6] rfl rfl (by decide) (by decide) hk1 hFc hP1 hD1
      have hK := hK.sub (tys' := [(kO, .long), (k_things, .int), (k_rootMany, .int), (k_row0, .byte), (k_log, .byte), (k_recordAt, .int)]) [5, 0, 1, 2, 3, 4] rfl
      generalize H1 = H at hP hS ⊢
      have hP : va_P (dC, dI) vwCl [(qO, .inl (kO, 1, .inr (.inl f104))), (aZ, .inr (15, s117)), (q_things, .inl (k_things, 5, .inl f_things)), (q_rootMany, .inl (k_rootMany, 5, .inl f_rootMany)), (q_row0, .inl (k_row0, 9000, .inl f118)), (q_log, .inl (k_log, 8000, .inl f119)), (q_recordAt, .inl (k_recordAt, 1000, .inl f120))] H := hP
      have hD : va_D A [(qO, .inl (kO, 1, .inr (.inl f104))), (aZ, .inr (15, s117)), (q_things, .inl (k_things, 5, .inl f_things)), (q_rootMany, .inl (k_rootMany, 5, .inl f_rootMany)), (q_row0, .inl (k_row0, 9000, .inl f118)), (q_log, .inl (k_log, 8000, .inl f119)), (q_recordAt, .inl (k_recordAt, 1000, .inl f120))] := hD
      rcases hw with ⟨c121, er122, o_s117, q123⟩ | ⟨c124, c125, er126, o_s117, q127⟩ | ⟨c128, c129, er130, o_s117, q131, q132, q133⟩
      · skip
        subst er122
        have o_s117 := ow_on o_fsZ o_s117 (l' := [(0, .int 1), (48, .ref q_things), (65, .ref q_rootMany), (139, .ref q_row0), (140, .ref q_log), (141, .int 0), (147, .ref q_recordAt), (148, .int 0), (149, .int 0), (48, .ref q_things), (65, .ref q_rootMany), (139, .ref q_row0), (140, .ref q_log), (141, .int 0), (147, .ref q_recordAt), (148, .int 0), (149, .int 0)]) (w' := [0]) rfl rfl
        refine lv_istore (lv' := [(6, .int 0), (5, .int 1), (0, .ref b), (1, .ref aX), (2, .ref aZ), (3, .ref qO), (4, .int 0)]) hx hb dL_law_2960 hl (by decide) rfl (fun ls hl => ?_)
        refine lv_aload_n hx hb dL_law_2962 rfl (lv_at hl 4 rfl) ?_
        have hPc := hP.sub (ws' := [(aZ, .inr (15, s117))]) [1] rfl
        have hDc := hD.sub (ws' := [(aZ, .inr (15, s117))]) [1] (by decide) rfl
        have hKc := hK.sub (tys' := []) [] rfl
        have hFc := va_free (wc := [(aZ, .inr (15, s117))]) hD hS hA [1] rfl
        refine va_calli (va_runV (As := []) (rest := []) ⟨hx, hb, hml, hown, hts⟩ (z_X12_thrown l dC dI H.size aZ s117 (fh_sub o_s117.2 [0] rfl) ) (cwV 0 hts g_lk_47_z_X12_thrown_149 rfl rfl rfl (by decide +kernel) ⟨Nat.le_of_ble_eq_true rfl, Nat.le_of_ble_eq_true rfl⟩) ⟨fun a U g mk q => by obtain ⟨q0, q1, qP, qK, qD⟩ := q; exact ⟨q0, q1, qP, va_K.moved (u := U) (U := U.calling g mk a) (Vm.Alike.refl U.vm) qK, qD⟩, va_recv hK hP (ci := 15) (q0 := 1) rfl rfl, fun U hU hW => ⟨rfl, by rw [hU], by rw [hU]; exact hPc, va_K.moved hW.alike hKc, hDc.weaken (fun _ _ _ _ => trivial)⟩⟩ rfl rfl hl.1 rfl (lv_room (Nat.le_of_ble_eq_true rfl)) dL_law_2963 ⟨Nat.le_of_ble_eq_true rfl, Nat.le_of_ble_eq_true rfl⟩) hS (fun q _ h => hFc q h) hFc (fun r134 u t H1 locs ht hvm hw hB hz1 hk1 hS => ?_)
        obtain ⟨hP1, hK1, hD1⟩ := hB
        rw [ht] at hP1
        try dsimp only at hw
        obtain ⟨hP, hD⟩ := va_join (wr := [(qO, .inl (kO, 1, .inr (.inl f104))), (q_things, .inl (k_things, 5, .inl f_things)), (q_rootMany, .inl (k_rootMany, 5, .inl f_rootMany)), (q_row0, .inl (k_row0, 9000, .inl f118)), (q_log, .inl (k_log, 8000, .inl f119)), (q_recordAt, .inl (k_recordAt, 1000, .inl f120))]) (w1 := [(aZ, .inr (15, s117))]) hP hD [1] [0, 2, 3, 4, 5, 6] rfl rfl (by decide) (by decide) hk1 hFc hP1 hD1
        have hK := hK.sub (tys' := [(kO, .long), (k_things, .int), (k_rootMany, .int), (k_row0, .byte), (k_log, .byte), (k_recordAt, .int)]) [0, 1, 2, 3, 4, 5] rfl
        generalize H1 = H at hP hS ⊢
        have hP : va_P (dC, dI) vwCl [(qO, .inl (kO, 1, .inr (.inl f104))), (q_things, .inl (k_things, 5, .inl f_things)), (q_rootMany, .inl (k_rootMany, 5, .inl f_rootMany)), (q_row0, .inl (k_row0, 9000, .inl f118)), (q_log, .inl (k_log, 8000, .inl f119)), (q_recordAt, .inl (k_recordAt, 1000, .inl f120)), (aZ, .inr (15, s117))] H := hP
        have hD : va_D A [(qO, .inl (kO, 1, .inr (.inl f104))), (q_things, .inl (k_things, 5, .inl f_things)), (q_rootMany, .inl (k_rootMany, 5, .inl f_rootMany)), (q_row0, .inl (k_row0, 9000, .inl f118)), (q_log, .inl (k_log, 8000, .inl f119)), (q_recordAt, .inl (k_recordAt, 1000, .inl f120)), (aZ, .inr (15, s117))] := hD
        have er135 := hw
        subst er135
        refine lv_iload hx hb dL_law_2966 (lv_at hl 1 rfl) ?_
        refine lv_icmp_eq (tgt := 2973) hx hb dL_law_2968 (by decide) (fun c136 => ?_) (fun c136 => absurd c136 (by decide))
        refine lv_iload hx hb dL_law_2973 (lv_at hl 1 rfl) ?_
        refine lv_if_ne (tgt := 2990) hx hb dL_law_2975 (by decide) (fun c137 => ?_) (fun c137 => absurd c137 (by decide))
        refine lv_goto (tgt := 3111) hx hb dL_law_2990 (by decide) ?_
        exact lw_end hst C0 hA hAf hZ hY (Nat.le_of_ble_eq_true rfl) (Nat.le_of_ble_eq_true rfl) dC dI P0k P0 D0 hS ls (lv_sub hl [2, 6] rfl)
      · exact (by exfalso; (try simp only [i_lt, i_le, i_eq, kc_0, kc_4] at c105 c124 c125); omega)
      · exact (by exfalso; (try simp only [i_lt, i_le, i_eq, kc_0, kc_4] at c105 c128 c129); omega)
    · skip
      subst er109
      refine lv_istore (lv' := [(5, .int 1), (0, .ref b), (1, .ref aX), (2, .ref aZ), (3, .ref qO), (4, .int 0)]) hx hb dL_law_2948 hl (by decide) rfl (fun ls hl => ?_)
      refine lv_aload_n hx hb dL_law_2950 rfl (lv_at hl 3 rfl) ?_
      refine lv_aload_n hx hb dL_law_2951 rfl (lv_at hl 1 rfl) ?_
      refine lv_iload hx hb dL_law_2952 (lv_at hl 5 rfl) ?_
      refine lv_iconst (v := 1) hx hb dL_law_2954 (by decide) ?_
      refine lv_iadd hx hb dL_law_2955  ?_
      refine lv_topi (fun x138 ex138 => ?_)
      obtain rfl : x138 = 1 := ex138.trans (by decide)
      refine va_sld hx hb hX hbl hbA hS (show vp_in 1 6 from by unfold vp_in; decide) dL_law_2956 ?_
      refine lv_topi (fun x139 ex139 => ?_)
      obtain rfl : w1 = x139 := hw1.trans ex139.symm
      have hPc := hP.sub (ws' := [(aZ, .inr (15, fsZ)), (q_things, .inl (k_things, 5, .inl f_things)), (q_rootMany, .inl (k_rootMany, 5, .inl f_rootMany)), (q_row0, .inl (k_row0, 9000, .inl f_row0)), (q_log, .inl (k_log, 8000, .inl f_log)), (q_recordAt, .inl (k_recordAt, 1000, .inl f_recordAt))]) [0, 1, 2, 3, 4, 5] rfl
      have hDc := hD.sub (ws' := [(aZ, .inr (15, fsZ)), (q_things, .inl (k_things, 5, .inl f_things)), (q_rootMany, .inl (k_rootMany, 5, .inl f_rootMany)), (q_row0, .inl (k_row0, 9000, .inl f_row0)), (q_log, .inl (k_log, 8000, .inl f_log)), (q_recordAt, .inl (k_recordAt, 1000, .inl f_recordAt))]) [0, 1, 2, 3, 4, 5] (by decide) rfl
      have hKc := hK.sub (tys' := [(k_things, .int), (k_rootMany, .int), (k_row0, .byte), (k_log, .byte), (k_recordAt, .int)]) [0, 1, 2, 3, 4] rfl
      have hFc := va_free (wc := [(aZ, .inr (15, fsZ)), (q_things, .inl (k_things, 5, .inl f_things)), (q_rootMany, .inl (k_rootMany, 5, .inl f_rootMany)), (q_row0, .inl (k_row0, 9000, .inl f_row0)), (q_log, .inl (k_log, 8000, .inl f_log)), (q_recordAt, .inl (k_recordAt, 1000, .inl f_recordAt))]) hD hS hA [0, 1, 2, 3, 4, 5] rfl
      refine va_calli (va_runV (As := [.int w1]) (rest := []) ⟨hx, hb, hml, hown, hts⟩ (z_X12_keep l dC dI H.size aZ fsZ q_things f_things k_things q_rootMany f_rootMany k_rootMany q_row0 f_row0 k_row0 q_log f_log k_log q_recordAt f_recordAt k_recordAt w1 (fh_sub o_fsZ.2 [0, 1, 2, 3, 4, 5, 6, 7, 8] rfl) hz_f_things hz_f_rootMany hz_f_recordAt) (cwV 1 hts g_lk_47_z_X12_keep_303 rfl rfl rfl (by decide +kernel) ⟨Nat.le_of_ble_eq_true rfl, Nat.le_of_ble_eq_true rfl⟩) ⟨fun a U g mk q => by obtain ⟨q0, q1, qP, qK, qD⟩ := q; exact ⟨q0, q1, qP, va_K.moved (u := U) (U := U.calling g mk a) (Vm.Alike.refl U.vm) qK, qD⟩, va_recv hK hP (ci := 15) (q0 := 0) rfl rfl, fun U hU hW => ⟨rfl, by rw [hU], by rw [hU]; exact hPc, va_K.moved hW.alike hKc, hDc.weaken (fun _ _ _ _ => trivial)⟩⟩ rfl rfl hl.1 rfl (lv_room (Nat.le_of_ble_eq_true rfl)) dL_law_2957 ⟨Nat.le_of_ble_eq_true rfl, Nat.le_of_ble_eq_true rfl⟩) hS (fun q _ h => hFc q h) hFc (fun r140 u t H1 locs ht hvm hw hB hz1 hk1 hS => ?_)
      obtain ⟨s141, f142, f143, f144⟩ := u
      obtain ⟨hP1, hK1, hD1⟩ := hB
      rw [ht] at hP1
      try dsimp only at hw
      obtain ⟨hP, hD⟩ := va_join (wr := [(qO, .inl (kO, 1, .inr (.inl f104)))]) (w1 := [(aZ, .inr (15, s141)), (q_things, .inl (k_things, 5, .inl f_things)), (q_rootMany, .inl (k_rootMany, 5, .inl f_rootMany)), (q_row0, .inl (k_row0, 9000, .inl f142)), (q_log, .inl (k_log, 8000, .inl f143)), (q_recordAt, .inl (k_recordAt, 1000, .inl f144))]) hP hD [0, 1, 2, 3, 4, 5] [6] rfl rfl (by decide) (by decide) hk1 hFc hP1 hD1
      have hK := hK.sub (tys' := [(kO, .long), (k_things, .int), (k_rootMany, .int), (k_row0, .byte), (k_log, .byte), (k_recordAt, .int)]) [5, 0, 1, 2, 3, 4] rfl
      generalize H1 = H at hP hS ⊢
      have hP : va_P (dC, dI) vwCl [(qO, .inl (kO, 1, .inr (.inl f104))), (aZ, .inr (15, s141)), (q_things, .inl (k_things, 5, .inl f_things)), (q_rootMany, .inl (k_rootMany, 5, .inl f_rootMany)), (q_row0, .inl (k_row0, 9000, .inl f142)), (q_log, .inl (k_log, 8000, .inl f143)), (q_recordAt, .inl (k_recordAt, 1000, .inl f144))] H := hP
      have hD : va_D A [(qO, .inl (kO, 1, .inr (.inl f104))), (aZ, .inr (15, s141)), (q_things, .inl (k_things, 5, .inl f_things)), (q_rootMany, .inl (k_rootMany, 5, .inl f_rootMany)), (q_row0, .inl (k_row0, 9000, .inl f142)), (q_log, .inl (k_log, 8000, .inl f143)), (q_recordAt, .inl (k_recordAt, 1000, .inl f144))] := hD
      rcases hw with ⟨c145, er146, o_s141, q147⟩ | ⟨c148, c149, er150, o_s141, q151⟩ | ⟨c152, c153, er154, o_s141, q155, q156, q157⟩
      · exact (by exfalso; (try simp only [i_lt, i_le, i_eq, kc_0, kc_4] at c107 c108 c145); omega)
      · skip
        subst er150
        have o_s141 := ow_on o_fsZ o_s141 (l' := [(0, .int 1), (48, .ref q_things), (65, .ref q_rootMany), (139, .ref q_row0), (140, .ref q_log), (141, .int 0), (147, .ref q_recordAt), (148, .int 0), (149, .int 0), (48, .ref q_things), (65, .ref q_rootMany), (139, .ref q_row0), (140, .ref q_log), (141, .int 0), (147, .ref q_recordAt), (148, .int 0), (149, .int 0)]) (w' := [0]) rfl rfl
        refine lv_istore (lv' := [(6, .int 0), (5, .int 1), (0, .ref b), (1, .ref aX), (2, .ref aZ), (3, .ref qO), (4, .int 0)]) hx hb dL_law_2960 hl (by decide) rfl (fun ls hl => ?_)
        refine lv_aload_n hx hb dL_law_2962 rfl (lv_at hl 4 rfl) ?_
        have hPc := hP.sub (ws' := [(aZ, .inr (15, s141))]) [1] rfl
        have hDc := hD.sub (ws' := [(aZ, .inr (15, s141))]) [1] (by decide) rfl
        have hKc := hK.sub (tys' := []) [] rfl
        have hFc := va_free (wc := [(aZ, .inr (15, s141))]) hD hS hA [1] rfl
        refine va_calli (va_runV (As := []) (rest := []) ⟨hx, hb, hml, hown, hts⟩ (z_X12_thrown l dC dI H.size aZ s141 (fh_sub o_s141.2 [0] rfl) ) (cwV 0 hts g_lk_47_z_X12_thrown_149 rfl rfl rfl (by decide +kernel) ⟨Nat.le_of_ble_eq_true rfl, Nat.le_of_ble_eq_true rfl⟩) ⟨fun a U g mk q => by obtain ⟨q0, q1, qP, qK, qD⟩ := q; exact ⟨q0, q1, qP, va_K.moved (u := U) (U := U.calling g mk a) (Vm.Alike.refl U.vm) qK, qD⟩, va_recv hK hP (ci := 15) (q0 := 1) rfl rfl, fun U hU hW => ⟨rfl, by rw [hU], by rw [hU]; exact hPc, va_K.moved hW.alike hKc, hDc.weaken (fun _ _ _ _ => trivial)⟩⟩ rfl rfl hl.1 rfl (lv_room (Nat.le_of_ble_eq_true rfl)) dL_law_2963 ⟨Nat.le_of_ble_eq_true rfl, Nat.le_of_ble_eq_true rfl⟩) hS (fun q _ h => hFc q h) hFc (fun r158 u t H1 locs ht hvm hw hB hz1 hk1 hS => ?_)
        obtain ⟨hP1, hK1, hD1⟩ := hB
        rw [ht] at hP1
        try dsimp only at hw
        obtain ⟨hP, hD⟩ := va_join (wr := [(qO, .inl (kO, 1, .inr (.inl f104))), (q_things, .inl (k_things, 5, .inl f_things)), (q_rootMany, .inl (k_rootMany, 5, .inl f_rootMany)), (q_row0, .inl (k_row0, 9000, .inl f142)), (q_log, .inl (k_log, 8000, .inl f143)), (q_recordAt, .inl (k_recordAt, 1000, .inl f144))]) (w1 := [(aZ, .inr (15, s141))]) hP hD [1] [0, 2, 3, 4, 5, 6] rfl rfl (by decide) (by decide) hk1 hFc hP1 hD1
        have hK := hK.sub (tys' := [(kO, .long), (k_things, .int), (k_rootMany, .int), (k_row0, .byte), (k_log, .byte), (k_recordAt, .int)]) [0, 1, 2, 3, 4, 5] rfl
        generalize H1 = H at hP hS ⊢
        have hP : va_P (dC, dI) vwCl [(qO, .inl (kO, 1, .inr (.inl f104))), (q_things, .inl (k_things, 5, .inl f_things)), (q_rootMany, .inl (k_rootMany, 5, .inl f_rootMany)), (q_row0, .inl (k_row0, 9000, .inl f142)), (q_log, .inl (k_log, 8000, .inl f143)), (q_recordAt, .inl (k_recordAt, 1000, .inl f144)), (aZ, .inr (15, s141))] H := hP
        have hD : va_D A [(qO, .inl (kO, 1, .inr (.inl f104))), (q_things, .inl (k_things, 5, .inl f_things)), (q_rootMany, .inl (k_rootMany, 5, .inl f_rootMany)), (q_row0, .inl (k_row0, 9000, .inl f142)), (q_log, .inl (k_log, 8000, .inl f143)), (q_recordAt, .inl (k_recordAt, 1000, .inl f144)), (aZ, .inr (15, s141))] := hD
        have er159 := hw
        subst er159
        refine lv_iload hx hb dL_law_2966 (lv_at hl 1 rfl) ?_
        refine lv_icmp_eq (tgt := 2973) hx hb dL_law_2968 (by decide) (fun c160 => ?_) (fun c160 => absurd c160 (by decide))
        refine lv_iload hx hb dL_law_2973 (lv_at hl 1 rfl) ?_
        refine lv_if_ne (tgt := 2990) hx hb dL_law_2975 (by decide) (fun c161 => ?_) (fun c161 => absurd c161 (by decide))
        refine lv_goto (tgt := 3111) hx hb dL_law_2990 (by decide) ?_
        exact lw_end hst C0 hA hAf hZ hY (Nat.le_of_ble_eq_true rfl) (Nat.le_of_ble_eq_true rfl) dC dI P0k P0 D0 hS ls (lv_sub hl [2, 6] rfl)
      · exact (by exfalso; (try simp only [i_lt, i_le, i_eq, kc_0, kc_4] at c107 c108 c152 c153); omega)
    · skip
      subst er112
      refine lv_istore (lv' := [(5, .int 0), (0, .ref b), (1, .ref aX), (2, .ref aZ), (3, .ref qO), (4, .int 0)]) hx hb dL_law_2948 hl (by decide) rfl (fun ls hl => ?_)
      refine lv_aload_n hx hb dL_law_2950 rfl (lv_at hl 3 rfl) ?_
      refine lv_aload_n hx hb dL_law_2951 rfl (lv_at hl 1 rfl) ?_
      refine lv_iload hx hb dL_law_2952 (lv_at hl 5 rfl) ?_
      refine lv_iconst (v := 1) hx hb dL_law_2954 (by decide) ?_
      refine lv_iadd hx hb dL_law_2955  ?_
      refine lv_topi (fun x162 ex162 => ?_)
      obtain rfl : x162 = 1 := ex162.trans (by decide)
      refine va_sld hx hb hX hbl hbA hS (show vp_in 1 6 from by unfold vp_in; decide) dL_law_2956 ?_
      refine lv_topi (fun x163 ex163 => ?_)
      obtain rfl : w1 = x163 := hw1.trans ex163.symm
      have hPc := hP.sub (ws' := [(aZ, .inr (15, fsZ)), (q_things, .inl (k_things, 5, .inl f_things)), (q_rootMany, .inl (k_rootMany, 5, .inl f_rootMany)), (q_row0, .inl (k_row0, 9000, .inl f_row0)), (q_log, .inl (k_log, 8000, .inl f_log)), (q_recordAt, .inl (k_recordAt, 1000, .inl f_recordAt))]) [0, 1, 2, 3, 4, 5] rfl
      have hDc := hD.sub (ws' := [(aZ, .inr (15, fsZ)), (q_things, .inl (k_things, 5, .inl f_things)), (q_rootMany, .inl (k_rootMany, 5, .inl f_rootMany)), (q_row0, .inl (k_row0, 9000, .inl f_row0)), (q_log, .inl (k_log, 8000, .inl f_log)), (q_recordAt, .inl (k_recordAt, 1000, .inl f_recordAt))]) [0, 1, 2, 3, 4, 5] (by decide) rfl
      have hKc := hK.sub (tys' := [(k_things, .int), (k_rootMany, .int), (k_row0, .byte), (k_log, .byte), (k_recordAt, .int)]) [0, 1, 2, 3, 4] rfl
      have hFc := va_free (wc := [(aZ, .inr (15, fsZ)), (q_things, .inl (k_things, 5, .inl f_things)), (q_rootMany, .inl (k_rootMany, 5, .inl f_rootMany)), (q_row0, .inl (k_row0, 9000, .inl f_row0)), (q_log, .inl (k_log, 8000, .inl f_log)), (q_recordAt, .inl (k_recordAt, 1000, .inl f_recordAt))]) hD hS hA [0, 1, 2, 3, 4, 5] rfl
      refine va_calli (va_runV (As := [.int w1]) (rest := []) ⟨hx, hb, hml, hown, hts⟩ (z_X12_keep l dC dI H.size aZ fsZ q_things f_things k_things q_rootMany f_rootMany k_rootMany q_row0 f_row0 k_row0 q_log f_log k_log q_recordAt f_recordAt k_recordAt w1 (fh_sub o_fsZ.2 [0, 1, 2, 3, 4, 5, 6, 7, 8] rfl) hz_f_things hz_f_rootMany hz_f_recordAt) (cwV 1 hts g_lk_47_z_X12_keep_303 rfl rfl rfl (by decide +kernel) ⟨Nat.le_of_ble_eq_true rfl, Nat.le_of_ble_eq_true rfl⟩) ⟨fun a U g mk q => by obtain ⟨q0, q1, qP, qK, qD⟩ := q; exact ⟨q0, q1, qP, va_K.moved (u := U) (U := U.calling g mk a) (Vm.Alike.refl U.vm) qK, qD⟩, va_recv hK hP (ci := 15) (q0 := 0) rfl rfl, fun U hU hW => ⟨rfl, by rw [hU], by rw [hU]; exact hPc, va_K.moved hW.alike hKc, hDc.weaken (fun _ _ _ _ => trivial)⟩⟩ rfl rfl hl.1 rfl (lv_room (Nat.le_of_ble_eq_true rfl)) dL_law_2957 ⟨Nat.le_of_ble_eq_true rfl, Nat.le_of_ble_eq_true rfl⟩) hS (fun q _ h => hFc q h) hFc (fun r164 u t H1 locs ht hvm hw hB hz1 hk1 hS => ?_)
      obtain ⟨s165, f166, f167, f168⟩ := u
      obtain ⟨hP1, hK1, hD1⟩ := hB
      rw [ht] at hP1
      try dsimp only at hw
      obtain ⟨hP, hD⟩ := va_join (wr := [(qO, .inl (kO, 1, .inr (.inl f104)))]) (w1 := [(aZ, .inr (15, s165)), (q_things, .inl (k_things, 5, .inl f_things)), (q_rootMany, .inl (k_rootMany, 5, .inl f_rootMany)), (q_row0, .inl (k_row0, 9000, .inl f166)), (q_log, .inl (k_log, 8000, .inl f167)), (q_recordAt, .inl (k_recordAt, 1000, .inl f168))]) hP hD [0, 1, 2, 3, 4, 5] [6] rfl rfl (by decide) (by decide) hk1 hFc hP1 hD1
      have hK := hK.sub (tys' := [(kO, .long), (k_things, .int), (k_rootMany, .int), (k_row0, .byte), (k_log, .byte), (k_recordAt, .int)]) [5, 0, 1, 2, 3, 4] rfl
      generalize H1 = H at hP hS ⊢
      have hP : va_P (dC, dI) vwCl [(qO, .inl (kO, 1, .inr (.inl f104))), (aZ, .inr (15, s165)), (q_things, .inl (k_things, 5, .inl f_things)), (q_rootMany, .inl (k_rootMany, 5, .inl f_rootMany)), (q_row0, .inl (k_row0, 9000, .inl f166)), (q_log, .inl (k_log, 8000, .inl f167)), (q_recordAt, .inl (k_recordAt, 1000, .inl f168))] H := hP
      have hD : va_D A [(qO, .inl (kO, 1, .inr (.inl f104))), (aZ, .inr (15, s165)), (q_things, .inl (k_things, 5, .inl f_things)), (q_rootMany, .inl (k_rootMany, 5, .inl f_rootMany)), (q_row0, .inl (k_row0, 9000, .inl f166)), (q_log, .inl (k_log, 8000, .inl f167)), (q_recordAt, .inl (k_recordAt, 1000, .inl f168))] := hD
      rcases hw with ⟨c169, er170, o_s165, q171⟩ | ⟨c172, c173, er174, o_s165, q175⟩ | ⟨c176, c177, er178, o_s165, q179, q180, q181⟩
      · exact (by exfalso; (try simp only [i_lt, i_le, i_eq, kc_0, kc_4] at c110 c111 c169); omega)
      · exact (by exfalso; (try simp only [i_lt, i_le, i_eq, kc_0, kc_4] at c110 c111 c172 c173); omega)
      · skip
        subst er178
        have o_s165 := ow_on o_fsZ o_s165 (l' := [(148, .int 10), (149, .int 1), (0, .int 0), (141, .int 8), (139, .ref q_row0), (139, .ref q_row0), (139, .ref q_row0), (139, .ref q_row0), (139, .ref q_row0), (139, .ref q_row0), (139, .ref q_row0), (139, .ref q_row0), (139, .ref q_row0), (139, .ref q_row0), (139, .ref q_row0), (139, .ref q_row0), (139, .ref q_row0), (139, .ref q_row0), (139, .ref q_row0), (48, .ref q_things), (65, .ref q_rootMany), (139, .ref q_row0), (48, .ref q_things), (65, .ref q_rootMany), (139, .ref q_row0), (140, .ref q_log), (147, .ref q_recordAt), (48, .ref q_things), (65, .ref q_rootMany), (139, .ref q_row0), (140, .ref q_log), (147, .ref q_recordAt)]) (w' := [148, 149, 0, 141]) rfl rfl
        refine lv_istore (lv' := [(6, .int 1), (5, .int 0), (0, .ref b), (1, .ref aX), (2, .ref aZ), (3, .ref qO), (4, .int 0)]) hx hb dL_law_2960 hl (by decide) rfl (fun ls hl => ?_)
        refine lv_aload_n hx hb dL_law_2962 rfl (lv_at hl 4 rfl) ?_
        have hPc := hP.sub (ws' := [(aZ, .inr (15, s165))]) [1] rfl
        have hDc := hD.sub (ws' := [(aZ, .inr (15, s165))]) [1] (by decide) rfl
        have hKc := hK.sub (tys' := []) [] rfl
        have hFc := va_free (wc := [(aZ, .inr (15, s165))]) hD hS hA [1] rfl
        refine va_calli (va_runV (As := []) (rest := []) ⟨hx, hb, hml, hown, hts⟩ (z_X12_thrown_2 l dC dI H.size aZ s165 (fh_sub o_s165.2 [2] rfl) ) (cwV 0 hts g_lk_47_z_X12_thrown_2_149 rfl rfl rfl (by decide +kernel) ⟨Nat.le_of_ble_eq_true rfl, Nat.le_of_ble_eq_true rfl⟩) ⟨fun a U g mk q => by obtain ⟨q0, q1, qP, qK, qD⟩ := q; exact ⟨q0, q1, qP, va_K.moved (u := U) (U := U.calling g mk a) (Vm.Alike.refl U.vm) qK, qD⟩, va_recv hK hP (ci := 15) (q0 := 1) rfl rfl, fun U hU hW => ⟨rfl, by rw [hU], by rw [hU]; exact hPc, va_K.moved hW.alike hKc, hDc.weaken (fun _ _ _ _ => trivial)⟩⟩ rfl rfl hl.1 rfl (lv_room (Nat.le_of_ble_eq_true rfl)) dL_law_2963 ⟨Nat.le_of_ble_eq_true rfl, Nat.le_of_ble_eq_true rfl⟩) hS (fun q _ h => hFc q h) hFc (fun r182 u t H1 locs ht hvm hw hB hz1 hk1 hS => ?_)
        obtain ⟨hP1, hK1, hD1⟩ := hB
        rw [ht] at hP1
        try dsimp only at hw
        obtain ⟨hP, hD⟩ := va_join (wr := [(qO, .inl (kO, 1, .inr (.inl f104))), (q_things, .inl (k_things, 5, .inl f_things)), (q_rootMany, .inl (k_rootMany, 5, .inl f_rootMany)), (q_row0, .inl (k_row0, 9000, .inl f166)), (q_log, .inl (k_log, 8000, .inl f167)), (q_recordAt, .inl (k_recordAt, 1000, .inl f168))]) (w1 := [(aZ, .inr (15, s165))]) hP hD [1] [0, 2, 3, 4, 5, 6] rfl rfl (by decide) (by decide) hk1 hFc hP1 hD1
        have hK := hK.sub (tys' := [(kO, .long), (k_things, .int), (k_rootMany, .int), (k_row0, .byte), (k_log, .byte), (k_recordAt, .int)]) [0, 1, 2, 3, 4, 5] rfl
        generalize H1 = H at hP hS ⊢
        have hP : va_P (dC, dI) vwCl [(qO, .inl (kO, 1, .inr (.inl f104))), (q_things, .inl (k_things, 5, .inl f_things)), (q_rootMany, .inl (k_rootMany, 5, .inl f_rootMany)), (q_row0, .inl (k_row0, 9000, .inl f166)), (q_log, .inl (k_log, 8000, .inl f167)), (q_recordAt, .inl (k_recordAt, 1000, .inl f168)), (aZ, .inr (15, s165))] H := hP
        have hD : va_D A [(qO, .inl (kO, 1, .inr (.inl f104))), (q_things, .inl (k_things, 5, .inl f_things)), (q_rootMany, .inl (k_rootMany, 5, .inl f_rootMany)), (q_row0, .inl (k_row0, 9000, .inl f166)), (q_log, .inl (k_log, 8000, .inl f167)), (q_recordAt, .inl (k_recordAt, 1000, .inl f168)), (aZ, .inr (15, s165))] := hD
        have er183 := hw
        subst er183
        refine lv_iload hx hb dL_law_2966 (lv_at hl 1 rfl) ?_
        refine lv_icmp_eq (tgt := 2973) hx hb dL_law_2968 (by decide) (fun c184 => ?_) (fun c184 => absurd c184 (by decide))
        refine lv_iload hx hb dL_law_2973 (lv_at hl 1 rfl) ?_
        refine lv_if_ne (tgt := 2990) hx hb dL_law_2975 (by decide) (fun c185 => absurd c185 (by decide)) (fun c185 => ?_)
        refine lv_aload_n hx hb dL_law_2978 rfl (lv_at hl 5 rfl) ?_
        refine lv_iconst (v := 0) hx hb dL_law_2979 (by decide) ?_
        refine va_lald hx hb hK hP 0 0 rfl rfl (show vp_in 0 1 from by unfold vp_in; decide) dL_law_2980 ?_
        refine lv_topl (fun x186 ex186 => ?_)
        obtain rfl : 1 = x186 := (ex186.trans q113).symm
        refine lv_iload hx hb dL_law_2981 (lv_at hl 0 rfl) ?_
        refine lv_i2l hx hb dL_law_2983 rfl ?_
        refine lv_topl (fun x187 ex187 => ?_)
        obtain rfl : x187 = 1 := ex187.trans (by decide)
        refine W.lcmp hx hb dL_law_2984  ?_
        refine lv_topi (fun x188 ex188 => ?_)
        obtain rfl : x188 = 0 := ex188.trans (by decide)
        refine lv_if_eq (tgt := 2990) hx hb dL_law_2985 (by decide) (fun c189 => ?_) (fun c189 => absurd c189 (by decide))
        refine lv_goto (tgt := 3111) hx hb dL_law_2990 (by decide) ?_
        exact lw_end hst C0 hA hAf hZ hY (Nat.le_of_ble_eq_true rfl) (Nat.le_of_ble_eq_true rfl) dC dI P0k P0 D0 hS ls (lv_sub hl [2, 6] rfl)

