set_option maxRecDepth 20000 in
theorem g_lk_9_z_L_make_164 : GoodIn lwW (va_wsS RL 164 yL_make w_z_L_make) := goodIn_app (goodIn_sub (ws := ([.methodLink RL 164 yL_make, .static yL_make, .initialized RL] : List Cond)) (gm_c (gm_at lwV_12_in 6 rfl) (gm_c (gm_at lwV_12_in 7 rfl) (gm_c (gm_at lwV_5_in 10 rfl) gm_nil))) (by decide +kernel)) (goodIn_ca (goodIn_sub (ws := .codeWith yL_make cL_make 5 (some .int) [(0, 10, 13, 15), (0, 10, 17, 17)] :: l_z_L_make) (gm_c (gm_at lwV_12_in 11 rfl) (gm_c (gm_at lwV_13_in 0 rfl) (gm_c (gm_at lwV_13_in 1 rfl) (gm_c (gm_at lwV_13_in 2 rfl) (gm_c (gm_at lwV_0_in 3 rfl) (gm_c (gm_at lwV_6_in 10 rfl) (gm_c (gm_at lwV_13_in 3 rfl) (gm_c (gm_at lwV_7_in 7 rfl) (gm_c (gm_at lwV_13_in 4 rfl) (gm_c (gm_at lwV_13_in 5 rfl) (gm_c (gm_at lwV_13_in 6 rfl) (gm_c (gm_at lwV_7_in 11 rfl) (gm_c (gm_at lwV_7_in 5 rfl) (gm_c (gm_at lwV_7_in 6 rfl) (gm_c (gm_at lwV_13_in 7 rfl) (gm_c (gm_at lwV_13_in 8 rfl) (gm_c (gm_at lwV_13_in 9 rfl) (gm_c (gm_at lwV_13_in 10 rfl) (gm_c (gm_at lwV_13_in 11 rfl) (gm_c (gm_at lwV_14_in 0 rfl) (gm_c (gm_at lwV_14_in 1 rfl) (gm_c (gm_at lwV_14_in 2 rfl) (gm_c (gm_at lwV_14_in 3 rfl) (gm_c (gm_at lwV_14_in 4 rfl) (gm_c (gm_at lwV_14_in 5 rfl) (gm_c (gm_at lwV_14_in 6 rfl) (gm_c (gm_at lwV_14_in 7 rfl) (gm_c (gm_at lwV_14_in 8 rfl) (gm_c (gm_at lwV_12_in 4 rfl) (gm_c (gm_at lwV_7_in 9 rfl) (gm_c (gm_at lwV_7_in 10 rfl) (gm_c (gm_at lwV_8_in 9 rfl) (gm_c (gm_at lwV_8_in 10 rfl) (gm_c (gm_at lwV_14_in 9 rfl) (gm_c (gm_at lwV_14_in 10 rfl) (gm_c (gm_at lwV_14_in 11 rfl) (gm_c (gm_at lwV_15_in 0 rfl) (gm_c (gm_at lwV_15_in 1 rfl) (gm_c (gm_at lwV_15_in 2 rfl) (gm_c (gm_at lwV_15_in 3 rfl) (gm_c (gm_at lwV_15_in 4 rfl) (gm_c (gm_at lwV_15_in 5 rfl) (gm_c (gm_at lwV_15_in 6 rfl) (gm_c (gm_at lwV_15_in 7 rfl) (gm_c (gm_at lwV_15_in 8 rfl) (gm_c (gm_at lwV_15_in 9 rfl) (gm_c (gm_at lwV_15_in 10 rfl) (gm_c (gm_at lwV_15_in 11 rfl) (gm_c (gm_at lwV_16_in 0 rfl) (gm_c (gm_at lwV_16_in 1 rfl) (gm_c (gm_at lwV_16_in 2 rfl) (gm_c (gm_at lwV_16_in 3 rfl) (gm_c (gm_at lwV_16_in 4 rfl) (gm_c (gm_at lwV_16_in 5 rfl) (gm_c (gm_at lwV_16_in 6 rfl) (gm_c (gm_at lwV_16_in 7 rfl) (gm_c (gm_at lwV_16_in 8 rfl) (gm_c (gm_at lwV_16_in 9 rfl) (gm_c (gm_at lwV_16_in 10 rfl) (gm_c (gm_at lwV_16_in 11 rfl) gm_nil)))))))))))))))))))))))))))))))))))))))))))))))))))))))))))) (by decide +kernel)) (goodIn_app (goodIn_in il_X11 gd_X11) (goodIn_app (goodIn_in il_at0_X11_129 gd_at0_X11_129) (goodIn_app (goodIn_in il_X10 gd_X10) (goodIn_in il_X2 gd_X2)))))
set_option maxRecDepth 20000 in
theorem g_lk_9_z_X12_make_166 : GoodIn lwW (wsV RL 166 RX12 yX12_make w_z_X12_make) := goodIn_app (goodIn_sub (ws := ([.methodLink RL 166 yX12_make, .instanceMethod yX12_make, .selects RX12 yX12_make yX12_make, .initialized RX12] : List Cond)) (gm_c (gm_at lwV_12_in 8 rfl) (gm_c (gm_at lwV_12_in 9 rfl) (gm_c (gm_at lwV_12_in 10 rfl) (gm_c (gm_at lwV_0_in 7 rfl) gm_nil)))) (by decide +kernel)) (goodIn_ca (goodIn_sub (ws := .code yX12_make cX12_make 4 (some .int) :: l_z_X12_make) (gm_c (gm_at lwV_17_in 0 rfl) (gm_c (gm_at lwV_9_in 3 rfl) (gm_c (gm_at lwV_9_in 4 rfl) (gm_c (gm_at lwV_9_in 5 rfl) (gm_c (gm_at lwV_0_in 7 rfl) (gm_c (gm_at lwV_17_in 1 rfl) (gm_c (gm_at lwV_17_in 2 rfl) (gm_c (gm_at lwV_17_in 3 rfl) (gm_c (gm_at lwV_1_in 5 rfl) (gm_c (gm_at lwV_17_in 4 rfl) (gm_c (gm_at lwV_17_in 5 rfl) (gm_c (gm_at lwV_17_in 6 rfl) (gm_c (gm_at lwV_17_in 7 rfl) (gm_c (gm_at lwV_17_in 8 rfl) (gm_c (gm_at lwV_17_in 9 rfl) (gm_c (gm_at lwV_17_in 10 rfl) (gm_c (gm_at lwV_17_in 11 rfl) (gm_c (gm_at lwV_9_in 7 rfl) (gm_c (gm_at lwV_9_in 8 rfl) (gm_c (gm_at lwV_18_in 0 rfl) (gm_c (gm_at lwV_18_in 1 rfl) (gm_c (gm_at lwV_18_in 2 rfl) (gm_c (gm_at lwV_18_in 3 rfl) (gm_c (gm_at lwV_18_in 4 rfl) (gm_c (gm_at lwV_18_in 5 rfl) (gm_c (gm_at lwV_18_in 6 rfl) (gm_c (gm_at lwV_18_in 7 rfl) (gm_c (gm_at lwV_18_in 8 rfl) (gm_c (gm_at lwV_18_in 9 rfl) (gm_c (gm_at lwV_18_in 10 rfl) (gm_c (gm_at lwV_18_in 11 rfl) (gm_c (gm_at lwV_19_in 0 rfl) (gm_c (gm_at lwV_19_in 1 rfl) gm_nil))))))))))))))))))))))))))))))))) (by decide +kernel)) (goodIn_in il_X12 gd_X12))
set_option maxRecDepth 20000 in
theorem g_lk_9_z_X12_thrown_149 : GoodIn lwW (wsV RL 149 RX12 yX12_thrown w_z_X12_thrown) := goodIn_app (goodIn_sub (ws := ([.methodLink RL 149 yX12_thrown, .instanceMethod yX12_thrown, .selects RX12 yX12_thrown yX12_thrown, .initialized RX12] : List Cond)) (gm_c (gm_at lwV_6_in 2 rfl) (gm_c (gm_at lwV_6_in 3 rfl) (gm_c (gm_at lwV_6_in 4 rfl) (gm_c (gm_at lwV_0_in 7 rfl) gm_nil)))) (by decide +kernel)) (goodIn_ca (goodIn_sub (ws := .code yX12_thrown cX12_thrown 1 (some .int) :: l_z_X12_thrown) (gm_c (gm_at lwV_9_in 9 rfl) (gm_c (gm_at lwV_1_in 5 rfl) gm_nil)) (by decide +kernel)) (goodIn_in il_X12 gd_X12))
set_option maxRecDepth 20000 in
theorem g_lk_9_z_X12_thrown_2_149 : GoodIn lwW (wsV RL 149 RX12 yX12_thrown w_z_X12_thrown_2) := goodIn_app (goodIn_sub (ws := ([.methodLink RL 149 yX12_thrown, .instanceMethod yX12_thrown, .selects RX12 yX12_thrown yX12_thrown, .initialized RX12] : List Cond)) (gm_c (gm_at lwV_6_in 2 rfl) (gm_c (gm_at lwV_6_in 3 rfl) (gm_c (gm_at lwV_6_in 4 rfl) (gm_c (gm_at lwV_0_in 7 rfl) gm_nil)))) (by decide +kernel)) (goodIn_ca (goodIn_sub (ws := .code yX12_thrown cX12_thrown 1 (some .int) :: l_z_X12_thrown_2) (gm_c (gm_at lwV_9_in 9 rfl) (gm_c (gm_at lwV_1_in 5 rfl) gm_nil)) (by decide +kernel)) (goodIn_in il_X12 gd_X12))
set_option maxHeartbeats 4000000 in
set_option maxRecDepth 100000 in
/-- the law, one call: make -/
theorem lk_9 {p : Program} {l : Launch} {e : Env} {s : State} {m : MethodId} {below : List Frame} {meth : Method} {c : Code} {b : Nat} {xs : Nat → Int32} (hst : l.stackTraces = false) (C0 : lw_At p s m meth c b 6 xs) {A : Nat → Prop} (hA : ∀ q : Nat, s.heap.size ≤ q → A q) (hAf : ∀ q : Nat, A q → s.heap.size ≤ q) (hZ : Zz A s) (hY : Yy s) (dC : Nat → ClassId) (dI : Nat → Nat → Nat) (aX : Nat) (fsX : List Value) (aY : Nat) (fsY : List Value) (aH : Nat) (fsHe : List Value) (q1 : Nat) (f1 : Nat → Int32) (k1 : ClassId) (q2 : Nat) (f2 : Nat → Int32) (k2 : ClassId) (q3 : Nat) (f3 : Nat → Int32) (k3 : ClassId) (q4 : Nat) (f4 : Nat → Int64) (k4 : ClassId) (q5 : Nat) (f5 : Nat → Int32) (k5 : ClassId) (aZ : Nat) (fsZ : List Value) (q_type : Nat) (f_type : Nat → Int32) (k_type : ClassId) (q_length : Nat) (f_length : Nat → Int32) (k_length : ClassId) (q_from : Nat) (f_from : Nat → Int32) (k_from : ClassId) (q_there : Nat) (f_there : Nat → Int32) (k_there : ClassId) (q_values : Nat) (f_values : Nat → Int64) (k_values : ClassId) (qO : Nat) (fO : Nat → Int64) (kO : ClassId) (w1 : Int32) (hw1 : w1 = xs (1 : Int32).toNatClampNeg) (w2 : Int32) (hw2 : w2 = xs (2 : Int32).toNatClampNeg) (w3 : Int32) (hw3 : w3 = xs (3 : Int32).toNatClampNeg) (w4 : Int32) (hw4 : w4 = xs (4 : Int32).toNatClampNeg) (w5 : Int32) (hw5 : w5 = xs (5 : Int32).toNatClampNeg) (k_fsX : fh fsX 18 [(1, .ref aY), (2, .ref aH)]) (k_fsY : fh fsY 18 [(0, .int 0)]) (k_fsHe : fh fsHe 14 [(0, .ref aY), (1, .int 0), (2, .int 0), (3, .int 0), (4, .ref q1), (5, .ref q2), (6, .ref q3), (7, .ref q4), (8, .ref q5)]) (k_fsZ : fh fsZ 150 [(0, .int 0), (20, .int 0), (21, .ref q_type), (22, .ref q_length), (23, .ref q_from), (24, .ref q_there), (25, .ref q_values), (26, .int 0), (27, .int 0), (28, .int 0)]) (hz_f_from : ∀ j, f_from j = 0) (hz_f_values : ∀ j, f_values j = 0) {H : Heap} {locs : List Loc} (hK : va_K (dC, dI) vwCl [(k1, .int), (k2, .int), (k3, .int), (k4, .long), (k5, .boolean), (k_type, .int), (k_length, .int), (k_from, .int), (k_there, .boolean), (k_values, .long), (kO, .long)] s) (hP : va_P (dC, dI) vwCl [(aX, .inr (14, fsX)), (aY, .inr (13, fsY)), (aH, .inr (5, fsHe)), (q1, .inl (k1, 400, .inl f1)), (q2, .inl (k2, 400, .inl f2)), (q3, .inl (k3, 400, .inl f3)), (q4, .inl (k4, 4000, .inr (.inl f4))), (q5, .inl (k5, 4000, .inl f5)), (aZ, .inr (15, fsZ)), (q_type, .inl (k_type, 400, .inl f_type)), (q_length, .inl (k_length, 400, .inl f_length)), (q_from, .inl (k_from, 400, .inl f_from)), (q_there, .inl (k_there, 400, .inl f_there)), (q_values, .inl (k_values, 38500, .inr (.inl f_values))), (qO, .inl (kO, 1, .inr (.inl fO)))] H) (hD : va_D A [(aX, .inr (14, fsX)), (aY, .inr (13, fsY)), (aH, .inr (5, fsHe)), (q1, .inl (k1, 400, .inl f1)), (q2, .inl (k2, 400, .inl f2)), (q3, .inl (k3, 400, .inl f3)), (q4, .inl (k4, 4000, .inr (.inl f4))), (q5, .inl (k5, 4000, .inl f5)), (aZ, .inr (15, fsZ)), (q_type, .inl (k_type, 400, .inl f_type)), (q_length, .inl (k_length, 400, .inl f_length)), (q_from, .inl (k_from, 400, .inl f_from)), (q_there, .inl (k_there, 400, .inl f_there)), (q_values, .inl (k_values, 38500, .inr (.inl f_values))), (qO, .inl (kO, 1, .inr (.inl fO)))]) (hS : va_S A s.heap H locs) (ls : Array Slot) (hl : lv_has ls 8 [(0, .ref b), (1, .ref aX), (2, .ref aZ), (3, .ref qO), (4, .int 0)]) : W p l e room_1 s m #[Value.ref b] below meth c H locs 390 571359 (lw_Z below #[Value.ref b] s) (F0 m 691 ls []) := by
  obtain ⟨hx, hb, hr, hml, hown0, hts0, hX, hbl, hlocks, hgv⟩ := id C0
  have hown : s.vm.findClass RL = some m.cls := hown0
  have hts : ∀ w ∈ lwW, w.before #[Value.ref b] s = true := fun w h => hts0 w (lwW_in w h)
  have hbA : ¬ A b := fun h => absurd (hAf b h) (Nat.not_le.mpr hbl)
  have o_fsX := ow_0 k_fsX
  have o_fsY := ow_0 k_fsY
  have o_fsHe := ow_0 k_fsHe
  have o_fsZ := ow_0 k_fsZ
  refine lv_aload_n hx hb dL_law_691 rfl (lv_at hl 1 rfl) ?_
  refine lv_aload_n hx hb dL_law_692 rfl (lv_at hl 0 rfl) ?_
  refine lv_iload hx hb dL_law_693 (lv_at hl 4 rfl) ?_
  refine lv_iconst (v := 1) hx hb dL_law_695 (by decide) ?_
  refine lv_iadd hx hb dL_law_696  ?_
  refine lv_topi (fun x101 ex101 => ?_)
  obtain rfl : x101 = 1 := ex101.trans (by decide)
  refine va_sld hx hb hX hbl hbA hS (show vp_in 1 6 from by unfold vp_in; decide) dL_law_697 ?_
  refine lv_topi (fun x102 ex102 => ?_)
  obtain rfl : w1 = x102 := hw1.trans ex102.symm
  refine lv_aload_n hx hb dL_law_698 rfl (lv_at hl 0 rfl) ?_
  refine lv_iload hx hb dL_law_699 (lv_at hl 4 rfl) ?_
  refine lv_iconst (v := 2) hx hb dL_law_701 (by decide) ?_
  refine lv_iadd hx hb dL_law_702  ?_
  refine lv_topi (fun x103 ex103 => ?_)
  obtain rfl : x103 = 2 := ex103.trans (by decide)
  refine va_sld hx hb hX hbl hbA hS (show vp_in 2 6 from by unfold vp_in; decide) dL_law_703 ?_
  refine lv_topi (fun x104 ex104 => ?_)
  obtain rfl : w2 = x104 := hw2.trans ex104.symm
  refine lv_aload_n hx hb dL_law_704 rfl (lv_at hl 3 rfl) ?_
  have hPc := hP.sub (ws' := [(aX, .inr (14, fsX)), (aY, .inr (13, fsY)), (aH, .inr (5, fsHe)), (q1, .inl (k1, 400, .inl f1)), (q2, .inl (k2, 400, .inl f2)), (q3, .inl (k3, 400, .inl f3)), (q4, .inl (k4, 4000, .inr (.inl f4))), (q5, .inl (k5, 4000, .inl f5)), (qO, .inl (kO, 1, .inr (.inl fO)))]) [0, 1, 2, 3, 4, 5, 6, 7, 14] rfl
  have hDc := hD.sub (ws' := [(aX, .inr (14, fsX)), (aY, .inr (13, fsY)), (aH, .inr (5, fsHe)), (q1, .inl (k1, 400, .inl f1)), (q2, .inl (k2, 400, .inl f2)), (q3, .inl (k3, 400, .inl f3)), (q4, .inl (k4, 4000, .inr (.inl f4))), (q5, .inl (k5, 4000, .inl f5)), (qO, .inl (kO, 1, .inr (.inl fO)))]) [0, 1, 2, 3, 4, 5, 6, 7, 14] (by decide) rfl
  have hKc := hK.sub (tys' := [(k1, .int), (k2, .int), (k3, .int), (k4, .long), (k5, .boolean), (kO, .long)]) [0, 1, 2, 3, 4, 10] rfl
  have hFc := va_free (wc := [(aX, .inr (14, fsX)), (aY, .inr (13, fsY)), (aH, .inr (5, fsHe)), (q1, .inl (k1, 400, .inl f1)), (q2, .inl (k2, 400, .inl f2)), (q3, .inl (k3, 400, .inl f3)), (q4, .inl (k4, 4000, .inr (.inl f4))), (q5, .inl (k5, 4000, .inl f5)), (qO, .inl (kO, 1, .inr (.inl fO)))]) hD hS hA [0, 1, 2, 3, 4, 5, 6, 7, 14] rfl
  refine vx_calli (vx_runSX (As := [.ref aX, .int w1, .int w2, .ref qO]) (rest := []) ⟨hx, hb, hml, hown, hts⟩ (z_L_make l dC dI H.size aX fsX aY fsY aH fsHe q1 f1 k1 q2 f2 k2 q3 f3 k3 q4 f4 k4 q5 f5 k5 qO fO kO w1 w2 (fh_sub o_fsX.2 [0, 1] rfl) (fh_sub o_fsY.2 [0] rfl) (fh_sub o_fsHe.2 [0, 1, 2, 3, 4, 5, 6, 7, 8] rfl) hst ) (vx_cwSW 4 hts g_lk_9_z_L_make_164 rfl rfl rfl (by decide +kernel) ⟨Nat.le_of_ble_eq_true rfl, Nat.le_of_ble_eq_true rfl⟩) ⟨fun a U g mk q => by obtain ⟨q0, q1, qZ, qY, qP, qK, qD⟩ := q; exact ⟨q0, q1, Zz_call qZ, Yy_call qY, qP, va_K.moved (u := U) (U := U.calling g mk a) (Vm.Alike.refl U.vm) qK, qD⟩, fun U hU hW => ⟨rfl, by rw [hU], Zz_go hZ hS hFc hU hW, Yy_go hY hW, by rw [hU]; exact hPc, va_K.moved hW.alike hKc, hDc.weaken (fun _ _ _ _ => trivial)⟩⟩ rfl rfl hl.1 rfl (lv_room (Nat.le_of_ble_eq_true rfl)) dL_law_705 ⟨Nat.le_of_ble_eq_true rfl, Nat.le_of_ble_eq_true rfl⟩) hS (fun q _ h => hFc q h) hFc (fun q _ h => hFc q h) (fun E ce q9 u t H1 locs ht hvm hpx hBX hz1 hk1 hS hce hcv hcl => ?_) (fun r105 u t H1 locs ht hvm hw hB hz1 hk1 hS => ?_)
  · exact False.elim hBX
  · skip
    obtain ⟨f106, rfl⟩ : ∃ z, z = u := ⟨_, rfl⟩
    obtain ⟨hP1, hK1, hD1⟩ := hB
    rw [ht] at hP1
    try dsimp only at hw
    obtain ⟨hP, hD⟩ := va_join (wr := [(aZ, .inr (15, fsZ)), (q_type, .inl (k_type, 400, .inl f_type)), (q_length, .inl (k_length, 400, .inl f_length)), (q_from, .inl (k_from, 400, .inl f_from)), (q_there, .inl (k_there, 400, .inl f_there)), (q_values, .inl (k_values, 38500, .inr (.inl f_values)))]) (w1 := [(qO, .inl (kO, 1, .inr (.inl f106)))]) hP hD [0, 1, 2, 3, 4, 5, 6, 7, 14] [8, 9, 10, 11, 12, 13] rfl rfl (by decide) (by decide) hk1 hFc hP1 hD1
    have hK := hK.sub (tys' := [(k_type, .int), (k_length, .int), (k_from, .int), (k_there, .boolean), (k_values, .long), (kO, .long)]) [5, 6, 7, 8, 9, 10] rfl
    generalize H1 = H at hP hS ⊢
    refine W.widen (k := 391) (n := 571365) (by omega) (by omega) ?_
    have hP : va_P (dC, dI) vwCl [(aZ, .inr (15, fsZ)), (q_type, .inl (k_type, 400, .inl f_type)), (q_length, .inl (k_length, 400, .inl f_length)), (q_from, .inl (k_from, 400, .inl f_from)), (q_there, .inl (k_there, 400, .inl f_there)), (q_values, .inl (k_values, 38500, .inr (.inl f_values))), (qO, .inl (kO, 1, .inr (.inl f106)))] H := hP
    have hD : va_D A [(aZ, .inr (15, fsZ)), (q_type, .inl (k_type, 400, .inl f_type)), (q_length, .inl (k_length, 400, .inl f_length)), (q_from, .inl (k_from, 400, .inl f_from)), (q_there, .inl (k_there, 400, .inl f_there)), (q_values, .inl (k_values, 38500, .inr (.inl f_values))), (qO, .inl (kO, 1, .inr (.inl f106)))] := hD
    rcases hw with ⟨c107, c108, c109, c110, er111⟩ | ⟨c112, c113, c114, c115, c116, er117⟩ | ⟨c118, c119, c120, c121, c122, c123, er124⟩ | ⟨c125, c126, c127, c128, c129, c130, c131, er132⟩ | ⟨c133, c134, c135, c136, c137, c138, c139, er140⟩ | ⟨c141, c142, c143, c144, c145, c146, c147, c148, er149⟩ | ⟨c150, c151, c152, c153, c154, c155, er156⟩ | ⟨c157, c158, c159, c160, c161, c162, er163⟩ | ⟨c164, c165, c166, c167, c168, c169, c170, c171, c172, c173, c174, c175, c176, er177, q178⟩ | ⟨c179, c180, c181, c182, c183, c184, c185, c186, c187, c188, c189, c190, c191, c192, er193, q194⟩
    · skip
      subst er111
      refine lv_istore (lv' := [(5, .int 1), (0, .ref b), (1, .ref aX), (2, .ref aZ), (3, .ref qO), (4, .int 0)]) hx hb dL_law_708 hl (by decide) rfl (fun ls hl => ?_)
      refine lv_aload_n hx hb dL_law_710 rfl (lv_at hl 3 rfl) ?_
      refine lv_aload_n hx hb dL_law_711 rfl (lv_at hl 1 rfl) ?_
      refine lv_iload hx hb dL_law_712 (lv_at hl 5 rfl) ?_
      refine lv_iconst (v := 1) hx hb dL_law_714 (by decide) ?_
      refine lv_iadd hx hb dL_law_715  ?_
      refine lv_topi (fun x195 ex195 => ?_)
      obtain rfl : x195 = 1 := ex195.trans (by decide)
      refine va_sld hx hb hX hbl hbA hS (show vp_in 1 6 from by unfold vp_in; decide) dL_law_716 ?_
      refine lv_topi (fun x196 ex196 => ?_)
      obtain rfl : w1 = x196 := hw1.trans ex196.symm
      refine lv_aload_n hx hb dL_law_717 rfl (lv_at hl 1 rfl) ?_
      refine lv_iload hx hb dL_law_718 (lv_at hl 5 rfl) ?_
      refine lv_iconst (v := 2) hx hb dL_law_720 (by decide) ?_
      refine lv_iadd hx hb dL_law_721  ?_
      refine lv_topi (fun x197 ex197 => ?_)
      obtain rfl : x197 = 2 := ex197.trans (by decide)
      refine va_sld hx hb hX hbl hbA hS (show vp_in 2 6 from by unfold vp_in; decide) dL_law_722 ?_
      refine lv_topi (fun x198 ex198 => ?_)
      obtain rfl : w2 = x198 := hw2.trans ex198.symm
      have hPc := hP.sub (ws' := [(aZ, .inr (15, fsZ)), (q_type, .inl (k_type, 400, .inl f_type)), (q_length, .inl (k_length, 400, .inl f_length)), (q_from, .inl (k_from, 400, .inl f_from)), (q_there, .inl (k_there, 400, .inl f_there)), (q_values, .inl (k_values, 38500, .inr (.inl f_values)))]) [0, 1, 2, 3, 4, 5] rfl
      have hDc := hD.sub (ws' := [(aZ, .inr (15, fsZ)), (q_type, .inl (k_type, 400, .inl f_type)), (q_length, .inl (k_length, 400, .inl f_length)), (q_from, .inl (k_from, 400, .inl f_from)), (q_there, .inl (k_there, 400, .inl f_there)), (q_values, .inl (k_values, 38500, .inr (.inl f_values)))]) [0, 1, 2, 3, 4, 5] (by decide) rfl
      have hKc := hK.sub (tys' := [(k_type, .int), (k_length, .int), (k_from, .int), (k_there, .boolean), (k_values, .long)]) [0, 1, 2, 3, 4] rfl
      have hFc := va_free (wc := [(aZ, .inr (15, fsZ)), (q_type, .inl (k_type, 400, .inl f_type)), (q_length, .inl (k_length, 400, .inl f_length)), (q_from, .inl (k_from, 400, .inl f_from)), (q_there, .inl (k_there, 400, .inl f_there)), (q_values, .inl (k_values, 38500, .inr (.inl f_values)))]) hD hS hA [0, 1, 2, 3, 4, 5] rfl
      refine va_calli (va_runV (As := [.int w1, .int w2]) (rest := []) ⟨hx, hb, hml, hown, hts⟩ (z_X12_make l dC dI H.size aZ fsZ q_type f_type k_type q_length f_length k_length q_from f_from k_from q_there f_there k_there q_values f_values k_values w1 w2 (fh_sub o_fsZ.2 [0, 1, 2, 3, 4, 5, 6, 7, 8, 9] rfl) hz_f_from hz_f_values) (cwV 2 hts g_lk_9_z_X12_make_166 rfl rfl rfl (by decide +kernel) ⟨Nat.le_of_ble_eq_true rfl, Nat.le_of_ble_eq_true rfl⟩) ⟨fun a U g mk q => by obtain ⟨q0, q1, qP, qK, qD⟩ := q; exact ⟨q0, q1, qP, va_K.moved (u := U) (U := U.calling g mk a) (Vm.Alike.refl U.vm) qK, qD⟩, va_recv hK hP (ci := 15) (q0 := 0) rfl rfl, fun U hU hW => ⟨rfl, by rw [hU], by rw [hU]; exact hPc, va_K.moved hW.alike hKc, hDc.weaken (fun _ _ _ _ => trivial)⟩⟩ rfl rfl hl.1 rfl (lv_room (Nat.le_of_ble_eq_true rfl)) dL_law_723 ⟨Nat.le_of_ble_eq_true rfl, Nat.le_of_ble_eq_true rfl⟩) hS (fun q _ h => hFc q h) hFc (fun r199 u t H1 locs ht hvm hw hB hz1 hk1 hS => ?_)
      obtain ⟨s200, f201, f202, f203, f204, f205⟩ := u
      obtain ⟨hP1, hK1, hD1⟩ := hB
      rw [ht] at hP1
      try dsimp only at hw
      obtain ⟨hP, hD⟩ := va_join (wr := [(qO, .inl (kO, 1, .inr (.inl f106)))]) (w1 := [(aZ, .inr (15, s200)), (q_type, .inl (k_type, 400, .inl f201)), (q_length, .inl (k_length, 400, .inl f202)), (q_from, .inl (k_from, 400, .inl f203)), (q_there, .inl (k_there, 400, .inl f204)), (q_values, .inl (k_values, 38500, .inr (.inl f205)))]) hP hD [0, 1, 2, 3, 4, 5] [6] rfl rfl (by decide) (by decide) hk1 hFc hP1 hD1
      have hK := hK.sub (tys' := [(kO, .long), (k_type, .int), (k_length, .int), (k_from, .int), (k_there, .boolean), (k_values, .long)]) [5, 0, 1, 2, 3, 4] rfl
      generalize H1 = H at hP hS ⊢
      have hP : va_P (dC, dI) vwCl [(qO, .inl (kO, 1, .inr (.inl f106))), (aZ, .inr (15, s200)), (q_type, .inl (k_type, 400, .inl f201)), (q_length, .inl (k_length, 400, .inl f202)), (q_from, .inl (k_from, 400, .inl f203)), (q_there, .inl (k_there, 400, .inl f204)), (q_values, .inl (k_values, 38500, .inr (.inl f205)))] H := hP
      have hD : va_D A [(qO, .inl (kO, 1, .inr (.inl f106))), (aZ, .inr (15, s200)), (q_type, .inl (k_type, 400, .inl f201)), (q_length, .inl (k_length, 400, .inl f202)), (q_from, .inl (k_from, 400, .inl f203)), (q_there, .inl (k_there, 400, .inl f204)), (q_values, .inl (k_values, 38500, .inr (.inl f205)))] := hD
      rcases hw with ⟨c206, c207, c208, c209, er210, o_s200, q211, q212⟩ | ⟨c213, c214, c215, c216, c217, er218, o_s200, q219, q220⟩ | ⟨c221, c222, c223, c224, c225, er226, o_s200, q227, q228⟩ | ⟨c229, c230, c231, c232, c233, c234, c235, c236, c237, c238, c239, c240, c241, c242, c243, er244, o_s200, q245, q246, q247, q248, q249⟩ | ⟨c250, c251, c252, c253, c254, c255, er256, o_s200, q257, q258⟩ | ⟨c259, c260, c261, c262, c263, c264, er265, o_s200, q266, q267⟩ | ⟨c268, c269, c270, c271, c272, c273, c274, c275, c276, c277, c278, c279, c280, c281, c282, c283, er284, o_s200, q285, q286, q287, q288, q289⟩ | ⟨c290, c291, c292, c293, c294, c295, c296, er297, o_s200, q298, q299⟩ | ⟨c300, c301, c302, c303, c304, c305, er306, o_s200, q307, q308⟩ | ⟨c309, c310, c311, c312, c313, c314, er315, o_s200, q316, q317⟩
      · skip
        subst er210
        have o_s200 := ow_on o_fsZ o_s200 (l' := [(0, .int 1), (20, .int 0), (21, .ref q_type), (22, .ref q_length), (23, .ref q_from), (24, .ref q_there), (25, .ref q_values), (26, .int 0), (27, .int 0), (28, .int 0), (20, .int 0), (21, .ref q_type), (22, .ref q_length), (23, .ref q_from), (24, .ref q_there), (25, .ref q_values), (26, .int 0), (27, .int 0), (28, .int 0)]) (w' := [0]) rfl rfl
        refine lv_istore (lv' := [(6, .int 0), (5, .int 1), (0, .ref b), (1, .ref aX), (2, .ref aZ), (3, .ref qO), (4, .int 0)]) hx hb dL_law_726 hl (by decide) rfl (fun ls hl => ?_)
        refine lv_aload_n hx hb dL_law_728 rfl (lv_at hl 4 rfl) ?_
        have hPc := hP.sub (ws' := [(aZ, .inr (15, s200))]) [1] rfl
        have hDc := hD.sub (ws' := [(aZ, .inr (15, s200))]) [1] (by decide) rfl
        have hKc := hK.sub (tys' := []) [] rfl
        have hFc := va_free (wc := [(aZ, .inr (15, s200))]) hD hS hA [1] rfl
        refine va_calli (va_runV (As := []) (rest := []) ⟨hx, hb, hml, hown, hts⟩ (z_X12_thrown l dC dI H.size aZ s200 (fh_sub o_s200.2 [0] rfl) ) (cwV 0 hts g_lk_9_z_X12_thrown_149 rfl rfl rfl (by decide +kernel) ⟨Nat.le_of_ble_eq_true rfl, Nat.le_of_ble_eq_true rfl⟩) ⟨fun a U g mk q => by obtain ⟨q0, q1, qP, qK, qD⟩ := q; exact ⟨q0, q1, qP, va_K.moved (u := U) (U := U.calling g mk a) (Vm.Alike.refl U.vm) qK, qD⟩, va_recv hK hP (ci := 15) (q0 := 1) rfl rfl, fun U hU hW => ⟨rfl, by rw [hU], by rw [hU]; exact hPc, va_K.moved hW.alike hKc, hDc.weaken (fun _ _ _ _ => trivial)⟩⟩ rfl rfl hl.1 rfl (lv_room (Nat.le_of_ble_eq_true rfl)) dL_law_729 ⟨Nat.le_of_ble_eq_true rfl, Nat.le_of_ble_eq_true rfl⟩) hS (fun q _ h => hFc q h) hFc (fun r318 u t H1 locs ht hvm hw hB hz1 hk1 hS => ?_)
        obtain ⟨hP1, hK1, hD1⟩ := hB
        rw [ht] at hP1
        try dsimp only at hw
        obtain ⟨hP, hD⟩ := va_join (wr := [(qO, .inl (kO, 1, .inr (.inl f106))), (q_type, .inl (k_type, 400, .inl f201)), (q_length, .inl (k_length, 400, .inl f202)), (q_from, .inl (k_from, 400, .inl f203)), (q_there, .inl (k_there, 400, .inl f204)), (q_values, .inl (k_values, 38500, .inr (.inl f205)))]) (w1 := [(aZ, .inr (15, s200))]) hP hD [1] [0, 2, 3, 4, 5, 6] rfl rfl (by decide) (by decide) hk1 hFc hP1 hD1
        have hK := hK.sub (tys' := [(kO, .long), (k_type, .int), (k_length, .int), (k_from, .int), (k_there, .boolean), (k_values, .long)]) [0, 1, 2, 3, 4, 5] rfl
        generalize H1 = H at hP hS ⊢
        have hP : va_P (dC, dI) vwCl [(qO, .inl (kO, 1, .inr (.inl f106))), (q_type, .inl (k_type, 400, .inl f201)), (q_length, .inl (k_length, 400, .inl f202)), (q_from, .inl (k_from, 400, .inl f203)), (q_there, .inl (k_there, 400, .inl f204)), (q_values, .inl (k_values, 38500, .inr (.inl f205))), (aZ, .inr (15, s200))] H := hP
        have hD : va_D A [(qO, .inl (kO, 1, .inr (.inl f106))), (q_type, .inl (k_type, 400, .inl f201)), (q_length, .inl (k_length, 400, .inl f202)), (q_from, .inl (k_from, 400, .inl f203)), (q_there, .inl (k_there, 400, .inl f204)), (q_values, .inl (k_values, 38500, .inr (.inl f205))), (aZ, .inr (15, s200))] := hD
        have er319 := hw
        subst er319
        refine lv_iload hx hb dL_law_732 (lv_at hl 1 rfl) ?_
        refine lv_icmp_eq (tgt := 739) hx hb dL_law_734 (by decide) (fun c320 => ?_) (fun c320 => absurd c320 (by decide))
        refine lv_iload hx hb dL_law_739 (lv_at hl 1 rfl) ?_
        refine lv_if_ne (tgt := 756) hx hb dL_law_741 (by decide) (fun c321 => ?_) (fun c321 => absurd c321 (by decide))
        refine lv_goto (tgt := 3111) hx hb dL_law_756 (by decide) ?_
        exact lw_end hst C0 hA hAf hZ hY (Nat.le_of_ble_eq_true rfl) (Nat.le_of_ble_eq_true rfl) dC dI P0k P0 D0 hS ls (lv_sub hl [2, 6] rfl)
      · exact (by exfalso; (try simp only [i_lt, i_le, i_eq, kc_0, kc_20, kc_29, kc_30] at c107 c108 c109 c110 c213 c214 c215 c216 c217); omega)
      · exact (by exfalso; (try simp only [i_lt, i_le, i_eq, kc_0, kc_20, kc_29, kc_30, kc_24] at c107 c108 c109 c110 c221 c222 c223 c224); omega)
      · exact (by exfalso; (try simp only [i_lt, i_le, i_eq, kc_0, kc_20, kc_29, kc_30, kc_24] at c107 c108 c109 c110 c229 c230 c231 c232 c235 c236 c238 c239 c240 c241 c242 c243); omega)
      · exact (by exfalso; (try simp only [i_lt, i_le, i_eq, kc_0, kc_20, kc_29, kc_30, kc_24] at c107 c108 c109 c110 c250 c251 c252 c253); omega)
      · exact (by exfalso; (try simp only [i_lt, i_le, i_eq, kc_0, kc_20, kc_29, kc_30, kc_24] at c107 c108 c109 c110 c259 c260 c261 c262 c263); omega)
      · exact (by exfalso; (try simp only [i_lt, i_le, i_eq, kc_0, kc_20, kc_29, kc_30, kc_24] at c107 c108 c109 c110 c268 c269 c270 c271 c272 c275 c276 c278 c279 c280 c281 c282 c283); omega)
      · exact (by exfalso; (try simp only [i_lt, i_le, i_eq, kc_0, kc_20, kc_29, kc_30, kc_24] at c107 c108 c109 c110 c290 c291 c292 c293 c294); omega)
      · exact (by exfalso; (try simp only [i_lt, i_le, i_eq, kc_0, kc_20, kc_29, kc_30, kc_24] at c107 c108 c109 c110 c300 c301 c302 c303 c304 c305); omega)
      · exact (by exfalso; (try simp only [i_lt, i_le, i_eq, kc_0, kc_20, kc_29, kc_30, kc_24] at c107 c108 c109 c110 c309 c310 c311 c312 c313 c314); omega)
    · skip
      subst er117
      refine lv_istore (lv' := [(5, .int 1), (0, .ref b), (1, .ref aX), (2, .ref aZ), (3, .ref qO), (4, .int 0)]) hx hb dL_law_708 hl (by decide) rfl (fun ls hl => ?_)
      refine lv_aload_n hx hb dL_law_710 rfl (lv_at hl 3 rfl) ?_
      refine lv_aload_n hx hb dL_law_711 rfl (lv_at hl 1 rfl) ?_
      refine lv_iload hx hb dL_law_712 (lv_at hl 5 rfl) ?_
      refine lv_iconst (v := 1) hx hb dL_law_714 (by decide) ?_
      refine lv_iadd hx hb dL_law_715  ?_
      refine lv_topi (fun x322 ex322 => ?_)
      obtain rfl : x322 = 1 := ex322.trans (by decide)
      refine va_sld hx hb hX hbl hbA hS (show vp_in 1 6 from by unfold vp_in; decide) dL_law_716 ?_
      refine lv_topi (fun x323 ex323 => ?_)
      obtain rfl : w1 = x323 := hw1.trans ex323.symm
      refine lv_aload_n hx hb dL_law_717 rfl (lv_at hl 1 rfl) ?_
      refine lv_iload hx hb dL_law_718 (lv_at hl 5 rfl) ?_
      refine lv_iconst (v := 2) hx hb dL_law_720 (by decide) ?_
      refine lv_iadd hx hb dL_law_721  ?_
      refine lv_topi (fun x324 ex324 => ?_)
      obtain rfl : x324 = 2 := ex324.trans (by decide)
      refine va_sld hx hb hX hbl hbA hS (show vp_in 2 6 from by unfold vp_in; decide) dL_law_722 ?_
      refine lv_topi (fun x325 ex325 => ?_)
      obtain rfl : w2 = x325 := hw2.trans ex325.symm
      have hPc := hP.sub (ws' := [(aZ, .inr (15, fsZ)), (q_type, .inl (k_type, 400, .inl f_type)), (q_length, .inl (k_length, 400, .inl f_length)), (q_from, .inl (k_from, 400, .inl f_from)), (q_there, .inl (k_there, 400, .inl f_there)), (q_values, .inl (k_values, 38500, .inr (.inl f_values)))]) [0, 1, 2, 3, 4, 5] rfl
      have hDc := hD.sub (ws' := [(aZ, .inr (15, fsZ)), (q_type, .inl (k_type, 400, .inl f_type)), (q_length, .inl (k_length, 400, .inl f_length)), (q_from, .inl (k_from, 400, .inl f_from)), (q_there, .inl (k_there, 400, .inl f_there)), (q_values, .inl (k_values, 38500, .inr (.inl f_values)))]) [0, 1, 2, 3, 4, 5] (by decide) rfl
      have hKc := hK.sub (tys' := [(k_type, .int), (k_length, .int), (k_from, .int), (k_there, .boolean), (k_values, .long)]) [0, 1, 2, 3, 4] rfl
      have hFc := va_free (wc := [(aZ, .inr (15, fsZ)), (q_type, .inl (k_type, 400, .inl f_type)), (q_length, .inl (k_length, 400, .inl f_length)), (q_from, .inl (k_from, 400, .inl f_from)), (q_there, .inl (k_there, 400, .inl f_there)), (q_values, .inl (k_values, 38500, .inr (.inl f_values)))]) hD hS hA [0, 1, 2, 3, 4, 5] rfl
      refine va_calli (va_runV (As := [.int w1, .int w2]) (rest := []) ⟨hx, hb, hml, hown, hts⟩ (z_X12_make l dC dI H.size aZ fsZ q_type f_type k_type q_length f_length k_length q_from f_from k_from q_there f_there k_there q_values f_values k_values w1 w2 (fh_sub o_fsZ.2 [0, 1, 2, 3, 4, 5, 6, 7, 8, 9] rfl) hz_f_from hz_f_values) (cwV 2 hts g_lk_9_z_X12_make_166 rfl rfl rfl (by decide +kernel) ⟨Nat.le_of_ble_eq_true rfl, Nat.le_of_ble_eq_true rfl⟩) ⟨fun a U g mk q => by obtain ⟨q0, q1, qP, qK, qD⟩ := q; exact ⟨q0, q1, qP, va_K.moved (u := U) (U := U.calling g mk a) (Vm.Alike.refl U.vm) qK, qD⟩, va_recv hK hP (ci := 15) (q0 := 0) rfl rfl, fun U hU hW => ⟨rfl, by rw [hU], by rw [hU]; exact hPc, va_K.moved hW.alike hKc, hDc.weaken (fun _ _ _ _ => trivial)⟩⟩ rfl rfl hl.1 rfl (lv_room (Nat.le_of_ble_eq_true rfl)) dL_law_723 ⟨Nat.le_of_ble_eq_true rfl, Nat.le_of_ble_eq_true rfl⟩) hS (fun q _ h => hFc q h) hFc (fun r326 u t H1 locs ht hvm hw hB hz1 hk1 hS => ?_)
      obtain ⟨s327, f328, f329, f330, f331, f332⟩ := u
      obtain ⟨hP1, hK1, hD1⟩ := hB
      rw [ht] at hP1
      try dsimp only at hw
      obtain ⟨hP, hD⟩ := va_join (wr := [(qO, .inl (kO, 1, .inr (.inl f106)))]) (w1 := [(aZ, .inr (15, s327)), (q_type, .inl (k_type, 400, .inl f328)), (q_length, .inl (k_length, 400, .inl f329)), (q_from, .inl (k_from, 400, .inl f330)), (q_there, .inl (k_there, 400, .inl f331)), (q_values, .inl (k_values, 38500, .inr (.inl f332)))]) hP hD [0, 1, 2, 3, 4, 5] [6] rfl rfl (by decide) (by decide) hk1 hFc hP1 hD1
      have hK := hK.sub (tys' := [(kO, .long), (k_type, .int), (k_length, .int), (k_from, .int), (k_there, .boolean), (k_values, .long)]) [5, 0, 1, 2, 3, 4] rfl
      generalize H1 = H at hP hS ⊢
      have hP : va_P (dC, dI) vwCl [(qO, .inl (kO, 1, .inr (.inl f106))), (aZ, .inr (15, s327)), (q_type, .inl (k_type, 400, .inl f328)), (q_length, .inl (k_length, 400, .inl f329)), (q_from, .inl (k_from, 400, .inl f330)), (q_there, .inl (k_there, 400, .inl f331)), (q_values, .inl (k_values, 38500, .inr (.inl f332)))] H := hP
      have hD : va_D A [(qO, .inl (kO, 1, .inr (.inl f106))), (aZ, .inr (15, s327)), (q_type, .inl (k_type, 400, .inl f328)), (q_length, .inl (k_length, 400, .inl f329)), (q_from, .inl (k_from, 400, .inl f330)), (q_there, .inl (k_there, 400, .inl f331)), (q_values, .inl (k_values, 38500, .inr (.inl f332)))] := hD
      rcases hw with ⟨c333, c334, c335, c336, er337, o_s327, q338, q339⟩ | ⟨c340, c341, c342, c343, c344, er345, o_s327, q346, q347⟩ | ⟨c348, c349, c350, c351, c352, er353, o_s327, q354, q355⟩ | ⟨c356, c357, c358, c359, c360, c361, c362, c363, c364, c365, c366, c367, c368, c369, c370, er371, o_s327, q372, q373, q374, q375, q376⟩ | ⟨c377, c378, c379, c380, c381, c382, er383, o_s327, q384, q385⟩ | ⟨c386, c387, c388, c389, c390, c391, er392, o_s327, q393, q394⟩ | ⟨c395, c396, c397, c398, c399, c400, c401, c402, c403, c404, c405, c406, c407, c408, c409, c410, er411, o_s327, q412, q413, q414, q415, q416⟩ | ⟨c417, c418, c419, c420, c421, c422, c423, er424, o_s327, q425, q426⟩ | ⟨c427, c428, c429, c430, c431, c432, er433, o_s327, q434, q435⟩ | ⟨c436, c437, c438, c439, c440, c441, er442, o_s327, q443, q444⟩
      · exact (by exfalso; (try simp only [i_lt, i_le, i_eq, kc_0, kc_20, kc_29, kc_30] at c112 c113 c114 c115 c116 c333 c334 c335 c336); omega)
      · skip
        subst er345
        have o_s327 := ow_on o_fsZ o_s327 (l' := [(0, .int 1), (20, .int 0), (21, .ref q_type), (22, .ref q_length), (23, .ref q_from), (24, .ref q_there), (25, .ref q_values), (26, .int 0), (27, .int 0), (28, .int 0), (20, .int 0), (21, .ref q_type), (22, .ref q_length), (23, .ref q_from), (24, .ref q_there), (25, .ref q_values), (26, .int 0), (27, .int 0), (28, .int 0)]) (w' := [0]) rfl rfl
        refine lv_istore (lv' := [(6, .int 0), (5, .int 1), (0, .ref b), (1, .ref aX), (2, .ref aZ), (3, .ref qO), (4, .int 0)]) hx hb dL_law_726 hl (by decide) rfl (fun ls hl => ?_)
        refine lv_aload_n hx hb dL_law_728 rfl (lv_at hl 4 rfl) ?_
        have hPc := hP.sub (ws' := [(aZ, .inr (15, s327))]) [1] rfl
        have hDc := hD.sub (ws' := [(aZ, .inr (15, s327))]) [1] (by decide) rfl
        have hKc := hK.sub (tys' := []) [] rfl
        have hFc := va_free (wc := [(aZ, .inr (15, s327))]) hD hS hA [1] rfl
        refine va_calli (va_runV (As := []) (rest := []) ⟨hx, hb, hml, hown, hts⟩ (z_X12_thrown l dC dI H.size aZ s327 (fh_sub o_s327.2 [0] rfl) ) (cwV 0 hts g_lk_9_z_X12_thrown_149 rfl rfl rfl (by decide +kernel) ⟨Nat.le_of_ble_eq_true rfl, Nat.le_of_ble_eq_true rfl⟩) ⟨fun a U g mk q => by obtain ⟨q0, q1, qP, qK, qD⟩ := q; exact ⟨q0, q1, qP, va_K.moved (u := U) (U := U.calling g mk a) (Vm.Alike.refl U.vm) qK, qD⟩, va_recv hK hP (ci := 15) (q0 := 1) rfl rfl, fun U hU hW => ⟨rfl, by rw [hU], by rw [hU]; exact hPc, va_K.moved hW.alike hKc, hDc.weaken (fun _ _ _ _ => trivial)⟩⟩ rfl rfl hl.1 rfl (lv_room (Nat.le_of_ble_eq_true rfl)) dL_law_729 ⟨Nat.le_of_ble_eq_true rfl, Nat.le_of_ble_eq_true rfl⟩) hS (fun q _ h => hFc q h) hFc (fun r445 u t H1 locs ht hvm hw hB hz1 hk1 hS => ?_)
        obtain ⟨hP1, hK1, hD1⟩ := hB
        rw [ht] at hP1
        try dsimp only at hw
        obtain ⟨hP, hD⟩ := va_join (wr := [(qO, .inl (kO, 1, .inr (.inl f106))), (q_type, .inl (k_type, 400, .inl f328)), (q_length, .inl (k_length, 400, .inl f329)), (q_from, .inl (k_from, 400, .inl f330)), (q_there, .inl (k_there, 400, .inl f331)), (q_values, .inl (k_values, 38500, .inr (.inl f332)))]) (w1 := [(aZ, .inr (15, s327))]) hP hD [1] [0, 2, 3, 4, 5, 6] rfl rfl (by decide) (by decide) hk1 hFc hP1 hD1
        have hK := hK.sub (tys' := [(kO, .long), (k_type, .int), (k_length, .int), (k_from, .int), (k_there, .boolean), (k_values, .long)]) [0, 1, 2, 3, 4, 5] rfl
        generalize H1 = H at hP hS ⊢
        have hP : va_P (dC, dI) vwCl [(qO, .inl (kO, 1, .inr (.inl f106))), (q_type, .inl (k_type, 400, .inl f328)), (q_length, .inl (k_length, 400, .inl f329)), (q_from, .inl (k_from, 400, .inl f330)), (q_there, .inl (k_there, 400, .inl f331)), (q_values, .inl (k_values, 38500, .inr (.inl f332))), (aZ, .inr (15, s327))] H := hP
        have hD : va_D A [(qO, .inl (kO, 1, .inr (.inl f106))), (q_type, .inl (k_type, 400, .inl f328)), (q_length, .inl (k_length, 400, .inl f329)), (q_from, .inl (k_from, 400, .inl f330)), (q_there, .inl (k_there, 400, .inl f331)), (q_values, .inl (k_values, 38500, .inr (.inl f332))), (aZ, .inr (15, s327))] := hD
        have er446 := hw
        subst er446
        refine lv_iload hx hb dL_law_732 (lv_at hl 1 rfl) ?_
        refine lv_icmp_eq (tgt := 739) hx hb dL_law_734 (by decide) (fun c447 => ?_) (fun c447 => absurd c447 (by decide))
        refine lv_iload hx hb dL_law_739 (lv_at hl 1 rfl) ?_
        refine lv_if_ne (tgt := 756) hx hb dL_law_741 (by decide) (fun c448 => ?_) (fun c448 => absurd c448 (by decide))
        refine lv_goto (tgt := 3111) hx hb dL_law_756 (by decide) ?_
        exact lw_end hst C0 hA hAf hZ hY (Nat.le_of_ble_eq_true rfl) (Nat.le_of_ble_eq_true rfl) dC dI P0k P0 D0 hS ls (lv_sub hl [2, 6] rfl)
      · exact (by exfalso; (try simp only [i_lt, i_le, i_eq, kc_0, kc_20, kc_29, kc_30, kc_24] at c112 c113 c114 c115 c116 c348 c349 c350 c351); omega)
      · exact (by exfalso; (try simp only [i_lt, i_le, i_eq, kc_0, kc_20, kc_29, kc_30, kc_24] at c112 c113 c114 c115 c116 c356 c357 c358 c359 c362 c363 c365 c366 c367 c368 c369 c370); omega)
      · exact (by exfalso; (try simp only [i_lt, i_le, i_eq, kc_0, kc_20, kc_29, kc_30, kc_24] at c112 c113 c114 c115 c116 c377 c378 c379 c380); omega)
      · exact (by exfalso; (try simp only [i_lt, i_le, i_eq, kc_0, kc_20, kc_29, kc_30, kc_24] at c112 c113 c114 c115 c116 c386 c387 c388 c389 c390); omega)
      · exact (by exfalso; (try simp only [i_lt, i_le, i_eq, kc_0, kc_20, kc_29, kc_30, kc_24] at c112 c113 c114 c115 c116 c395 c396 c397 c398 c399 c402 c403 c405 c406 c407 c408 c409 c410); omega)
      · exact (by exfalso; (try simp only [i_lt, i_le, i_eq, kc_0, kc_20, kc_29, kc_30, kc_24] at c112 c113 c114 c115 c116 c417 c418 c419 c420 c421); omega)
      · exact (by exfalso; (try simp only [i_lt, i_le, i_eq, kc_0, kc_20, kc_29, kc_30, kc_24] at c112 c113 c114 c115 c116 c427 c428 c429 c430 c431 c432); omega)
      · exact (by exfalso; (try simp only [i_lt, i_le, i_eq, kc_0, kc_20, kc_29, kc_30, kc_24] at c112 c113 c114 c115 c116 c436 c437 c438 c439 c440 c441); omega)
    · skip
      subst er124
      refine lv_istore (lv' := [(5, .int 1), (0, .ref b), (1, .ref aX), (2, .ref aZ), (3, .ref qO), (4, .int 0)]) hx hb dL_law_708 hl (by decide) rfl (fun ls hl => ?_)
      refine lv_aload_n hx hb dL_law_710 rfl (lv_at hl 3 rfl) ?_
      refine lv_aload_n hx hb dL_law_711 rfl (lv_at hl 1 rfl) ?_
      refine lv_iload hx hb dL_law_712 (lv_at hl 5 rfl) ?_
      refine lv_iconst (v := 1) hx hb dL_law_714 (by decide) ?_
      refine lv_iadd hx hb dL_law_715  ?_
      refine lv_topi (fun x449 ex449 => ?_)
      obtain rfl : x449 = 1 := ex449.trans (by decide)
      refine va_sld hx hb hX hbl hbA hS (show vp_in 1 6 from by unfold vp_in; decide) dL_law_716 ?_
      refine lv_topi (fun x450 ex450 => ?_)
      obtain rfl : w1 = x450 := hw1.trans ex450.symm
      refine lv_aload_n hx hb dL_law_717 rfl (lv_at hl 1 rfl) ?_
      refine lv_iload hx hb dL_law_718 (lv_at hl 5 rfl) ?_
      refine lv_iconst (v := 2) hx hb dL_law_720 (by decide) ?_
      refine lv_iadd hx hb dL_law_721  ?_
      refine lv_topi (fun x451 ex451 => ?_)
      obtain rfl : x451 = 2 := ex451.trans (by decide)
      refine va_sld hx hb hX hbl hbA hS (show vp_in 2 6 from by unfold vp_in; decide) dL_law_722 ?_
      refine lv_topi (fun x452 ex452 => ?_)
      obtain rfl : w2 = x452 := hw2.trans ex452.symm
      have hPc := hP.sub (ws' := [(aZ, .inr (15, fsZ)), (q_type, .inl (k_type, 400, .inl f_type)), (q_length, .inl (k_length, 400, .inl f_length)), (q_from, .inl (k_from, 400, .inl f_from)), (q_there, .inl (k_there, 400, .inl f_there)), (q_values, .inl (k_values, 38500, .inr (.inl f_values)))]) [0, 1, 2, 3, 4, 5] rfl
      have hDc := hD.sub (ws' := [(aZ, .inr (15, fsZ)), (q_type, .inl (k_type, 400, .inl f_type)), (q_length, .inl (k_length, 400, .inl f_length)), (q_from, .inl (k_from, 400, .inl f_from)), (q_there, .inl (k_there, 400, .inl f_there)), (q_values, .inl (k_values, 38500, .inr (.inl f_values)))]) [0, 1, 2, 3, 4, 5] (by decide) rfl
      have hKc := hK.sub (tys' := [(k_type, .int), (k_length, .int), (k_from, .int), (k_there, .boolean), (k_values, .long)]) [0, 1, 2, 3, 4] rfl
      have hFc := va_free (wc := [(aZ, .inr (15, fsZ)), (q_type, .inl (k_type, 400, .inl f_type)), (q_length, .inl (k_length, 400, .inl f_length)), (q_from, .inl (k_from, 400, .inl f_from)), (q_there, .inl (k_there, 400, .inl f_there)), (q_values, .inl (k_values, 38500, .inr (.inl f_values)))]) hD hS hA [0, 1, 2, 3, 4, 5] rfl
      refine va_calli (va_runV (As := [.int w1, .int w2]) (rest := []) ⟨hx, hb, hml, hown, hts⟩ (z_X12_make l dC dI H.size aZ fsZ q_type f_type k_type q_length f_length k_length q_from f_from k_from q_there f_there k_there q_values f_values k_values w1 w2 (fh_sub o_fsZ.2 [0, 1, 2, 3, 4, 5, 6, 7, 8, 9] rfl) hz_f_from hz_f_values) (cwV 2 hts g_lk_9_z_X12_make_166 rfl rfl rfl (by decide +kernel) ⟨Nat.le_of_ble_eq_true rfl, Nat.le_of_ble_eq_true rfl⟩) ⟨fun a U g mk q => by obtain ⟨q0, q1, qP, qK, qD⟩ := q; exact ⟨q0, q1, qP, va_K.moved (u := U) (U := U.calling g mk a) (Vm.Alike.refl U.vm) qK, qD⟩, va_recv hK hP (ci := 15) (q0 := 0) rfl rfl, fun U hU hW => ⟨rfl, by rw [hU], by rw [hU]; exact hPc, va_K.moved hW.alike hKc, hDc.weaken (fun _ _ _ _ => trivial)⟩⟩ rfl rfl hl.1 rfl (lv_room (Nat.le_of_ble_eq_true rfl)) dL_law_723 ⟨Nat.le_of_ble_eq_true rfl, Nat.le_of_ble_eq_true rfl⟩) hS (fun q _ h => hFc q h) hFc (fun r453 u t H1 locs ht hvm hw hB hz1 hk1 hS => ?_)
      obtain ⟨s454, f455, f456, f457, f458, f459⟩ := u
      obtain ⟨hP1, hK1, hD1⟩ := hB
      rw [ht] at hP1
      try dsimp only at hw
      obtain ⟨hP, hD⟩ := va_join (wr := [(qO, .inl (kO, 1, .inr (.inl f106)))]) (w1 := [(aZ, .inr (15, s454)), (q_type, .inl (k_type, 400, .inl f455)), (q_length, .inl (k_length, 400, .inl f456)), (q_from, .inl (k_from, 400, .inl f457)), (q_there, .inl (k_there, 400, .inl f458)), (q_values, .inl (k_values, 38500, .inr (.inl f459)))]) hP hD [0, 1, 2, 3, 4, 5] [6] rfl rfl (by decide) (by decide) hk1 hFc hP1 hD1
      have hK := hK.sub (tys' := [(kO, .long), (k_type, .int), (k_length, .int), (k_from, .int), (k_there, .boolean), (k_values, .long)]) [5, 0, 1, 2, 3, 4] rfl
      generalize H1 = H at hP hS ⊢
      have hP : va_P (dC, dI) vwCl [(qO, .inl (kO, 1, .inr (.inl f106))), (aZ, .inr (15, s454)), (q_type, .inl (k_type, 400, .inl f455)), (q_length, .inl (k_length, 400, .inl f456)), (q_from, .inl (k_from, 400, .inl f457)), (q_there, .inl (k_there, 400, .inl f458)), (q_values, .inl (k_values, 38500, .inr (.inl f459)))] H := hP
      have hD : va_D A [(qO, .inl (kO, 1, .inr (.inl f106))), (aZ, .inr (15, s454)), (q_type, .inl (k_type, 400, .inl f455)), (q_length, .inl (k_length, 400, .inl f456)), (q_from, .inl (k_from, 400, .inl f457)), (q_there, .inl (k_there, 400, .inl f458)), (q_values, .inl (k_values, 38500, .inr (.inl f459)))] := hD
      rcases hw with ⟨c460, c461, c462, c463, er464, o_s454, q465, q466⟩ | ⟨c467, c468, c469, c470, c471, er472, o_s454, q473, q474⟩ | ⟨c475, c476, c477, c478, c479, er480, o_s454, q481, q482⟩ | ⟨c483, c484, c485, c486, c487, c488, c489, c490, c491, c492, c493, c494, c495, c496, c497, er498, o_s454, q499, q500, q501, q502, q503⟩ | ⟨c504, c505, c506, c507, c508, c509, er510, o_s454, q511, q512⟩ | ⟨c513, c514, c515, c516, c517, c518, er519, o_s454, q520, q521⟩ | ⟨c522, c523, c524, c525, c526, c527, c528, c529, c530, c531, c532, c533, c534, c535, c536, c537, er538, o_s454, q539, q540, q541, q542, q543⟩ | ⟨c544, c545, c546, c547, c548, c549, c550, er551, o_s454, q552, q553⟩ | ⟨c554, c555, c556, c557, c558, c559, er560, o_s454, q561, q562⟩ | ⟨c563, c564, c565, c566, c567, c568, er569, o_s454, q570, q571⟩
      · exact (by exfalso; (try simp only [i_lt, i_le, i_eq, kc_0, kc_20, kc_24, kc_29, kc_30] at c118 c119 c120 c121 c122 c460 c461 c462 c463); omega)
      · exact (by exfalso; (try simp only [i_lt, i_le, i_eq, kc_0, kc_20, kc_24, kc_29, kc_30] at c118 c119 c120 c121 c122 c467 c468 c469 c470 c471); omega)
      · skip
        subst er480
        have o_s454 := ow_on o_fsZ o_s454 (l' := [(0, .int 1), (20, .int 0), (21, .ref q_type), (22, .ref q_length), (23, .ref q_from), (24, .ref q_there), (25, .ref q_values), (26, .int 0), (27, .int 0), (28, .int 0), (20, .int 0), (21, .ref q_type), (22, .ref q_length), (23, .ref q_from), (24, .ref q_there), (25, .ref q_values), (26, .int 0), (27, .int 0), (28, .int 0)]) (w' := [0]) rfl rfl
        refine lv_istore (lv' := [(6, .int 0), (5, .int 1), (0, .ref b), (1, .ref aX), (2, .ref aZ), (3, .ref qO), (4, .int 0)]) hx hb dL_law_726 hl (by decide) rfl (fun ls hl => ?_)
        refine lv_aload_n hx hb dL_law_728 rfl (lv_at hl 4 rfl) ?_
        have hPc := hP.sub (ws' := [(aZ, .inr (15, s454))]) [1] rfl
        have hDc := hD.sub (ws' := [(aZ, .inr (15, s454))]) [1] (by decide) rfl
        have hKc := hK.sub (tys' := []) [] rfl
        have hFc := va_free (wc := [(aZ, .inr (15, s454))]) hD hS hA [1] rfl
        refine va_calli (va_runV (As := []) (rest := []) ⟨hx, hb, hml, hown, hts⟩ (z_X12_thrown l dC dI H.size aZ s454 (fh_sub o_s454.2 [0] rfl) ) (cwV 0 hts g_lk_9_z_X12_thrown_149 rfl rfl rfl (by decide +kernel) ⟨Nat.le_of_ble_eq_true rfl, Nat.le_of_ble_eq_true rfl⟩) ⟨fun a U g mk q => by obtain ⟨q0, q1, qP, qK, qD⟩ := q; exact ⟨q0, q1, qP, va_K.moved (u := U) (U := U.calling g mk a) (Vm.Alike.refl U.vm) qK, qD⟩, va_recv hK hP (ci := 15) (q0 := 1) rfl rfl, fun U hU hW => ⟨rfl, by rw [hU], by rw [hU]; exact hPc, va_K.moved hW.alike hKc, hDc.weaken (fun _ _ _ _ => trivial)⟩⟩ rfl rfl hl.1 rfl (lv_room (Nat.le_of_ble_eq_true rfl)) dL_law_729 ⟨Nat.le_of_ble_eq_true rfl, Nat.le_of_ble_eq_true rfl⟩) hS (fun q _ h => hFc q h) hFc (fun r572 u t H1 locs ht hvm hw hB hz1 hk1 hS => ?_)
        obtain ⟨hP1, hK1, hD1⟩ := hB
        rw [ht] at hP1
        try dsimp only at hw
        obtain ⟨hP, hD⟩ := va_join (wr := [(qO, .inl (kO, 1, .inr (.inl f106))), (q_type, .inl (k_type, 400, .inl f455)), (q_length, .inl (k_length, 400, .inl f456)), (q_from, .inl (k_from, 400, .inl f457)), (q_there, .inl (k_there, 400, .inl f458)), (q_values, .inl (k_values, 38500, .inr (.inl f459)))]) (w1 := [(aZ, .inr (15, s454))]) hP hD [1] [0, 2, 3, 4, 5, 6] rfl rfl (by decide) (by decide) hk1 hFc hP1 hD1
        have hK := hK.sub (tys' := [(kO, .long), (k_type, .int), (k_length, .int), (k_from, .int), (k_there, .boolean), (k_values, .long)]) [0, 1, 2, 3, 4, 5] rfl
        generalize H1 = H at hP hS ⊢
        have hP : va_P (dC, dI) vwCl [(qO, .inl (kO, 1, .inr (.inl f106))), (q_type, .inl (k_type, 400, .inl f455)), (q_length, .inl (k_length, 400, .inl f456)), (q_from, .inl (k_from, 400, .inl f457)), (q_there, .inl (k_there, 400, .inl f458)), (q_values, .inl (k_values, 38500, .inr (.inl f459))), (aZ, .inr (15, s454))] H := hP
        have hD : va_D A [(qO, .inl (kO, 1, .inr (.inl f106))), (q_type, .inl (k_type, 400, .inl f455)), (q_length, .inl (k_length, 400, .inl f456)), (q_from, .inl (k_from, 400, .inl f457)), (q_there, .inl (k_there, 400, .inl f458)), (q_values, .inl (k_values, 38500, .inr (.inl f459))), (aZ, .inr (15, s454))] := hD
        have er573 := hw
        subst er573
        refine lv_iload hx hb dL_law_732 (lv_at hl 1 rfl) ?_
        refine lv_icmp_eq (tgt := 739) hx hb dL_law_734 (by decide) (fun c574 => ?_) (fun c574 => absurd c574 (by decide))
        refine lv_iload hx hb dL_law_739 (lv_at hl 1 rfl) ?_
        refine lv_if_ne (tgt := 756) hx hb dL_law_741 (by decide) (fun c575 => ?_) (fun c575 => absurd c575 (by decide))
        refine lv_goto (tgt := 3111) hx hb dL_law_756 (by decide) ?_
        exact lw_end hst C0 hA hAf hZ hY (Nat.le_of_ble_eq_true rfl) (Nat.le_of_ble_eq_true rfl) dC dI P0k P0 D0 hS ls (lv_sub hl [2, 6] rfl)
      · exact (by exfalso; (try simp only [i_lt, i_le, i_eq, kc_0, kc_60, kc_4000] at c123 c487 c488 c491); omega)
      · exact (by exfalso; (try simp only [i_lt, i_le, i_eq, kc_0, kc_60] at c123 c508 c509); omega)
      · exact (by exfalso; (try simp only [i_lt, i_le, i_eq, kc_0, kc_20, kc_24, kc_29] at c118 c119 c120 c121 c122 c513 c514 c515 c516 c517); omega)
      · exact (by exfalso; (try simp only [i_lt, i_le, i_eq, kc_0, kc_60, kc_4000] at c123 c527 c528 c531); omega)
      · exact (by exfalso; (try simp only [i_lt, i_le, i_eq, kc_0, kc_60] at c123 c549 c550); omega)
      · exact (by exfalso; (try simp only [i_lt, i_le, i_eq, kc_0, kc_20, kc_24, kc_29, kc_30] at c118 c119 c120 c121 c122 c554 c555 c556 c557 c558 c559); omega)
      · exact (by exfalso; (try simp only [i_lt, i_le, i_eq, kc_0, kc_20, kc_24, kc_29, kc_30] at c118 c119 c120 c121 c122 c563 c564 c565 c566 c567 c568); omega)
    · skip
      subst er132
      refine lv_istore (lv' := [(5, .int 1), (0, .ref b), (1, .ref aX), (2, .ref aZ), (3, .ref qO), (4, .int 0)]) hx hb dL_law_708 hl (by decide) rfl (fun ls hl => ?_)
      refine lv_aload_n hx hb dL_law_710 rfl (lv_at hl 3 rfl) ?_
      refine lv_aload_n hx hb dL_law_711 rfl (lv_at hl 1 rfl) ?_
      refine lv_iload hx hb dL_law_712 (lv_at hl 5 rfl) ?_
      refine lv_iconst (v := 1) hx hb dL_law_714 (by decide) ?_
      refine lv_iadd hx hb dL_law_715  ?_
      refine lv_topi (fun x576 ex576 => ?_)
      obtain rfl : x576 = 1 := ex576.trans (by decide)
      refine va_sld hx hb hX hbl hbA hS (show vp_in 1 6 from by unfold vp_in; decide) dL_law_716 ?_
      refine lv_topi (fun x577 ex577 => ?_)
      obtain rfl : w1 = x577 := hw1.trans ex577.symm
      refine lv_aload_n hx hb dL_law_717 rfl (lv_at hl 1 rfl) ?_
      refine lv_iload hx hb dL_law_718 (lv_at hl 5 rfl) ?_
      refine lv_iconst (v := 2) hx hb dL_law_720 (by decide) ?_
      refine lv_iadd hx hb dL_law_721  ?_
      refine lv_topi (fun x578 ex578 => ?_)
      obtain rfl : x578 = 2 := ex578.trans (by decide)
      refine va_sld hx hb hX hbl hbA hS (show vp_in 2 6 from by unfold vp_in; decide) dL_law_722 ?_
      refine lv_topi (fun x579 ex579 => ?_)
      obtain rfl : w2 = x579 := hw2.trans ex579.symm
      have hPc := hP.sub (ws' := [(aZ, .inr (15, fsZ)), (q_type, .inl (k_type, 400, .inl f_type)), (q_length, .inl (k_length, 400, .inl f_length)), (q_from, .inl (k_from, 400, .inl f_from)), (q_there, .inl (k_there, 400, .inl f_there)), (q_values, .inl (k_values, 38500, .inr (.inl f_values)))]) [0, 1, 2, 3, 4, 5] rfl
      have hDc := hD.sub (ws' := [(aZ, .inr (15, fsZ)), (q_type, .inl (k_type, 400, .inl f_type)), (q_length, .inl (k_length, 400, .inl f_length)), (q_from, .inl (k_from, 400, .inl f_from)), (q_there, .inl (k_there, 400, .inl f_there)), (q_values, .inl (k_values, 38500, .inr (.inl f_values)))]) [0, 1, 2, 3, 4, 5] (by decide) rfl
      have hKc := hK.sub (tys' := [(k_type, .int), (k_length, .int), (k_from, .int), (k_there, .boolean), (k_values, .long)]) [0, 1, 2, 3, 4] rfl
      have hFc := va_free (wc := [(aZ, .inr (15, fsZ)), (q_type, .inl (k_type, 400, .inl f_type)), (q_length, .inl (k_length, 400, .inl f_length)), (q_from, .inl (k_from, 400, .inl f_from)), (q_there, .inl (k_there, 400, .inl f_there)), (q_values, .inl (k_values, 38500, .inr (.inl f_values)))]) hD hS hA [0, 1, 2, 3, 4, 5] rfl
      refine va_calli (va_runV (As := [.int w1, .int w2]) (rest := []) ⟨hx, hb, hml, hown, hts⟩ (z_X12_make l dC dI H.size aZ fsZ q_type f_type k_type q_length f_length k_length q_from f_from k_from q_there f_there k_there q_values f_values k_values w1 w2 (fh_sub o_fsZ.2 [0, 1, 2, 3, 4, 5, 6, 7, 8, 9] rfl) hz_f_from hz_f_values) (cwV 2 hts g_lk_9_z_X12_make_166 rfl rfl rfl (by decide +kernel) ⟨Nat.le_of_ble_eq_true rfl, Nat.le_of_ble_eq_true rfl⟩) ⟨fun a U g mk q => by obtain ⟨q0, q1, qP, qK, qD⟩ := q; exact ⟨q0, q1, qP, va_K.moved (u := U) (U := U.calling g mk a) (Vm.Alike.refl U.vm) qK, qD⟩, va_recv hK hP (ci := 15) (q0 := 0) rfl rfl, fun U hU hW => ⟨rfl, by rw [hU], by rw [hU]; exact hPc, va_K.moved hW.alike hKc, hDc.weaken (fun _ _ _ _ => trivial)⟩⟩ rfl rfl hl.1 rfl (lv_room (Nat.le_of_ble_eq_true rfl)) dL_law_723 ⟨Nat.le_of_ble_eq_true rfl, Nat.le_of_ble_eq_true rfl⟩) hS (fun q _ h => hFc q h) hFc (fun r580 u t H1 locs ht hvm hw hB hz1 hk1 hS => ?_)
      obtain ⟨s581, f582, f583, f584, f585, f586⟩ := u
      obtain ⟨hP1, hK1, hD1⟩ := hB
      rw [ht] at hP1
      try dsimp only at hw
      obtain ⟨hP, hD⟩ := va_join (wr := [(qO, .inl (kO, 1, .inr (.inl f106)))]) (w1 := [(aZ, .inr (15, s581)), (q_type, .inl (k_type, 400, .inl f582)), (q_length, .inl (k_length, 400, .inl f583)), (q_from, .inl (k_from, 400, .inl f584)), (q_there, .inl (k_there, 400, .inl f585)), (q_values, .inl (k_values, 38500, .inr (.inl f586)))]) hP hD [0, 1, 2, 3, 4, 5] [6] rfl rfl (by decide) (by decide) hk1 hFc hP1 hD1
      have hK := hK.sub (tys' := [(kO, .long), (k_type, .int), (k_length, .int), (k_from, .int), (k_there, .boolean), (k_values, .long)]) [5, 0, 1, 2, 3, 4] rfl
      generalize H1 = H at hP hS ⊢
      have hP : va_P (dC, dI) vwCl [(qO, .inl (kO, 1, .inr (.inl f106))), (aZ, .inr (15, s581)), (q_type, .inl (k_type, 400, .inl f582)), (q_length, .inl (k_length, 400, .inl f583)), (q_from, .inl (k_from, 400, .inl f584)), (q_there, .inl (k_there, 400, .inl f585)), (q_values, .inl (k_values, 38500, .inr (.inl f586)))] H := hP
      have hD : va_D A [(qO, .inl (kO, 1, .inr (.inl f106))), (aZ, .inr (15, s581)), (q_type, .inl (k_type, 400, .inl f582)), (q_length, .inl (k_length, 400, .inl f583)), (q_from, .inl (k_from, 400, .inl f584)), (q_there, .inl (k_there, 400, .inl f585)), (q_values, .inl (k_values, 38500, .inr (.inl f586)))] := hD
      rcases hw with ⟨c587, c588, c589, c590, er591, o_s581, q592, q593⟩ | ⟨c594, c595, c596, c597, c598, er599, o_s581, q600, q601⟩ | ⟨c602, c603, c604, c605, c606, er607, o_s581, q608, q609⟩ | ⟨c610, c611, c612, c613, c614, c615, c616, c617, c618, c619, c620, c621, c622, c623, c624, er625, o_s581, q626, q627, q628, q629, q630⟩ | ⟨c631, c632, c633, c634, c635, c636, er637, o_s581, q638, q639⟩ | ⟨c640, c641, c642, c643, c644, c645, er646, o_s581, q647, q648⟩ | ⟨c649, c650, c651, c652, c653, c654, c655, c656, c657, c658, c659, c660, c661, c662, c663, c664, er665, o_s581, q666, q667, q668, q669, q670⟩ | ⟨c671, c672, c673, c674, c675, c676, c677, er678, o_s581, q679, q680⟩ | ⟨c681, c682, c683, c684, c685, c686, er687, o_s581, q688, q689⟩ | ⟨c690, c691, c692, c693, c694, c695, er696, o_s581, q697, q698⟩
      · exact (by exfalso; (try simp only [i_lt, i_le, i_eq, kc_0, kc_20, kc_24, kc_29, kc_30] at c125 c126 c127 c128 c129 c587 c588 c589 c590); omega)
      · exact (by exfalso; (try simp only [i_lt, i_le, i_eq, kc_0, kc_20, kc_24, kc_29, kc_30] at c125 c126 c127 c128 c129 c594 c595 c596 c597 c598); omega)
      · exact (by exfalso; (try simp only [i_lt, i_le, i_eq, kc_0, kc_60] at c130 c131 c606); omega)
      · exact (by exfalso; (try simp only [i_lt, i_le, i_eq, kc_0, kc_60, kc_4000] at c130 c131 c614 c615 c618); omega)
      · skip
        subst er637
        have o_s581 := ow_on o_fsZ o_s581 (l' := [(0, .int 1), (20, .int 0), (21, .ref q_type), (22, .ref q_length), (23, .ref q_from), (24, .ref q_there), (25, .ref q_values), (26, .int 0), (27, .int 0), (28, .int 0), (20, .int 0), (21, .ref q_type), (22, .ref q_length), (23, .ref q_from), (24, .ref q_there), (25, .ref q_values), (26, .int 0), (27, .int 0), (28, .int 0)]) (w' := [0]) rfl rfl
        refine lv_istore (lv' := [(6, .int 0), (5, .int 1), (0, .ref b), (1, .ref aX), (2, .ref aZ), (3, .ref qO), (4, .int 0)]) hx hb dL_law_726 hl (by decide) rfl (fun ls hl => ?_)
        refine lv_aload_n hx hb dL_law_728 rfl (lv_at hl 4 rfl) ?_
        have hPc := hP.sub (ws' := [(aZ, .inr (15, s581))]) [1] rfl
        have hDc := hD.sub (ws' := [(aZ, .inr (15, s581))]) [1] (by decide) rfl
        have hKc := hK.sub (tys' := []) [] rfl
        have hFc := va_free (wc := [(aZ, .inr (15, s581))]) hD hS hA [1] rfl
        refine va_calli (va_runV (As := []) (rest := []) ⟨hx, hb, hml, hown, hts⟩ (z_X12_thrown l dC dI H.size aZ s581 (fh_sub o_s581.2 [0] rfl) ) (cwV 0 hts g_lk_9_z_X12_thrown_149 rfl rfl rfl (by decide +kernel) ⟨Nat.le_of_ble_eq_true rfl, Nat.le_of_ble_eq_true rfl⟩) ⟨fun a U g mk q => by obtain ⟨q0, q1, qP, qK, qD⟩ := q; exact ⟨q0, q1, qP, va_K.moved (u := U) (U := U.calling g mk a) (Vm.Alike.refl U.vm) qK, qD⟩, va_recv hK hP (ci := 15) (q0 := 1) rfl rfl, fun U hU hW => ⟨rfl, by rw [hU], by rw [hU]; exact hPc, va_K.moved hW.alike hKc, hDc.weaken (fun _ _ _ _ => trivial)⟩⟩ rfl rfl hl.1 rfl (lv_room (Nat.le_of_ble_eq_true rfl)) dL_law_729 ⟨Nat.le_of_ble_eq_true rfl, Nat.le_of_ble_eq_true rfl⟩) hS (fun q _ h => hFc q h) hFc (fun r699 u t H1 locs ht hvm hw hB hz1 hk1 hS => ?_)
        obtain ⟨hP1, hK1, hD1⟩ := hB
        rw [ht] at hP1
        try dsimp only at hw
        obtain ⟨hP, hD⟩ := va_join (wr := [(qO, .inl (kO, 1, .inr (.inl f106))), (q_type, .inl (k_type, 400, .inl f582)), (q_length, .inl (k_length, 400, .inl f583)), (q_from, .inl (k_from, 400, .inl f584)), (q_there, .inl (k_there, 400, .inl f585)), (q_values, .inl (k_values, 38500, .inr (.inl f586)))]) (w1 := [(aZ, .inr (15, s581))]) hP hD [1] [0, 2, 3, 4, 5, 6] rfl rfl (by decide) (by decide) hk1 hFc hP1 hD1
        have hK := hK.sub (tys' := [(kO, .long), (k_type, .int), (k_length, .int), (k_from, .int), (k_there, .boolean), (k_values, .long)]) [0, 1, 2, 3, 4, 5] rfl
        generalize H1 = H at hP hS ⊢
        have hP : va_P (dC, dI) vwCl [(qO, .inl (kO, 1, .inr (.inl f106))), (q_type, .inl (k_type, 400, .inl f582)), (q_length, .inl (k_length, 400, .inl f583)), (q_from, .inl (k_from, 400, .inl f584)), (q_there, .inl (k_there, 400, .inl f585)), (q_values, .inl (k_values, 38500, .inr (.inl f586))), (aZ, .inr (15, s581))] H := hP
        have hD : va_D A [(qO, .inl (kO, 1, .inr (.inl f106))), (q_type, .inl (k_type, 400, .inl f582)), (q_length, .inl (k_length, 400, .inl f583)), (q_from, .inl (k_from, 400, .inl f584)), (q_there, .inl (k_there, 400, .inl f585)), (q_values, .inl (k_values, 38500, .inr (.inl f586))), (aZ, .inr (15, s581))] := hD
        have er700 := hw
        subst er700
        refine lv_iload hx hb dL_law_732 (lv_at hl 1 rfl) ?_
        refine lv_icmp_eq (tgt := 739) hx hb dL_law_734 (by decide) (fun c701 => ?_) (fun c701 => absurd c701 (by decide))
        refine lv_iload hx hb dL_law_739 (lv_at hl 1 rfl) ?_
        refine lv_if_ne (tgt := 756) hx hb dL_law_741 (by decide) (fun c702 => ?_) (fun c702 => absurd c702 (by decide))
        refine lv_goto (tgt := 3111) hx hb dL_law_756 (by decide) ?_
        exact lw_end hst C0 hA hAf hZ hY (Nat.le_of_ble_eq_true rfl) (Nat.le_of_ble_eq_true rfl) dC dI P0k P0 D0 hS ls (lv_sub hl [2, 6] rfl)
      · exact (by exfalso; (try simp only [i_lt, i_le, i_eq, kc_0, kc_60] at c130 c131 c645); omega)
      · exact (by exfalso; (try simp only [i_lt, i_le, i_eq, kc_0, kc_60, kc_4000] at c130 c131 c654 c655 c658); omega)
      · exact (by exfalso; (try simp only [i_lt, i_le, i_eq, kc_0, kc_20, kc_24, kc_29] at c125 c126 c127 c128 c129 c671 c672 c673 c674 c675); omega)
      · exact (by exfalso; (try simp only [i_lt, i_le, i_eq, kc_0, kc_20, kc_24, kc_29, kc_30] at c125 c126 c127 c128 c129 c681 c682 c683 c684 c685 c686); omega)
      · exact (by exfalso; (try simp only [i_lt, i_le, i_eq, kc_0, kc_20, kc_24, kc_29, kc_30] at c125 c126 c127 c128 c129 c690 c691 c692 c693 c694 c695); omega)
    · skip
      subst er140
      refine lv_istore (lv' := [(5, .int 1), (0, .ref b), (1, .ref aX), (2, .ref aZ), (3, .ref qO), (4, .int 0)]) hx hb dL_law_708 hl (by decide) rfl (fun ls hl => ?_)
      refine lv_aload_n hx hb dL_law_710 rfl (lv_at hl 3 rfl) ?_
      refine lv_aload_n hx hb dL_law_711 rfl (lv_at hl 1 rfl) ?_
      refine lv_iload hx hb dL_law_712 (lv_at hl 5 rfl) ?_
      refine lv_iconst (v := 1) hx hb dL_law_714 (by decide) ?_
      refine lv_iadd hx hb dL_law_715  ?_
      refine lv_topi (fun x703 ex703 => ?_)
      obtain rfl : x703 = 1 := ex703.trans (by decide)
      refine va_sld hx hb hX hbl hbA hS (show vp_in 1 6 from by unfold vp_in; decide) dL_law_716 ?_
      refine lv_topi (fun x704 ex704 => ?_)
      obtain rfl : w1 = x704 := hw1.trans ex704.symm
      refine lv_aload_n hx hb dL_law_717 rfl (lv_at hl 1 rfl) ?_
      refine lv_iload hx hb dL_law_718 (lv_at hl 5 rfl) ?_
      refine lv_iconst (v := 2) hx hb dL_law_720 (by decide) ?_
      refine lv_iadd hx hb dL_law_721  ?_
      refine lv_topi (fun x705 ex705 => ?_)
      obtain rfl : x705 = 2 := ex705.trans (by decide)
      refine va_sld hx hb hX hbl hbA hS (show vp_in 2 6 from by unfold vp_in; decide) dL_law_722 ?_
      refine lv_topi (fun x706 ex706 => ?_)
      obtain rfl : w2 = x706 := hw2.trans ex706.symm
      have hPc := hP.sub (ws' := [(aZ, .inr (15, fsZ)), (q_type, .inl (k_type, 400, .inl f_type)), (q_length, .inl (k_length, 400, .inl f_length)), (q_from, .inl (k_from, 400, .inl f_from)), (q_there, .inl (k_there, 400, .inl f_there)), (q_values, .inl (k_values, 38500, .inr (.inl f_values)))]) [0, 1, 2, 3, 4, 5] rfl
      have hDc := hD.sub (ws' := [(aZ, .inr (15, fsZ)), (q_type, .inl (k_type, 400, .inl f_type)), (q_length, .inl (k_length, 400, .inl f_length)), (q_from, .inl (k_from, 400, .inl f_from)), (q_there, .inl (k_there, 400, .inl f_there)), (q_values, .inl (k_values, 38500, .inr (.inl f_values)))]) [0, 1, 2, 3, 4, 5] (by decide) rfl
      have hKc := hK.sub (tys' := [(k_type, .int), (k_length, .int), (k_from, .int), (k_there, .boolean), (k_values, .long)]) [0, 1, 2, 3, 4] rfl
      have hFc := va_free (wc := [(aZ, .inr (15, fsZ)), (q_type, .inl (k_type, 400, .inl f_type)), (q_length, .inl (k_length, 400, .inl f_length)), (q_from, .inl (k_from, 400, .inl f_from)), (q_there, .inl (k_there, 400, .inl f_there)), (q_values, .inl (k_values, 38500, .inr (.inl f_values)))]) hD hS hA [0, 1, 2, 3, 4, 5] rfl
      refine va_calli (va_runV (As := [.int w1, .int w2]) (rest := []) ⟨hx, hb, hml, hown, hts⟩ (z_X12_make l dC dI H.size aZ fsZ q_type f_type k_type q_length f_length k_length q_from f_from k_from q_there f_there k_there q_values f_values k_values w1 w2 (fh_sub o_fsZ.2 [0, 1, 2, 3, 4, 5, 6, 7, 8, 9] rfl) hz_f_from hz_f_values) (cwV 2 hts g_lk_9_z_X12_make_166 rfl rfl rfl (by decide +kernel) ⟨Nat.le_of_ble_eq_true rfl, Nat.le_of_ble_eq_true rfl⟩) ⟨fun a U g mk q => by obtain ⟨q0, q1, qP, qK, qD⟩ := q; exact ⟨q0, q1, qP, va_K.moved (u := U) (U := U.calling g mk a) (Vm.Alike.refl U.vm) qK, qD⟩, va_recv hK hP (ci := 15) (q0 := 0) rfl rfl, fun U hU hW => ⟨rfl, by rw [hU], by rw [hU]; exact hPc, va_K.moved hW.alike hKc, hDc.weaken (fun _ _ _ _ => trivial)⟩⟩ rfl rfl hl.1 rfl (lv_room (Nat.le_of_ble_eq_true rfl)) dL_law_723 ⟨Nat.le_of_ble_eq_true rfl, Nat.le_of_ble_eq_true rfl⟩) hS (fun q _ h => hFc q h) hFc (fun r707 u t H1 locs ht hvm hw hB hz1 hk1 hS => ?_)
      obtain ⟨s708, f709, f710, f711, f712, f713⟩ := u
      obtain ⟨hP1, hK1, hD1⟩ := hB
      rw [ht] at hP1
      try dsimp only at hw
      obtain ⟨hP, hD⟩ := va_join (wr := [(qO, .inl (kO, 1, .inr (.inl f106)))]) (w1 := [(aZ, .inr (15, s708)), (q_type, .inl (k_type, 400, .inl f709)), (q_length, .inl (k_length, 400, .inl f710)), (q_from, .inl (k_from, 400, .inl f711)), (q_there, .inl (k_there, 400, .inl f712)), (q_values, .inl (k_values, 38500, .inr (.inl f713)))]) hP hD [0, 1, 2, 3, 4, 5] [6] rfl rfl (by decide) (by decide) hk1 hFc hP1 hD1
      have hK := hK.sub (tys' := [(kO, .long), (k_type, .int), (k_length, .int), (k_from, .int), (k_there, .boolean), (k_values, .long)]) [5, 0, 1, 2, 3, 4] rfl
      generalize H1 = H at hP hS ⊢
      have hP : va_P (dC, dI) vwCl [(qO, .inl (kO, 1, .inr (.inl f106))), (aZ, .inr (15, s708)), (q_type, .inl (k_type, 400, .inl f709)), (q_length, .inl (k_length, 400, .inl f710)), (q_from, .inl (k_from, 400, .inl f711)), (q_there, .inl (k_there, 400, .inl f712)), (q_values, .inl (k_values, 38500, .inr (.inl f713)))] H := hP
      have hD : va_D A [(qO, .inl (kO, 1, .inr (.inl f106))), (aZ, .inr (15, s708)), (q_type, .inl (k_type, 400, .inl f709)), (q_length, .inl (k_length, 400, .inl f710)), (q_from, .inl (k_from, 400, .inl f711)), (q_there, .inl (k_there, 400, .inl f712)), (q_values, .inl (k_values, 38500, .inr (.inl f713)))] := hD
      rcases hw with ⟨c714, c715, c716, c717, er718, o_s708, q719, q720⟩ | ⟨c721, c722, c723, c724, c725, er726, o_s708, q727, q728⟩ | ⟨c729, c730, c731, c732, c733, er734, o_s708, q735, q736⟩ | ⟨c737, c738, c739, c740, c741, c742, c743, c744, c745, c746, c747, c748, c749, c750, c751, er752, o_s708, q753, q754, q755, q756, q757⟩ | ⟨c758, c759, c760, c761, c762, c763, er764, o_s708, q765, q766⟩ | ⟨c767, c768, c769, c770, c771, c772, er773, o_s708, q774, q775⟩ | ⟨c776, c777, c778, c779, c780, c781, c782, c783, c784, c785, c786, c787, c788, c789, c790, c791, er792, o_s708, q793, q794, q795, q796, q797⟩ | ⟨c798, c799, c800, c801, c802, c803, c804, er805, o_s708, q806, q807⟩ | ⟨c808, c809, c810, c811, c812, c813, er814, o_s708, q815, q816⟩ | ⟨c817, c818, c819, c820, c821, c822, er823, o_s708, q824, q825⟩
      · exact (by exfalso; (try simp only [i_lt, i_le, i_eq, kc_0, kc_20, kc_24, kc_29, kc_30] at c133 c134 c135 c136 c137 c138 c714 c715 c716 c717); omega)
      · exact (by exfalso; (try simp only [i_lt, i_le, i_eq, kc_0, kc_20, kc_24, kc_29, kc_30] at c133 c134 c135 c136 c137 c138 c721 c722 c723 c724 c725); omega)
      · exact (by exfalso; (try simp only [i_lt, i_le, i_eq, kc_0, kc_20, kc_24, kc_29] at c133 c134 c135 c136 c137 c138 c729 c730 c731 c732); omega)
      · exact (by exfalso; (try simp only [i_lt, i_le, i_eq, kc_0, kc_60, kc_4000] at c139 c741 c742 c745); omega)
      · exact (by exfalso; (try simp only [i_lt, i_le, i_eq, kc_0, kc_60] at c139 c762 c763); omega)
      · skip
        subst er773
        have o_s708 := ow_on o_fsZ o_s708 (l' := [(0, .int 1), (20, .int 0), (21, .ref q_type), (22, .ref q_length), (23, .ref q_from), (24, .ref q_there), (25, .ref q_values), (26, .int 0), (27, .int 0), (28, .int 0), (20, .int 0), (21, .ref q_type), (22, .ref q_length), (23, .ref q_from), (24, .ref q_there), (25, .ref q_values), (26, .int 0), (27, .int 0), (28, .int 0)]) (w' := [0]) rfl rfl
        refine lv_istore (lv' := [(6, .int 0), (5, .int 1), (0, .ref b), (1, .ref aX), (2, .ref aZ), (3, .ref qO), (4, .int 0)]) hx hb dL_law_726 hl (by decide) rfl (fun ls hl => ?_)
        refine lv_aload_n hx hb dL_law_728 rfl (lv_at hl 4 rfl) ?_
        have hPc := hP.sub (ws' := [(aZ, .inr (15, s708))]) [1] rfl
        have hDc := hD.sub (ws' := [(aZ, .inr (15, s708))]) [1] (by decide) rfl
        have hKc := hK.sub (tys' := []) [] rfl
        have hFc := va_free (wc := [(aZ, .inr (15, s708))]) hD hS hA [1] rfl
        refine va_calli (va_runV (As := []) (rest := []) ⟨hx, hb, hml, hown, hts⟩ (z_X12_thrown l dC dI H.size aZ s708 (fh_sub o_s708.2 [0] rfl) ) (cwV 0 hts g_lk_9_z_X12_thrown_149 rfl rfl rfl (by decide +kernel) ⟨Nat.le_of_ble_eq_true rfl, Nat.le_of_ble_eq_true rfl⟩) ⟨fun a U g mk q => by obtain ⟨q0, q1, qP, qK, qD⟩ := q; exact ⟨q0, q1, qP, va_K.moved (u := U) (U := U.calling g mk a) (Vm.Alike.refl U.vm) qK, qD⟩, va_recv hK hP (ci := 15) (q0 := 1) rfl rfl, fun U hU hW => ⟨rfl, by rw [hU], by rw [hU]; exact hPc, va_K.moved hW.alike hKc, hDc.weaken (fun _ _ _ _ => trivial)⟩⟩ rfl rfl hl.1 rfl (lv_room (Nat.le_of_ble_eq_true rfl)) dL_law_729 ⟨Nat.le_of_ble_eq_true rfl, Nat.le_of_ble_eq_true rfl⟩) hS (fun q _ h => hFc q h) hFc (fun r826 u t H1 locs ht hvm hw hB hz1 hk1 hS => ?_)
        obtain ⟨hP1, hK1, hD1⟩ := hB
        rw [ht] at hP1
        try dsimp only at hw
        obtain ⟨hP, hD⟩ := va_join (wr := [(qO, .inl (kO, 1, .inr (.inl f106))), (q_type, .inl (k_type, 400, .inl f709)), (q_length, .inl (k_length, 400, .inl f710)), (q_from, .inl (k_from, 400, .inl f711)), (q_there, .inl (k_there, 400, .inl f712)), (q_values, .inl (k_values, 38500, .inr (.inl f713)))]) (w1 := [(aZ, .inr (15, s708))]) hP hD [1] [0, 2, 3, 4, 5, 6] rfl rfl (by decide) (by decide) hk1 hFc hP1 hD1
        have hK := hK.sub (tys' := [(kO, .long), (k_type, .int), (k_length, .int), (k_from, .int), (k_there, .boolean), (k_values, .long)]) [0, 1, 2, 3, 4, 5] rfl
        generalize H1 = H at hP hS ⊢
        have hP : va_P (dC, dI) vwCl [(qO, .inl (kO, 1, .inr (.inl f106))), (q_type, .inl (k_type, 400, .inl f709)), (q_length, .inl (k_length, 400, .inl f710)), (q_from, .inl (k_from, 400, .inl f711)), (q_there, .inl (k_there, 400, .inl f712)), (q_values, .inl (k_values, 38500, .inr (.inl f713))), (aZ, .inr (15, s708))] H := hP
        have hD : va_D A [(qO, .inl (kO, 1, .inr (.inl f106))), (q_type, .inl (k_type, 400, .inl f709)), (q_length, .inl (k_length, 400, .inl f710)), (q_from, .inl (k_from, 400, .inl f711)), (q_there, .inl (k_there, 400, .inl f712)), (q_values, .inl (k_values, 38500, .inr (.inl f713))), (aZ, .inr (15, s708))] := hD
        have er827 := hw
        subst er827
        refine lv_iload hx hb dL_law_732 (lv_at hl 1 rfl) ?_
        refine lv_icmp_eq (tgt := 739) hx hb dL_law_734 (by decide) (fun c828 => ?_) (fun c828 => absurd c828 (by decide))
        refine lv_iload hx hb dL_law_739 (lv_at hl 1 rfl) ?_
        refine lv_if_ne (tgt := 756) hx hb dL_law_741 (by decide) (fun c829 => ?_) (fun c829 => absurd c829 (by decide))
        refine lv_goto (tgt := 3111) hx hb dL_law_756 (by decide) ?_
        exact lw_end hst C0 hA hAf hZ hY (Nat.le_of_ble_eq_true rfl) (Nat.le_of_ble_eq_true rfl) dC dI P0k P0 D0 hS ls (lv_sub hl [2, 6] rfl)
      · exact (by exfalso; (try simp only [i_lt, i_le, i_eq, kc_0, kc_60, kc_4000] at c139 c781 c782 c785); omega)
      · exact (by exfalso; (try simp only [i_lt, i_le, i_eq, kc_0, kc_60] at c139 c803 c804); omega)
      · exact (by exfalso; (try simp only [i_lt, i_le, i_eq, kc_0, kc_20, kc_24, kc_29, kc_30] at c133 c134 c135 c136 c137 c138 c808 c809 c810 c811 c812 c813); omega)
      · exact (by exfalso; (try simp only [i_lt, i_le, i_eq, kc_0, kc_20, kc_24, kc_29, kc_30] at c133 c134 c135 c136 c137 c138 c817 c818 c819 c820 c821 c822); omega)
    · skip
      subst er149
      refine lv_istore (lv' := [(5, .int 1), (0, .ref b), (1, .ref aX), (2, .ref aZ), (3, .ref qO), (4, .int 0)]) hx hb dL_law_708 hl (by decide) rfl (fun ls hl => ?_)
      refine lv_aload_n hx hb dL_law_710 rfl (lv_at hl 3 rfl) ?_
      refine lv_aload_n hx hb dL_law_711 rfl (lv_at hl 1 rfl) ?_
      refine lv_iload hx hb dL_law_712 (lv_at hl 5 rfl) ?_
      refine lv_iconst (v := 1) hx hb dL_law_714 (by decide) ?_
      refine lv_iadd hx hb dL_law_715  ?_
      refine lv_topi (fun x830 ex830 => ?_)
      obtain rfl : x830 = 1 := ex830.trans (by decide)
      refine va_sld hx hb hX hbl hbA hS (show vp_in 1 6 from by unfold vp_in; decide) dL_law_716 ?_
      refine lv_topi (fun x831 ex831 => ?_)
      obtain rfl : w1 = x831 := hw1.trans ex831.symm
      refine lv_aload_n hx hb dL_law_717 rfl (lv_at hl 1 rfl) ?_
      refine lv_iload hx hb dL_law_718 (lv_at hl 5 rfl) ?_
      refine lv_iconst (v := 2) hx hb dL_law_720 (by decide) ?_
      refine lv_iadd hx hb dL_law_721  ?_
      refine lv_topi (fun x832 ex832 => ?_)
      obtain rfl : x832 = 2 := ex832.trans (by decide)
      refine va_sld hx hb hX hbl hbA hS (show vp_in 2 6 from by unfold vp_in; decide) dL_law_722 ?_
      refine lv_topi (fun x833 ex833 => ?_)
      obtain rfl : w2 = x833 := hw2.trans ex833.symm
      have hPc := hP.sub (ws' := [(aZ, .inr (15, fsZ)), (q_type, .inl (k_type, 400, .inl f_type)), (q_length, .inl (k_length, 400, .inl f_length)), (q_from, .inl (k_from, 400, .inl f_from)), (q_there, .inl (k_there, 400, .inl f_there)), (q_values, .inl (k_values, 38500, .inr (.inl f_values)))]) [0, 1, 2, 3, 4, 5] rfl
      have hDc := hD.sub (ws' := [(aZ, .inr (15, fsZ)), (q_type, .inl (k_type, 400, .inl f_type)), (q_length, .inl (k_length, 400, .inl f_length)), (q_from, .inl (k_from, 400, .inl f_from)), (q_there, .inl (k_there, 400, .inl f_there)), (q_values, .inl (k_values, 38500, .inr (.inl f_values)))]) [0, 1, 2, 3, 4, 5] (by decide) rfl
      have hKc := hK.sub (tys' := [(k_type, .int), (k_length, .int), (k_from, .int), (k_there, .boolean), (k_values, .long)]) [0, 1, 2, 3, 4] rfl
      have hFc := va_free (wc := [(aZ, .inr (15, fsZ)), (q_type, .inl (k_type, 400, .inl f_type)), (q_length, .inl (k_length, 400, .inl f_length)), (q_from, .inl (k_from, 400, .inl f_from)), (q_there, .inl (k_there, 400, .inl f_there)), (q_values, .inl (k_values, 38500, .inr (.inl f_values)))]) hD hS hA [0, 1, 2, 3, 4, 5] rfl
      refine va_calli (va_runV (As := [.int w1, .int w2]) (rest := []) ⟨hx, hb, hml, hown, hts⟩ (z_X12_make l dC dI H.size aZ fsZ q_type f_type k_type q_length f_length k_length q_from f_from k_from q_there f_there k_there q_values f_values k_values w1 w2 (fh_sub o_fsZ.2 [0, 1, 2, 3, 4, 5, 6, 7, 8, 9] rfl) hz_f_from hz_f_values) (cwV 2 hts g_lk_9_z_X12_make_166 rfl rfl rfl (by decide +kernel) ⟨Nat.le_of_ble_eq_true rfl, Nat.le_of_ble_eq_true rfl⟩) ⟨fun a U g mk q => by obtain ⟨q0, q1, qP, qK, qD⟩ := q; exact ⟨q0, q1, qP, va_K.moved (u := U) (U := U.calling g mk a) (Vm.Alike.refl U.vm) qK, qD⟩, va_recv hK hP (ci := 15) (q0 := 0) rfl rfl, fun U hU hW => ⟨rfl, by rw [hU], by rw [hU]; exact hPc, va_K.moved hW.alike hKc, hDc.weaken (fun _ _ _ _ => trivial)⟩⟩ rfl rfl hl.1 rfl (lv_room (Nat.le_of_ble_eq_true rfl)) dL_law_723 ⟨Nat.le_of_ble_eq_true rfl, Nat.le_of_ble_eq_true rfl⟩) hS (fun q _ h => hFc q h) hFc (fun r834 u t H1 locs ht hvm hw hB hz1 hk1 hS => ?_)
      obtain ⟨s835, f836, f837, f838, f839, f840⟩ := u
      obtain ⟨hP1, hK1, hD1⟩ := hB
      rw [ht] at hP1
      try dsimp only at hw
      obtain ⟨hP, hD⟩ := va_join (wr := [(qO, .inl (kO, 1, .inr (.inl f106)))]) (w1 := [(aZ, .inr (15, s835)), (q_type, .inl (k_type, 400, .inl f836)), (q_length, .inl (k_length, 400, .inl f837)), (q_from, .inl (k_from, 400, .inl f838)), (q_there, .inl (k_there, 400, .inl f839)), (q_values, .inl (k_values, 38500, .inr (.inl f840)))]) hP hD [0, 1, 2, 3, 4, 5] [6] rfl rfl (by decide) (by decide) hk1 hFc hP1 hD1
      have hK := hK.sub (tys' := [(kO, .long), (k_type, .int), (k_length, .int), (k_from, .int), (k_there, .boolean), (k_values, .long)]) [5, 0, 1, 2, 3, 4] rfl
      generalize H1 = H at hP hS ⊢
      have hP : va_P (dC, dI) vwCl [(qO, .inl (kO, 1, .inr (.inl f106))), (aZ, .inr (15, s835)), (q_type, .inl (k_type, 400, .inl f836)), (q_length, .inl (k_length, 400, .inl f837)), (q_from, .inl (k_from, 400, .inl f838)), (q_there, .inl (k_there, 400, .inl f839)), (q_values, .inl (k_values, 38500, .inr (.inl f840)))] H := hP
      have hD : va_D A [(qO, .inl (kO, 1, .inr (.inl f106))), (aZ, .inr (15, s835)), (q_type, .inl (k_type, 400, .inl f836)), (q_length, .inl (k_length, 400, .inl f837)), (q_from, .inl (k_from, 400, .inl f838)), (q_there, .inl (k_there, 400, .inl f839)), (q_values, .inl (k_values, 38500, .inr (.inl f840)))] := hD
      rcases hw with ⟨c841, c842, c843, c844, er845, o_s835, q846, q847⟩ | ⟨c848, c849, c850, c851, c852, er853, o_s835, q854, q855⟩ | ⟨c856, c857, c858, c859, c860, er861, o_s835, q862, q863⟩ | ⟨c864, c865, c866, c867, c868, c869, c870, c871, c872, c873, c874, c875, c876, c877, c878, er879, o_s835, q880, q881, q882, q883, q884⟩ | ⟨c885, c886, c887, c888, c889, c890, er891, o_s835, q892, q893⟩ | ⟨c894, c895, c896, c897, c898, c899, er900, o_s835, q901, q902⟩ | ⟨c903, c904, c905, c906, c907, c908, c909, c910, c911, c912, c913, c914, c915, c916, c917, c918, er919, o_s835, q920, q921, q922, q923, q924⟩ | ⟨c925, c926, c927, c928, c929, c930, c931, er932, o_s835, q933, q934⟩ | ⟨c935, c936, c937, c938, c939, c940, er941, o_s835, q942, q943⟩ | ⟨c944, c945, c946, c947, c948, c949, er950, o_s835, q951, q952⟩
      · exact (by exfalso; (try simp only [i_lt, i_le, i_eq, kc_0, kc_20, kc_24, kc_29, kc_30] at c141 c142 c143 c144 c145 c146 c841 c842 c843 c844); omega)
      · exact (by exfalso; (try simp only [i_lt, i_le, i_eq, kc_0, kc_20, kc_24, kc_29, kc_30] at c141 c142 c143 c144 c145 c146 c848 c849 c850 c851 c852); omega)
      · exact (by exfalso; (try simp only [i_lt, i_le, i_eq, kc_0, kc_60] at c147 c148 c860); omega)
      · exact (by exfalso; (try simp only [i_lt, i_le, i_eq, kc_0, kc_60, kc_4000] at c147 c148 c868 c869 c872); omega)
      · exact (by exfalso; (try simp only [i_lt, i_le, i_eq, kc_0, kc_20, kc_24, kc_29] at c141 c142 c143 c144 c145 c146 c885 c886 c887 c888); omega)
      · exact (by exfalso; (try simp only [i_lt, i_le, i_eq, kc_0, kc_60] at c147 c148 c899); omega)
      · exact (by exfalso; (try simp only [i_lt, i_le, i_eq, kc_0, kc_60, kc_4000] at c147 c148 c908 c909 c912); omega)
      · skip
        subst er932
        have o_s835 := ow_on o_fsZ o_s835 (l' := [(0, .int 1), (20, .int 0), (21, .ref q_type), (22, .ref q_length), (23, .ref q_from), (24, .ref q_there), (25, .ref q_values), (26, .int 0), (27, .int 0), (28, .int 0), (20, .int 0), (21, .ref q_type), (22, .ref q_length), (23, .ref q_from), (24, .ref q_there), (25, .ref q_values), (26, .int 0), (27, .int 0), (28, .int 0)]) (w' := [0]) rfl rfl
        refine lv_istore (lv' := [(6, .int 0), (5, .int 1), (0, .ref b), (1, .ref aX), (2, .ref aZ), (3, .ref qO), (4, .int 0)]) hx hb dL_law_726 hl (by decide) rfl (fun ls hl => ?_)
        refine lv_aload_n hx hb dL_law_728 rfl (lv_at hl 4 rfl) ?_
        have hPc := hP.sub (ws' := [(aZ, .inr (15, s835))]) [1] rfl
        have hDc := hD.sub (ws' := [(aZ, .inr (15, s835))]) [1] (by decide) rfl
        have hKc := hK.sub (tys' := []) [] rfl
        have hFc := va_free (wc := [(aZ, .inr (15, s835))]) hD hS hA [1] rfl
        refine va_calli (va_runV (As := []) (rest := []) ⟨hx, hb, hml, hown, hts⟩ (z_X12_thrown l dC dI H.size aZ s835 (fh_sub o_s835.2 [0] rfl) ) (cwV 0 hts g_lk_9_z_X12_thrown_149 rfl rfl rfl (by decide +kernel) ⟨Nat.le_of_ble_eq_true rfl, Nat.le_of_ble_eq_true rfl⟩) ⟨fun a U g mk q => by obtain ⟨q0, q1, qP, qK, qD⟩ := q; exact ⟨q0, q1, qP, va_K.moved (u := U) (U := U.calling g mk a) (Vm.Alike.refl U.vm) qK, qD⟩, va_recv hK hP (ci := 15) (q0 := 1) rfl rfl, fun U hU hW => ⟨rfl, by rw [hU], by rw [hU]; exact hPc, va_K.moved hW.alike hKc, hDc.weaken (fun _ _ _ _ => trivial)⟩⟩ rfl rfl hl.1 rfl (lv_room (Nat.le_of_ble_eq_true rfl)) dL_law_729 ⟨Nat.le_of_ble_eq_true rfl, Nat.le_of_ble_eq_true rfl⟩) hS (fun q _ h => hFc q h) hFc (fun r953 u t H1 locs ht hvm hw hB hz1 hk1 hS => ?_)
        obtain ⟨hP1, hK1, hD1⟩ := hB
        rw [ht] at hP1
        try dsimp only at hw
        obtain ⟨hP, hD⟩ := va_join (wr := [(qO, .inl (kO, 1, .inr (.inl f106))), (q_type, .inl (k_type, 400, .inl f836)), (q_length, .inl (k_length, 400, .inl f837)), (q_from, .inl (k_from, 400, .inl f838)), (q_there, .inl (k_there, 400, .inl f839)), (q_values, .inl (k_values, 38500, .inr (.inl f840)))]) (w1 := [(aZ, .inr (15, s835))]) hP hD [1] [0, 2, 3, 4, 5, 6] rfl rfl (by decide) (by decide) hk1 hFc hP1 hD1
        have hK := hK.sub (tys' := [(kO, .long), (k_type, .int), (k_length, .int), (k_from, .int), (k_there, .boolean), (k_values, .long)]) [0, 1, 2, 3, 4, 5] rfl
        generalize H1 = H at hP hS ⊢
        have hP : va_P (dC, dI) vwCl [(qO, .inl (kO, 1, .inr (.inl f106))), (q_type, .inl (k_type, 400, .inl f836)), (q_length, .inl (k_length, 400, .inl f837)), (q_from, .inl (k_from, 400, .inl f838)), (q_there, .inl (k_there, 400, .inl f839)), (q_values, .inl (k_values, 38500, .inr (.inl f840))), (aZ, .inr (15, s835))] H := hP
        have hD : va_D A [(qO, .inl (kO, 1, .inr (.inl f106))), (q_type, .inl (k_type, 400, .inl f836)), (q_length, .inl (k_length, 400, .inl f837)), (q_from, .inl (k_from, 400, .inl f838)), (q_there, .inl (k_there, 400, .inl f839)), (q_values, .inl (k_values, 38500, .inr (.inl f840))), (aZ, .inr (15, s835))] := hD
        have er954 := hw
        subst er954
        refine lv_iload hx hb dL_law_732 (lv_at hl 1 rfl) ?_
        refine lv_icmp_eq (tgt := 739) hx hb dL_law_734 (by decide) (fun c955 => ?_) (fun c955 => absurd c955 (by decide))
        refine lv_iload hx hb dL_law_739 (lv_at hl 1 rfl) ?_
        refine lv_if_ne (tgt := 756) hx hb dL_law_741 (by decide) (fun c956 => ?_) (fun c956 => absurd c956 (by decide))
        refine lv_goto (tgt := 3111) hx hb dL_law_756 (by decide) ?_
        exact lw_end hst C0 hA hAf hZ hY (Nat.le_of_ble_eq_true rfl) (Nat.le_of_ble_eq_true rfl) dC dI P0k P0 D0 hS ls (lv_sub hl [2, 6] rfl)
      · exact (by exfalso; (try simp only [i_lt, i_le, i_eq, kc_0, kc_20, kc_24, kc_29, kc_30] at c141 c142 c143 c144 c145 c146 c935 c936 c937 c938 c939 c940); omega)
      · exact (by exfalso; (try simp only [i_lt, i_le, i_eq, kc_0, kc_20, kc_24, kc_29, kc_30] at c141 c142 c143 c144 c145 c146 c944 c945 c946 c947 c948 c949); omega)
    · skip
      subst er156
      refine lv_istore (lv' := [(5, .int 1), (0, .ref b), (1, .ref aX), (2, .ref aZ), (3, .ref qO), (4, .int 0)]) hx hb dL_law_708 hl (by decide) rfl (fun ls hl => ?_)
      refine lv_aload_n hx hb dL_law_710 rfl (lv_at hl 3 rfl) ?_
      refine lv_aload_n hx hb dL_law_711 rfl (lv_at hl 1 rfl) ?_
      refine lv_iload hx hb dL_law_712 (lv_at hl 5 rfl) ?_
      refine lv_iconst (v := 1) hx hb dL_law_714 (by decide) ?_
      refine lv_iadd hx hb dL_law_715  ?_
      refine lv_topi (fun x957 ex957 => ?_)
      obtain rfl : x957 = 1 := ex957.trans (by decide)
      refine va_sld hx hb hX hbl hbA hS (show vp_in 1 6 from by unfold vp_in; decide) dL_law_716 ?_
      refine lv_topi (fun x958 ex958 => ?_)
      obtain rfl : w1 = x958 := hw1.trans ex958.symm
      refine lv_aload_n hx hb dL_law_717 rfl (lv_at hl 1 rfl) ?_
      refine lv_iload hx hb dL_law_718 (lv_at hl 5 rfl) ?_
      refine lv_iconst (v := 2) hx hb dL_law_720 (by decide) ?_
      refine lv_iadd hx hb dL_law_721  ?_
      refine lv_topi (fun x959 ex959 => ?_)
      obtain rfl : x959 = 2 := ex959.trans (by decide)
      refine va_sld hx hb hX hbl hbA hS (show vp_in 2 6 from by unfold vp_in; decide) dL_law_722 ?_
      refine lv_topi (fun x960 ex960 => ?_)
      obtain rfl : w2 = x960 := hw2.trans ex960.symm
      have hPc := hP.sub (ws' := [(aZ, .inr (15, fsZ)), (q_type, .inl (k_type, 400, .inl f_type)), (q_length, .inl (k_length, 400, .inl f_length)), (q_from, .inl (k_from, 400, .inl f_from)), (q_there, .inl (k_there, 400, .inl f_there)), (q_values, .inl (k_values, 38500, .inr (.inl f_values)))]) [0, 1, 2, 3, 4, 5] rfl
      have hDc := hD.sub (ws' := [(aZ, .inr (15, fsZ)), (q_type, .inl (k_type, 400, .inl f_type)), (q_length, .inl (k_length, 400, .inl f_length)), (q_from, .inl (k_from, 400, .inl f_from)), (q_there, .inl (k_there, 400, .inl f_there)), (q_values, .inl (k_values, 38500, .inr (.inl f_values)))]) [0, 1, 2, 3, 4, 5] (by decide) rfl
      have hKc := hK.sub (tys' := [(k_type, .int), (k_length, .int), (k_from, .int), (k_there, .boolean), (k_values, .long)]) [0, 1, 2, 3, 4] rfl
      have hFc := va_free (wc := [(aZ, .inr (15, fsZ)), (q_type, .inl (k_type, 400, .inl f_type)), (q_length, .inl (k_length, 400, .inl f_length)), (q_from, .inl (k_from, 400, .inl f_from)), (q_there, .inl (k_there, 400, .inl f_there)), (q_values, .inl (k_values, 38500, .inr (.inl f_values)))]) hD hS hA [0, 1, 2, 3, 4, 5] rfl
      refine va_calli (va_runV (As := [.int w1, .int w2]) (rest := []) ⟨hx, hb, hml, hown, hts⟩ (z_X12_make l dC dI H.size aZ fsZ q_type f_type k_type q_length f_length k_length q_from f_from k_from q_there f_there k_there q_values f_values k_values w1 w2 (fh_sub o_fsZ.2 [0, 1, 2, 3, 4, 5, 6, 7, 8, 9] rfl) hz_f_from hz_f_values) (cwV 2 hts g_lk_9_z_X12_make_166 rfl rfl rfl (by decide +kernel) ⟨Nat.le_of_ble_eq_true rfl, Nat.le_of_ble_eq_true rfl⟩) ⟨fun a U g mk q => by obtain ⟨q0, q1, qP, qK, qD⟩ := q; exact ⟨q0, q1, qP, va_K.moved (u := U) (U := U.calling g mk a) (Vm.Alike.refl U.vm) qK, qD⟩, va_recv hK hP (ci := 15) (q0 := 0) rfl rfl, fun U hU hW => ⟨rfl, by rw [hU], by rw [hU]; exact hPc, va_K.moved hW.alike hKc, hDc.weaken (fun _ _ _ _ => trivial)⟩⟩ rfl rfl hl.1 rfl (lv_room (Nat.le_of_ble_eq_true rfl)) dL_law_723 ⟨Nat.le_of_ble_eq_true rfl, Nat.le_of_ble_eq_true rfl⟩) hS (fun q _ h => hFc q h) hFc (fun r961 u t H1 locs ht hvm hw hB hz1 hk1 hS => ?_)
      obtain ⟨s962, f963, f964, f965, f966, f967⟩ := u
      obtain ⟨hP1, hK1, hD1⟩ := hB
      rw [ht] at hP1
      try dsimp only at hw
      obtain ⟨hP, hD⟩ := va_join (wr := [(qO, .inl (kO, 1, .inr (.inl f106)))]) (w1 := [(aZ, .inr (15, s962)), (q_type, .inl (k_type, 400, .inl f963)), (q_length, .inl (k_length, 400, .inl f964)), (q_from, .inl (k_from, 400, .inl f965)), (q_there, .inl (k_there, 400, .inl f966)), (q_values, .inl (k_values, 38500, .inr (.inl f967)))]) hP hD [0, 1, 2, 3, 4, 5] [6] rfl rfl (by decide) (by decide) hk1 hFc hP1 hD1
      have hK := hK.sub (tys' := [(kO, .long), (k_type, .int), (k_length, .int), (k_from, .int), (k_there, .boolean), (k_values, .long)]) [5, 0, 1, 2, 3, 4] rfl
      generalize H1 = H at hP hS ⊢
      have hP : va_P (dC, dI) vwCl [(qO, .inl (kO, 1, .inr (.inl f106))), (aZ, .inr (15, s962)), (q_type, .inl (k_type, 400, .inl f963)), (q_length, .inl (k_length, 400, .inl f964)), (q_from, .inl (k_from, 400, .inl f965)), (q_there, .inl (k_there, 400, .inl f966)), (q_values, .inl (k_values, 38500, .inr (.inl f967)))] H := hP
      have hD : va_D A [(qO, .inl (kO, 1, .inr (.inl f106))), (aZ, .inr (15, s962)), (q_type, .inl (k_type, 400, .inl f963)), (q_length, .inl (k_length, 400, .inl f964)), (q_from, .inl (k_from, 400, .inl f965)), (q_there, .inl (k_there, 400, .inl f966)), (q_values, .inl (k_values, 38500, .inr (.inl f967)))] := hD
      rcases hw with ⟨c968, c969, c970, c971, er972, o_s962, q973, q974⟩ | ⟨c975, c976, c977, c978, c979, er980, o_s962, q981, q982⟩ | ⟨c983, c984, c985, c986, c987, er988, o_s962, q989, q990⟩ | ⟨c991, c992, c993, c994, c995, c996, c997, c998, c999, c1000, c1001, c1002, c1003, c1004, c1005, er1006, o_s962, q1007, q1008, q1009, q1010, q1011⟩ | ⟨c1012, c1013, c1014, c1015, c1016, c1017, er1018, o_s962, q1019, q1020⟩ | ⟨c1021, c1022, c1023, c1024, c1025, c1026, er1027, o_s962, q1028, q1029⟩ | ⟨c1030, c1031, c1032, c1033, c1034, c1035, c1036, c1037, c1038, c1039, c1040, c1041, c1042, c1043, c1044, c1045, er1046, o_s962, q1047, q1048, q1049, q1050, q1051⟩ | ⟨c1052, c1053, c1054, c1055, c1056, c1057, c1058, er1059, o_s962, q1060, q1061⟩ | ⟨c1062, c1063, c1064, c1065, c1066, c1067, er1068, o_s962, q1069, q1070⟩ | ⟨c1071, c1072, c1073, c1074, c1075, c1076, er1077, o_s962, q1078, q1079⟩
      · exact (by exfalso; (try simp only [i_lt, i_le, i_eq, kc_0, kc_20, kc_24, kc_29, kc_30] at c150 c151 c152 c153 c154 c155 c968 c969 c970 c971); omega)
      · exact (by exfalso; (try simp only [i_lt, i_le, i_eq, kc_0, kc_20, kc_24, kc_29, kc_30] at c150 c151 c152 c153 c154 c155 c975 c976 c977 c978 c979); omega)
      · exact (by exfalso; (try simp only [i_lt, i_le, i_eq, kc_0, kc_20, kc_24, kc_29, kc_30] at c150 c151 c152 c153 c154 c155 c983 c984 c985 c986); omega)
      · exact (by exfalso; (try simp only [i_lt, i_le, i_eq, kc_0, kc_20, kc_24, kc_29, kc_30] at c150 c151 c152 c153 c154 c155 c991 c992 c993 c994 c997 c998 c1000 c1001 c1002 c1003 c1004 c1005); omega)
      · exact (by exfalso; (try simp only [i_lt, i_le, i_eq, kc_0, kc_20, kc_24, kc_29, kc_30] at c150 c151 c152 c153 c154 c155 c1012 c1013 c1014 c1015); omega)
      · skip
        subst er1027
        have o_s962 := ow_on o_fsZ o_s962 (l' := [(0, .int 1), (20, .int 0), (21, .ref q_type), (22, .ref q_length), (23, .ref q_from), (24, .ref q_there), (25, .ref q_values), (26, .int 0), (27, .int 0), (28, .int 0), (20, .int 0), (21, .ref q_type), (22, .ref q_length), (23, .ref q_from), (24, .ref q_there), (25, .ref q_values), (26, .int 0), (27, .int 0), (28, .int 0)]) (w' := [0]) rfl rfl
        refine lv_istore (lv' := [(6, .int 0), (5, .int 1), (0, .ref b), (1, .ref aX), (2, .ref aZ), (3, .ref qO), (4, .int 0)]) hx hb dL_law_726 hl (by decide) rfl (fun ls hl => ?_)
        refine lv_aload_n hx hb dL_law_728 rfl (lv_at hl 4 rfl) ?_
        have hPc := hP.sub (ws' := [(aZ, .inr (15, s962))]) [1] rfl
        have hDc := hD.sub (ws' := [(aZ, .inr (15, s962))]) [1] (by decide) rfl
        have hKc := hK.sub (tys' := []) [] rfl
        have hFc := va_free (wc := [(aZ, .inr (15, s962))]) hD hS hA [1] rfl
        refine va_calli (va_runV (As := []) (rest := []) ⟨hx, hb, hml, hown, hts⟩ (z_X12_thrown l dC dI H.size aZ s962 (fh_sub o_s962.2 [0] rfl) ) (cwV 0 hts g_lk_9_z_X12_thrown_149 rfl rfl rfl (by decide +kernel) ⟨Nat.le_of_ble_eq_true rfl, Nat.le_of_ble_eq_true rfl⟩) ⟨fun a U g mk q => by obtain ⟨q0, q1, qP, qK, qD⟩ := q; exact ⟨q0, q1, qP, va_K.moved (u := U) (U := U.calling g mk a) (Vm.Alike.refl U.vm) qK, qD⟩, va_recv hK hP (ci := 15) (q0 := 1) rfl rfl, fun U hU hW => ⟨rfl, by rw [hU], by rw [hU]; exact hPc, va_K.moved hW.alike hKc, hDc.weaken (fun _ _ _ _ => trivial)⟩⟩ rfl rfl hl.1 rfl (lv_room (Nat.le_of_ble_eq_true rfl)) dL_law_729 ⟨Nat.le_of_ble_eq_true rfl, Nat.le_of_ble_eq_true rfl⟩) hS (fun q _ h => hFc q h) hFc (fun r1080 u t H1 locs ht hvm hw hB hz1 hk1 hS => ?_)
        obtain ⟨hP1, hK1, hD1⟩ := hB
        rw [ht] at hP1
        try dsimp only at hw
        obtain ⟨hP, hD⟩ := va_join (wr := [(qO, .inl (kO, 1, .inr (.inl f106))), (q_type, .inl (k_type, 400, .inl f963)), (q_length, .inl (k_length, 400, .inl f964)), (q_from, .inl (k_from, 400, .inl f965)), (q_there, .inl (k_there, 400, .inl f966)), (q_values, .inl (k_values, 38500, .inr (.inl f967)))]) (w1 := [(aZ, .inr (15, s962))]) hP hD [1] [0, 2, 3, 4, 5, 6] rfl rfl (by decide) (by decide) hk1 hFc hP1 hD1
        have hK := hK.sub (tys' := [(kO, .long), (k_type, .int), (k_length, .int), (k_from, .int), (k_there, .boolean), (k_values, .long)]) [0, 1, 2, 3, 4, 5] rfl
        generalize H1 = H at hP hS ⊢
        have hP : va_P (dC, dI) vwCl [(qO, .inl (kO, 1, .inr (.inl f106))), (q_type, .inl (k_type, 400, .inl f963)), (q_length, .inl (k_length, 400, .inl f964)), (q_from, .inl (k_from, 400, .inl f965)), (q_there, .inl (k_there, 400, .inl f966)), (q_values, .inl (k_values, 38500, .inr (.inl f967))), (aZ, .inr (15, s962))] H := hP
        have hD : va_D A [(qO, .inl (kO, 1, .inr (.inl f106))), (q_type, .inl (k_type, 400, .inl f963)), (q_length, .inl (k_length, 400, .inl f964)), (q_from, .inl (k_from, 400, .inl f965)), (q_there, .inl (k_there, 400, .inl f966)), (q_values, .inl (k_values, 38500, .inr (.inl f967))), (aZ, .inr (15, s962))] := hD
        have er1081 := hw
        subst er1081
        refine lv_iload hx hb dL_law_732 (lv_at hl 1 rfl) ?_
        refine lv_icmp_eq (tgt := 739) hx hb dL_law_734 (by decide) (fun c1082 => ?_) (fun c1082 => absurd c1082 (by decide))
        refine lv_iload hx hb dL_law_739 (lv_at hl 1 rfl) ?_
        refine lv_if_ne (tgt := 756) hx hb dL_law_741 (by decide) (fun c1083 => ?_) (fun c1083 => absurd c1083 (by decide))
        refine lv_goto (tgt := 3111) hx hb dL_law_756 (by decide) ?_
        exact lw_end hst C0 hA hAf hZ hY (Nat.le_of_ble_eq_true rfl) (Nat.le_of_ble_eq_true rfl) dC dI P0k P0 D0 hS ls (lv_sub hl [2, 6] rfl)
      · skip
        subst er1046
        have o_s962 := ow_on o_fsZ o_s962 (l' := [(28, .int w2), (27, .int w2), (26, .int 1), (20, .int 0), (21, .ref q_type), (22, .ref q_length), (23, .ref q_from), (24, .ref q_there), (25, .ref q_values), (0, .int 0), (20, .int 0), (21, .ref q_type), (22, .ref q_length), (23, .ref q_from), (24, .ref q_there), (25, .ref q_values), (20, .int 0), (21, .ref q_type), (22, .ref q_length), (23, .ref q_from), (24, .ref q_there), (25, .ref q_values)]) (w' := [28, 27, 26, 0]) rfl rfl
        refine lv_istore (lv' := [(6, .int 0), (5, .int 1), (0, .ref b), (1, .ref aX), (2, .ref aZ), (3, .ref qO), (4, .int 0)]) hx hb dL_law_726 hl (by decide) rfl (fun ls hl => ?_)
        refine lv_aload_n hx hb dL_law_728 rfl (lv_at hl 4 rfl) ?_
        have hPc := hP.sub (ws' := [(aZ, .inr (15, s962))]) [1] rfl
        have hDc := hD.sub (ws' := [(aZ, .inr (15, s962))]) [1] (by decide) rfl
        have hKc := hK.sub (tys' := []) [] rfl
        have hFc := va_free (wc := [(aZ, .inr (15, s962))]) hD hS hA [1] rfl
        refine va_calli (va_runV (As := []) (rest := []) ⟨hx, hb, hml, hown, hts⟩ (z_X12_thrown_2 l dC dI H.size aZ s962 (fh_sub o_s962.2 [9] rfl) ) (cwV 0 hts g_lk_9_z_X12_thrown_2_149 rfl rfl rfl (by decide +kernel) ⟨Nat.le_of_ble_eq_true rfl, Nat.le_of_ble_eq_true rfl⟩) ⟨fun a U g mk q => by obtain ⟨q0, q1, qP, qK, qD⟩ := q; exact ⟨q0, q1, qP, va_K.moved (u := U) (U := U.calling g mk a) (Vm.Alike.refl U.vm) qK, qD⟩, va_recv hK hP (ci := 15) (q0 := 1) rfl rfl, fun U hU hW => ⟨rfl, by rw [hU], by rw [hU]; exact hPc, va_K.moved hW.alike hKc, hDc.weaken (fun _ _ _ _ => trivial)⟩⟩ rfl rfl hl.1 rfl (lv_room (Nat.le_of_ble_eq_true rfl)) dL_law_729 ⟨Nat.le_of_ble_eq_true rfl, Nat.le_of_ble_eq_true rfl⟩) hS (fun q _ h => hFc q h) hFc (fun r1084 u t H1 locs ht hvm hw hB hz1 hk1 hS => ?_)
        obtain ⟨hP1, hK1, hD1⟩ := hB
        rw [ht] at hP1
        try dsimp only at hw
        obtain ⟨hP, hD⟩ := va_join (wr := [(qO, .inl (kO, 1, .inr (.inl f106))), (q_type, .inl (k_type, 400, .inl f963)), (q_length, .inl (k_length, 400, .inl f964)), (q_from, .inl (k_from, 400, .inl f965)), (q_there, .inl (k_there, 400, .inl f966)), (q_values, .inl (k_values, 38500, .inr (.inl f967)))]) (w1 := [(aZ, .inr (15, s962))]) hP hD [1] [0, 2, 3, 4, 5, 6] rfl rfl (by decide) (by decide) hk1 hFc hP1 hD1
        have hK := hK.sub (tys' := [(kO, .long), (k_type, .int), (k_length, .int), (k_from, .int), (k_there, .boolean), (k_values, .long)]) [0, 1, 2, 3, 4, 5] rfl
        generalize H1 = H at hP hS ⊢
        have hP : va_P (dC, dI) vwCl [(qO, .inl (kO, 1, .inr (.inl f106))), (q_type, .inl (k_type, 400, .inl f963)), (q_length, .inl (k_length, 400, .inl f964)), (q_from, .inl (k_from, 400, .inl f965)), (q_there, .inl (k_there, 400, .inl f966)), (q_values, .inl (k_values, 38500, .inr (.inl f967))), (aZ, .inr (15, s962))] H := hP
        have hD : va_D A [(qO, .inl (kO, 1, .inr (.inl f106))), (q_type, .inl (k_type, 400, .inl f963)), (q_length, .inl (k_length, 400, .inl f964)), (q_from, .inl (k_from, 400, .inl f965)), (q_there, .inl (k_there, 400, .inl f966)), (q_values, .inl (k_values, 38500, .inr (.inl f967))), (aZ, .inr (15, s962))] := hD
        have er1085 := hw
        subst er1085
        refine lv_iload hx hb dL_law_732 (lv_at hl 1 rfl) ?_
        refine lv_icmp_eq (tgt := 739) hx hb dL_law_734 (by decide) (fun c1086 => absurd c1086 (by decide)) (fun c1086 => ?_)
        refine lv_iconst (v := 0) hx hb dL_law_737 (by decide) ?_
        exact (by exfalso; (try simp only [i_lt, i_le, i_eq, kc_0, kc_20, kc_24, kc_29, kc_30, kc_60, kc_4000] at c150 c151 c152 c153 c154 c155 c1030 c1031 c1032 c1033 c1034 c1035 c1036 c1037 c1038 c1039 c1040 c1041 c1042 c1043 c1044 c1045) <;> omega)
      · skip
        subst er1059
        have o_s962 := ow_on o_fsZ o_s962 (l' := [(0, .int 1), (20, .int 0), (21, .ref q_type), (22, .ref q_length), (23, .ref q_from), (24, .ref q_there), (25, .ref q_values), (26, .int 0), (27, .int 0), (28, .int 0), (20, .int 0), (21, .ref q_type), (22, .ref q_length), (23, .ref q_from), (24, .ref q_there), (25, .ref q_values), (26, .int 0), (27, .int 0), (28, .int 0)]) (w' := [0]) rfl rfl
        refine lv_istore (lv' := [(6, .int 0), (5, .int 1), (0, .ref b), (1, .ref aX), (2, .ref aZ), (3, .ref qO), (4, .int 0)]) hx hb dL_law_726 hl (by decide) rfl (fun ls hl => ?_)
        refine lv_aload_n hx hb dL_law_728 rfl (lv_at hl 4 rfl) ?_
        have hPc := hP.sub (ws' := [(aZ, .inr (15, s962))]) [1] rfl
        have hDc := hD.sub (ws' := [(aZ, .inr (15, s962))]) [1] (by decide) rfl
        have hKc := hK.sub (tys' := []) [] rfl
        have hFc := va_free (wc := [(aZ, .inr (15, s962))]) hD hS hA [1] rfl
        refine va_calli (va_runV (As := []) (rest := []) ⟨hx, hb, hml, hown, hts⟩ (z_X12_thrown l dC dI H.size aZ s962 (fh_sub o_s962.2 [0] rfl) ) (cwV 0 hts g_lk_9_z_X12_thrown_149 rfl rfl rfl (by decide +kernel) ⟨Nat.le_of_ble_eq_true rfl, Nat.le_of_ble_eq_true rfl⟩) ⟨fun a U g mk q => by obtain ⟨q0, q1, qP, qK, qD⟩ := q; exact ⟨q0, q1, qP, va_K.moved (u := U) (U := U.calling g mk a) (Vm.Alike.refl U.vm) qK, qD⟩, va_recv hK hP (ci := 15) (q0 := 1) rfl rfl, fun U hU hW => ⟨rfl, by rw [hU], by rw [hU]; exact hPc, va_K.moved hW.alike hKc, hDc.weaken (fun _ _ _ _ => trivial)⟩⟩ rfl rfl hl.1 rfl (lv_room (Nat.le_of_ble_eq_true rfl)) dL_law_729 ⟨Nat.le_of_ble_eq_true rfl, Nat.le_of_ble_eq_true rfl⟩) hS (fun q _ h => hFc q h) hFc (fun r1087 u t H1 locs ht hvm hw hB hz1 hk1 hS => ?_)
        obtain ⟨hP1, hK1, hD1⟩ := hB
        rw [ht] at hP1
        try dsimp only at hw
        obtain ⟨hP, hD⟩ := va_join (wr := [(qO, .inl (kO, 1, .inr (.inl f106))), (q_type, .inl (k_type, 400, .inl f963)), (q_length, .inl (k_length, 400, .inl f964)), (q_from, .inl (k_from, 400, .inl f965)), (q_there, .inl (k_there, 400, .inl f966)), (q_values, .inl (k_values, 38500, .inr (.inl f967)))]) (w1 := [(aZ, .inr (15, s962))]) hP hD [1] [0, 2, 3, 4, 5, 6] rfl rfl (by decide) (by decide) hk1 hFc hP1 hD1
        have hK := hK.sub (tys' := [(kO, .long), (k_type, .int), (k_length, .int), (k_from, .int), (k_there, .boolean), (k_values, .long)]) [0, 1, 2, 3, 4, 5] rfl
        generalize H1 = H at hP hS ⊢
        have hP : va_P (dC, dI) vwCl [(qO, .inl (kO, 1, .inr (.inl f106))), (q_type, .inl (k_type, 400, .inl f963)), (q_length, .inl (k_length, 400, .inl f964)), (q_from, .inl (k_from, 400, .inl f965)), (q_there, .inl (k_there, 400, .inl f966)), (q_values, .inl (k_values, 38500, .inr (.inl f967))), (aZ, .inr (15, s962))] H := hP
        have hD : va_D A [(qO, .inl (kO, 1, .inr (.inl f106))), (q_type, .inl (k_type, 400, .inl f963)), (q_length, .inl (k_length, 400, .inl f964)), (q_from, .inl (k_from, 400, .inl f965)), (q_there, .inl (k_there, 400, .inl f966)), (q_values, .inl (k_values, 38500, .inr (.inl f967))), (aZ, .inr (15, s962))] := hD
        have er1088 := hw
        subst er1088
        refine lv_iload hx hb dL_law_732 (lv_at hl 1 rfl) ?_
        refine lv_icmp_eq (tgt := 739) hx hb dL_law_734 (by decide) (fun c1089 => ?_) (fun c1089 => absurd c1089 (by decide))
        refine lv_iload hx hb dL_law_739 (lv_at hl 1 rfl) ?_
        refine lv_if_ne (tgt := 756) hx hb dL_law_741 (by decide) (fun c1090 => ?_) (fun c1090 => absurd c1090 (by decide))
        refine lv_goto (tgt := 3111) hx hb dL_law_756 (by decide) ?_
        exact lw_end hst C0 hA hAf hZ hY (Nat.le_of_ble_eq_true rfl) (Nat.le_of_ble_eq_true rfl) dC dI P0k P0 D0 hS ls (lv_sub hl [2, 6] rfl)
      · skip
        subst er1068
        have o_s962 := ow_on o_fsZ o_s962 (l' := [(0, .int 1), (20, .int 0), (21, .ref q_type), (22, .ref q_length), (23, .ref q_from), (24, .ref q_there), (25, .ref q_values), (26, .int 0), (27, .int 0), (28, .int 0), (20, .int 0), (21, .ref q_type), (22, .ref q_length), (23, .ref q_from), (24, .ref q_there), (25, .ref q_values), (26, .int 0), (27, .int 0), (28, .int 0)]) (w' := [0]) rfl rfl
        refine lv_istore (lv' := [(6, .int 0), (5, .int 1), (0, .ref b), (1, .ref aX), (2, .ref aZ), (3, .ref qO), (4, .int 0)]) hx hb dL_law_726 hl (by decide) rfl (fun ls hl => ?_)
        refine lv_aload_n hx hb dL_law_728 rfl (lv_at hl 4 rfl) ?_
        have hPc := hP.sub (ws' := [(aZ, .inr (15, s962))]) [1] rfl
        have hDc := hD.sub (ws' := [(aZ, .inr (15, s962))]) [1] (by decide) rfl
        have hKc := hK.sub (tys' := []) [] rfl
        have hFc := va_free (wc := [(aZ, .inr (15, s962))]) hD hS hA [1] rfl
        refine va_calli (va_runV (As := []) (rest := []) ⟨hx, hb, hml, hown, hts⟩ (z_X12_thrown l dC dI H.size aZ s962 (fh_sub o_s962.2 [0] rfl) ) (cwV 0 hts g_lk_9_z_X12_thrown_149 rfl rfl rfl (by decide +kernel) ⟨Nat.le_of_ble_eq_true rfl, Nat.le_of_ble_eq_true rfl⟩) ⟨fun a U g mk q => by obtain ⟨q0, q1, qP, qK, qD⟩ := q; exact ⟨q0, q1, qP, va_K.moved (u := U) (U := U.calling g mk a) (Vm.Alike.refl U.vm) qK, qD⟩, va_recv hK hP (ci := 15) (q0 := 1) rfl rfl, fun U hU hW => ⟨rfl, by rw [hU], by rw [hU]; exact hPc, va_K.moved hW.alike hKc, hDc.weaken (fun _ _ _ _ => trivial)⟩⟩ rfl rfl hl.1 rfl (lv_room (Nat.le_of_ble_eq_true rfl)) dL_law_729 ⟨Nat.le_of_ble_eq_true rfl, Nat.le_of_ble_eq_true rfl⟩) hS (fun q _ h => hFc q h) hFc (fun r1091 u t H1 locs ht hvm hw hB hz1 hk1 hS => ?_)
        obtain ⟨hP1, hK1, hD1⟩ := hB
        rw [ht] at hP1
        try dsimp only at hw
        obtain ⟨hP, hD⟩ := va_join (wr := [(qO, .inl (kO, 1, .inr (.inl f106))), (q_type, .inl (k_type, 400, .inl f963)), (q_length, .inl (k_length, 400, .inl f964)), (q_from, .inl (k_from, 400, .inl f965)), (q_there, .inl (k_there, 400, .inl f966)), (q_values, .inl (k_values, 38500, .inr (.inl f967)))]) (w1 := [(aZ, .inr (15, s962))]) hP hD [1] [0, 2, 3, 4, 5, 6] rfl rfl (by decide) (by decide) hk1 hFc hP1 hD1
        have hK := hK.sub (tys' := [(kO, .long), (k_type, .int), (k_length, .int), (k_from, .int), (k_there, .boolean), (k_values, .long)]) [0, 1, 2, 3, 4, 5] rfl
        generalize H1 = H at hP hS ⊢
        have hP : va_P (dC, dI) vwCl [(qO, .inl (kO, 1, .inr (.inl f106))), (q_type, .inl (k_type, 400, .inl f963)), (q_length, .inl (k_length, 400, .inl f964)), (q_from, .inl (k_from, 400, .inl f965)), (q_there, .inl (k_there, 400, .inl f966)), (q_values, .inl (k_values, 38500, .inr (.inl f967))), (aZ, .inr (15, s962))] H := hP
        have hD : va_D A [(qO, .inl (kO, 1, .inr (.inl f106))), (q_type, .inl (k_type, 400, .inl f963)), (q_length, .inl (k_length, 400, .inl f964)), (q_from, .inl (k_from, 400, .inl f965)), (q_there, .inl (k_there, 400, .inl f966)), (q_values, .inl (k_values, 38500, .inr (.inl f967))), (aZ, .inr (15, s962))] := hD
        have er1092 := hw
        subst er1092
        refine lv_iload hx hb dL_law_732 (lv_at hl 1 rfl) ?_
        refine lv_icmp_eq (tgt := 739) hx hb dL_law_734 (by decide) (fun c1093 => ?_) (fun c1093 => absurd c1093 (by decide))
        refine lv_iload hx hb dL_law_739 (lv_at hl 1 rfl) ?_
        refine lv_if_ne (tgt := 756) hx hb dL_law_741 (by decide) (fun c1094 => ?_) (fun c1094 => absurd c1094 (by decide))
        refine lv_goto (tgt := 3111) hx hb dL_law_756 (by decide) ?_
        exact lw_end hst C0 hA hAf hZ hY (Nat.le_of_ble_eq_true rfl) (Nat.le_of_ble_eq_true rfl) dC dI P0k P0 D0 hS ls (lv_sub hl [2, 6] rfl)
      · exact (by exfalso; (try simp only [i_lt, i_le, i_eq, kc_0, kc_20, kc_24, kc_29, kc_30] at c150 c151 c152 c153 c154 c155 c1071 c1072 c1073 c1074 c1075 c1076); omega)
    · skip
      subst er163
      refine lv_istore (lv' := [(5, .int 1), (0, .ref b), (1, .ref aX), (2, .ref aZ), (3, .ref qO), (4, .int 0)]) hx hb dL_law_708 hl (by decide) rfl (fun ls hl => ?_)
      refine lv_aload_n hx hb dL_law_710 rfl (lv_at hl 3 rfl) ?_
      refine lv_aload_n hx hb dL_law_711 rfl (lv_at hl 1 rfl) ?_
      refine lv_iload hx hb dL_law_712 (lv_at hl 5 rfl) ?_
      refine lv_iconst (v := 1) hx hb dL_law_714 (by decide) ?_
      refine lv_iadd hx hb dL_law_715  ?_
      refine lv_topi (fun x1095 ex1095 => ?_)
      obtain rfl : x1095 = 1 := ex1095.trans (by decide)
      refine va_sld hx hb hX hbl hbA hS (show vp_in 1 6 from by unfold vp_in; decide) dL_law_716 ?_
      refine lv_topi (fun x1096 ex1096 => ?_)
      obtain rfl : w1 = x1096 := hw1.trans ex1096.symm
      refine lv_aload_n hx hb dL_law_717 rfl (lv_at hl 1 rfl) ?_
      refine lv_iload hx hb dL_law_718 (lv_at hl 5 rfl) ?_
      refine lv_iconst (v := 2) hx hb dL_law_720 (by decide) ?_
      refine lv_iadd hx hb dL_law_721  ?_
      refine lv_topi (fun x1097 ex1097 => ?_)
      obtain rfl : x1097 = 2 := ex1097.trans (by decide)
      refine va_sld hx hb hX hbl hbA hS (show vp_in 2 6 from by unfold vp_in; decide) dL_law_722 ?_
      refine lv_topi (fun x1098 ex1098 => ?_)
      obtain rfl : w2 = x1098 := hw2.trans ex1098.symm
      have hPc := hP.sub (ws' := [(aZ, .inr (15, fsZ)), (q_type, .inl (k_type, 400, .inl f_type)), (q_length, .inl (k_length, 400, .inl f_length)), (q_from, .inl (k_from, 400, .inl f_from)), (q_there, .inl (k_there, 400, .inl f_there)), (q_values, .inl (k_values, 38500, .inr (.inl f_values)))]) [0, 1, 2, 3, 4, 5] rfl
      have hDc := hD.sub (ws' := [(aZ, .inr (15, fsZ)), (q_type, .inl (k_type, 400, .inl f_type)), (q_length, .inl (k_length, 400, .inl f_length)), (q_from, .inl (k_from, 400, .inl f_from)), (q_there, .inl (k_there, 400, .inl f_there)), (q_values, .inl (k_values, 38500, .inr (.inl f_values)))]) [0, 1, 2, 3, 4, 5] (by decide) rfl
      have hKc := hK.sub (tys' := [(k_type, .int), (k_length, .int), (k_from, .int), (k_there, .boolean), (k_values, .long)]) [0, 1, 2, 3, 4] rfl
      have hFc := va_free (wc := [(aZ, .inr (15, fsZ)), (q_type, .inl (k_type, 400, .inl f_type)), (q_length, .inl (k_length, 400, .inl f_length)), (q_from, .inl (k_from, 400, .inl f_from)), (q_there, .inl (k_there, 400, .inl f_there)), (q_values, .inl (k_values, 38500, .inr (.inl f_values)))]) hD hS hA [0, 1, 2, 3, 4, 5] rfl
      refine va_calli (va_runV (As := [.int w1, .int w2]) (rest := []) ⟨hx, hb, hml, hown, hts⟩ (z_X12_make l dC dI H.size aZ fsZ q_type f_type k_type q_length f_length k_length q_from f_from k_from q_there f_there k_there q_values f_values k_values w1 w2 (fh_sub o_fsZ.2 [0, 1, 2, 3, 4, 5, 6, 7, 8, 9] rfl) hz_f_from hz_f_values) (cwV 2 hts g_lk_9_z_X12_make_166 rfl rfl rfl (by decide +kernel) ⟨Nat.le_of_ble_eq_true rfl, Nat.le_of_ble_eq_true rfl⟩) ⟨fun a U g mk q => by obtain ⟨q0, q1, qP, qK, qD⟩ := q; exact ⟨q0, q1, qP, va_K.moved (u := U) (U := U.calling g mk a) (Vm.Alike.refl U.vm) qK, qD⟩, va_recv hK hP (ci := 15) (q0 := 0) rfl rfl, fun U hU hW => ⟨rfl, by rw [hU], by rw [hU]; exact hPc, va_K.moved hW.alike hKc, hDc.weaken (fun _ _ _ _ => trivial)⟩⟩ rfl rfl hl.1 rfl (lv_room (Nat.le_of_ble_eq_true rfl)) dL_law_723 ⟨Nat.le_of_ble_eq_true rfl, Nat.le_of_ble_eq_true rfl⟩) hS (fun q _ h => hFc q h) hFc (fun r1099 u t H1 locs ht hvm hw hB hz1 hk1 hS => ?_)
      obtain ⟨s1100, f1101, f1102, f1103, f1104, f1105⟩ := u
      obtain ⟨hP1, hK1, hD1⟩ := hB
      rw [ht] at hP1
      try dsimp only at hw
      obtain ⟨hP, hD⟩ := va_join (wr := [(qO, .inl (kO, 1, .inr (.inl f106)))]) (w1 := [(aZ, .inr (15, s1100)), (q_type, .inl (k_type, 400, .inl f1101)), (q_length, .inl (k_length, 400, .inl f1102)), (q_from, .inl (k_from, 400, .inl f1103)), (q_there, .inl (k_there, 400, .inl f1104)), (q_values, .inl (k_values, 38500, .inr (.inl f1105)))]) hP hD [0, 1, 2, 3, 4, 5] [6] rfl rfl (by decide) (by decide) hk1 hFc hP1 hD1
      have hK := hK.sub (tys' := [(kO, .long), (k_type, .int), (k_length, .int), (k_from, .int), (k_there, .boolean), (k_values, .long)]) [5, 0, 1, 2, 3, 4] rfl
      generalize H1 = H at hP hS ⊢
      have hP : va_P (dC, dI) vwCl [(qO, .inl (kO, 1, .inr (.inl f106))), (aZ, .inr (15, s1100)), (q_type, .inl (k_type, 400, .inl f1101)), (q_length, .inl (k_length, 400, .inl f1102)), (q_from, .inl (k_from, 400, .inl f1103)), (q_there, .inl (k_there, 400, .inl f1104)), (q_values, .inl (k_values, 38500, .inr (.inl f1105)))] H := hP
      have hD : va_D A [(qO, .inl (kO, 1, .inr (.inl f106))), (aZ, .inr (15, s1100)), (q_type, .inl (k_type, 400, .inl f1101)), (q_length, .inl (k_length, 400, .inl f1102)), (q_from, .inl (k_from, 400, .inl f1103)), (q_there, .inl (k_there, 400, .inl f1104)), (q_values, .inl (k_values, 38500, .inr (.inl f1105)))] := hD
      rcases hw with ⟨c1106, c1107, c1108, c1109, er1110, o_s1100, q1111, q1112⟩ | ⟨c1113, c1114, c1115, c1116, c1117, er1118, o_s1100, q1119, q1120⟩ | ⟨c1121, c1122, c1123, c1124, c1125, er1126, o_s1100, q1127, q1128⟩ | ⟨c1129, c1130, c1131, c1132, c1133, c1134, c1135, c1136, c1137, c1138, c1139, c1140, c1141, c1142, c1143, er1144, o_s1100, q1145, q1146, q1147, q1148, q1149⟩ | ⟨c1150, c1151, c1152, c1153, c1154, c1155, er1156, o_s1100, q1157, q1158⟩ | ⟨c1159, c1160, c1161, c1162, c1163, c1164, er1165, o_s1100, q1166, q1167⟩ | ⟨c1168, c1169, c1170, c1171, c1172, c1173, c1174, c1175, c1176, c1177, c1178, c1179, c1180, c1181, c1182, c1183, er1184, o_s1100, q1185, q1186, q1187, q1188, q1189⟩ | ⟨c1190, c1191, c1192, c1193, c1194, c1195, c1196, er1197, o_s1100, q1198, q1199⟩ | ⟨c1200, c1201, c1202, c1203, c1204, c1205, er1206, o_s1100, q1207, q1208⟩ | ⟨c1209, c1210, c1211, c1212, c1213, c1214, er1215, o_s1100, q1216, q1217⟩
      · exact (by exfalso; (try simp only [i_lt, i_le, i_eq, kc_0, kc_20, kc_24, kc_29, kc_30] at c157 c158 c159 c160 c161 c162 c1106 c1107 c1108 c1109); omega)
      · exact (by exfalso; (try simp only [i_lt, i_le, i_eq, kc_0, kc_20, kc_24, kc_29, kc_30] at c157 c158 c159 c160 c161 c162 c1113 c1114 c1115 c1116 c1117); omega)
      · exact (by exfalso; (try simp only [i_lt, i_le, i_eq, kc_0, kc_20, kc_24, kc_29, kc_30] at c157 c158 c159 c160 c161 c162 c1121 c1122 c1123 c1124); omega)
      · exact (by exfalso; (try simp only [i_lt, i_le, i_eq, kc_0, kc_20, kc_24, kc_29, kc_30] at c157 c158 c159 c160 c161 c162 c1129 c1130 c1131 c1132 c1135 c1136 c1138 c1139 c1140 c1141 c1142 c1143); omega)
      · exact (by exfalso; (try simp only [i_lt, i_le, i_eq, kc_0, kc_20, kc_24, kc_29, kc_30] at c157 c158 c159 c160 c161 c162 c1150 c1151 c1152 c1153); omega)
      · exact (by exfalso; (try simp only [i_lt, i_le, i_eq, kc_0, kc_20, kc_24, kc_29, kc_30] at c157 c158 c159 c160 c161 c162 c1159 c1160 c1161 c1162 c1163); omega)
      · exact (by exfalso; (try simp only [i_lt, i_le, i_eq, kc_0, kc_20, kc_24, kc_29, kc_30] at c157 c158 c159 c160 c161 c162 c1168 c1169 c1170 c1171 c1172 c1175 c1176 c1178 c1179 c1180 c1181 c1182 c1183); omega)
      · exact (by exfalso; (try simp only [i_lt, i_le, i_eq, kc_0, kc_20, kc_24, kc_29, kc_30] at c157 c158 c159 c160 c161 c162 c1190 c1191 c1192 c1193 c1194); omega)
      · exact (by exfalso; (try simp only [i_lt, i_le, i_eq, kc_0, kc_20, kc_24, kc_29, kc_30] at c157 c158 c159 c160 c161 c162 c1200 c1201 c1202 c1203 c1204 c1205); omega)
      · skip
        subst er1215
        have o_s1100 := ow_on o_fsZ o_s1100 (l' := [(0, .int 1), (20, .int 0), (21, .ref q_type), (22, .ref q_length), (23, .ref q_from), (24, .ref q_there), (25, .ref q_values), (26, .int 0), (27, .int 0), (28, .int 0), (20, .int 0), (21, .ref q_type), (22, .ref q_length), (23, .ref q_from), (24, .ref q_there), (25, .ref q_values), (26, .int 0), (27, .int 0), (28, .int 0)]) (w' := [0]) rfl rfl
        refine lv_istore (lv' := [(6, .int 0), (5, .int 1), (0, .ref b), (1, .ref aX), (2, .ref aZ), (3, .ref qO), (4, .int 0)]) hx hb dL_law_726 hl (by decide) rfl (fun ls hl => ?_)
        refine lv_aload_n hx hb dL_law_728 rfl (lv_at hl 4 rfl) ?_
        have hPc := hP.sub (ws' := [(aZ, .inr (15, s1100))]) [1] rfl
        have hDc := hD.sub (ws' := [(aZ, .inr (15, s1100))]) [1] (by decide) rfl
        have hKc := hK.sub (tys' := []) [] rfl
        have hFc := va_free (wc := [(aZ, .inr (15, s1100))]) hD hS hA [1] rfl
        refine va_calli (va_runV (As := []) (rest := []) ⟨hx, hb, hml, hown, hts⟩ (z_X12_thrown l dC dI H.size aZ s1100 (fh_sub o_s1100.2 [0] rfl) ) (cwV 0 hts g_lk_9_z_X12_thrown_149 rfl rfl rfl (by decide +kernel) ⟨Nat.le_of_ble_eq_true rfl, Nat.le_of_ble_eq_true rfl⟩) ⟨fun a U g mk q => by obtain ⟨q0, q1, qP, qK, qD⟩ := q; exact ⟨q0, q1, qP, va_K.moved (u := U) (U := U.calling g mk a) (Vm.Alike.refl U.vm) qK, qD⟩, va_recv hK hP (ci := 15) (q0 := 1) rfl rfl, fun U hU hW => ⟨rfl, by rw [hU], by rw [hU]; exact hPc, va_K.moved hW.alike hKc, hDc.weaken (fun _ _ _ _ => trivial)⟩⟩ rfl rfl hl.1 rfl (lv_room (Nat.le_of_ble_eq_true rfl)) dL_law_729 ⟨Nat.le_of_ble_eq_true rfl, Nat.le_of_ble_eq_true rfl⟩) hS (fun q _ h => hFc q h) hFc (fun r1218 u t H1 locs ht hvm hw hB hz1 hk1 hS => ?_)
        obtain ⟨hP1, hK1, hD1⟩ := hB
        rw [ht] at hP1
        try dsimp only at hw
        obtain ⟨hP, hD⟩ := va_join (wr := [(qO, .inl (kO, 1, .inr (.inl f106))), (q_type, .inl (k_type, 400, .inl f1101)), (q_length, .inl (k_length, 400, .inl f1102)), (q_from, .inl (k_from, 400, .inl f1103)), (q_there, .inl (k_there, 400, .inl f1104)), (q_values, .inl (k_values, 38500, .inr (.inl f1105)))]) (w1 := [(aZ, .inr (15, s1100))]) hP hD [1] [0, 2, 3, 4, 5, 6] rfl rfl (by decide) (by decide) hk1 hFc hP1 hD1
        have hK := hK.sub (tys' := [(kO, .long), (k_type, .int), (k_length, .int), (k_from, .int), (k_there, .boolean), (k_values, .long)]) [0, 1, 2, 3, 4, 5] rfl
        generalize H1 = H at hP hS ⊢
        have hP : va_P (dC, dI) vwCl [(qO, .inl (kO, 1, .inr (.inl f106))), (q_type, .inl (k_type, 400, .inl f1101)), (q_length, .inl (k_length, 400, .inl f1102)), (q_from, .inl (k_from, 400, .inl f1103)), (q_there, .inl (k_there, 400, .inl f1104)), (q_values, .inl (k_values, 38500, .inr (.inl f1105))), (aZ, .inr (15, s1100))] H := hP
        have hD : va_D A [(qO, .inl (kO, 1, .inr (.inl f106))), (q_type, .inl (k_type, 400, .inl f1101)), (q_length, .inl (k_length, 400, .inl f1102)), (q_from, .inl (k_from, 400, .inl f1103)), (q_there, .inl (k_there, 400, .inl f1104)), (q_values, .inl (k_values, 38500, .inr (.inl f1105))), (aZ, .inr (15, s1100))] := hD
        have er1219 := hw
        subst er1219
        refine lv_iload hx hb dL_law_732 (lv_at hl 1 rfl) ?_
        refine lv_icmp_eq (tgt := 739) hx hb dL_law_734 (by decide) (fun c1220 => ?_) (fun c1220 => absurd c1220 (by decide))
        refine lv_iload hx hb dL_law_739 (lv_at hl 1 rfl) ?_
        refine lv_if_ne (tgt := 756) hx hb dL_law_741 (by decide) (fun c1221 => ?_) (fun c1221 => absurd c1221 (by decide))
        refine lv_goto (tgt := 3111) hx hb dL_law_756 (by decide) ?_
        exact lw_end hst C0 hA hAf hZ hY (Nat.le_of_ble_eq_true rfl) (Nat.le_of_ble_eq_true rfl) dC dI P0k P0 D0 hS ls (lv_sub hl [2, 6] rfl)
    · skip
      subst er177
      refine lv_istore (lv' := [(5, .int 0), (0, .ref b), (1, .ref aX), (2, .ref aZ), (3, .ref qO), (4, .int 0)]) hx hb dL_law_708 hl (by decide) rfl (fun ls hl => ?_)
      refine lv_aload_n hx hb dL_law_710 rfl (lv_at hl 3 rfl) ?_
      refine lv_aload_n hx hb dL_law_711 rfl (lv_at hl 1 rfl) ?_
      refine lv_iload hx hb dL_law_712 (lv_at hl 5 rfl) ?_
      refine lv_iconst (v := 1) hx hb dL_law_714 (by decide) ?_
      refine lv_iadd hx hb dL_law_715  ?_
      refine lv_topi (fun x1222 ex1222 => ?_)
      obtain rfl : x1222 = 1 := ex1222.trans (by decide)
      refine va_sld hx hb hX hbl hbA hS (show vp_in 1 6 from by unfold vp_in; decide) dL_law_716 ?_
      refine lv_topi (fun x1223 ex1223 => ?_)
      obtain rfl : w1 = x1223 := hw1.trans ex1223.symm
      refine lv_aload_n hx hb dL_law_717 rfl (lv_at hl 1 rfl) ?_
      refine lv_iload hx hb dL_law_718 (lv_at hl 5 rfl) ?_
      refine lv_iconst (v := 2) hx hb dL_law_720 (by decide) ?_
      refine lv_iadd hx hb dL_law_721  ?_
      refine lv_topi (fun x1224 ex1224 => ?_)
      obtain rfl : x1224 = 2 := ex1224.trans (by decide)
      refine va_sld hx hb hX hbl hbA hS (show vp_in 2 6 from by unfold vp_in; decide) dL_law_722 ?_
      refine lv_topi (fun x1225 ex1225 => ?_)
      obtain rfl : w2 = x1225 := hw2.trans ex1225.symm
      have hPc := hP.sub (ws' := [(aZ, .inr (15, fsZ)), (q_type, .inl (k_type, 400, .inl f_type)), (q_length, .inl (k_length, 400, .inl f_length)), (q_from, .inl (k_from, 400, .inl f_from)), (q_there, .inl (k_there, 400, .inl f_there)), (q_values, .inl (k_values, 38500, .inr (.inl f_values)))]) [0, 1, 2, 3, 4, 5] rfl
      have hDc := hD.sub (ws' := [(aZ, .inr (15, fsZ)), (q_type, .inl (k_type, 400, .inl f_type)), (q_length, .inl (k_length, 400, .inl f_length)), (q_from, .inl (k_from, 400, .inl f_from)), (q_there, .inl (k_there, 400, .inl f_there)), (q_values, .inl (k_values, 38500, .inr (.inl f_values)))]) [0, 1, 2, 3, 4, 5] (by decide) rfl
      have hKc := hK.sub (tys' := [(k_type, .int), (k_length, .int), (k_from, .int), (k_there, .boolean), (k_values, .long)]) [0, 1, 2, 3, 4] rfl
      have hFc := va_free (wc := [(aZ, .inr (15, fsZ)), (q_type, .inl (k_type, 400, .inl f_type)), (q_length, .inl (k_length, 400, .inl f_length)), (q_from, .inl (k_from, 400, .inl f_from)), (q_there, .inl (k_there, 400, .inl f_there)), (q_values, .inl (k_values, 38500, .inr (.inl f_values)))]) hD hS hA [0, 1, 2, 3, 4, 5] rfl
      refine va_calli (va_runV (As := [.int w1, .int w2]) (rest := []) ⟨hx, hb, hml, hown, hts⟩ (z_X12_make l dC dI H.size aZ fsZ q_type f_type k_type q_length f_length k_length q_from f_from k_from q_there f_there k_there q_values f_values k_values w1 w2 (fh_sub o_fsZ.2 [0, 1, 2, 3, 4, 5, 6, 7, 8, 9] rfl) hz_f_from hz_f_values) (cwV 2 hts g_lk_9_z_X12_make_166 rfl rfl rfl (by decide +kernel) ⟨Nat.le_of_ble_eq_true rfl, Nat.le_of_ble_eq_true rfl⟩) ⟨fun a U g mk q => by obtain ⟨q0, q1, qP, qK, qD⟩ := q; exact ⟨q0, q1, qP, va_K.moved (u := U) (U := U.calling g mk a) (Vm.Alike.refl U.vm) qK, qD⟩, va_recv hK hP (ci := 15) (q0 := 0) rfl rfl, fun U hU hW => ⟨rfl, by rw [hU], by rw [hU]; exact hPc, va_K.moved hW.alike hKc, hDc.weaken (fun _ _ _ _ => trivial)⟩⟩ rfl rfl hl.1 rfl (lv_room (Nat.le_of_ble_eq_true rfl)) dL_law_723 ⟨Nat.le_of_ble_eq_true rfl, Nat.le_of_ble_eq_true rfl⟩) hS (fun q _ h => hFc q h) hFc (fun r1226 u t H1 locs ht hvm hw hB hz1 hk1 hS => ?_)
      obtain ⟨s1227, f1228, f1229, f1230, f1231, f1232⟩ := u
      obtain ⟨hP1, hK1, hD1⟩ := hB
      rw [ht] at hP1
      try dsimp only at hw
      obtain ⟨hP, hD⟩ := va_join (wr := [(qO, .inl (kO, 1, .inr (.inl f106)))]) (w1 := [(aZ, .inr (15, s1227)), (q_type, .inl (k_type, 400, .inl f1228)), (q_length, .inl (k_length, 400, .inl f1229)), (q_from, .inl (k_from, 400, .inl f1230)), (q_there, .inl (k_there, 400, .inl f1231)), (q_values, .inl (k_values, 38500, .inr (.inl f1232)))]) hP hD [0, 1, 2, 3, 4, 5] [6] rfl rfl (by decide) (by decide) hk1 hFc hP1 hD1
      have hK := hK.sub (tys' := [(kO, .long), (k_type, .int), (k_length, .int), (k_from, .int), (k_there, .boolean), (k_values, .long)]) [5, 0, 1, 2, 3, 4] rfl
      generalize H1 = H at hP hS ⊢
      have hP : va_P (dC, dI) vwCl [(qO, .inl (kO, 1, .inr (.inl f106))), (aZ, .inr (15, s1227)), (q_type, .inl (k_type, 400, .inl f1228)), (q_length, .inl (k_length, 400, .inl f1229)), (q_from, .inl (k_from, 400, .inl f1230)), (q_there, .inl (k_there, 400, .inl f1231)), (q_values, .inl (k_values, 38500, .inr (.inl f1232)))] H := hP
      have hD : va_D A [(qO, .inl (kO, 1, .inr (.inl f106))), (aZ, .inr (15, s1227)), (q_type, .inl (k_type, 400, .inl f1228)), (q_length, .inl (k_length, 400, .inl f1229)), (q_from, .inl (k_from, 400, .inl f1230)), (q_there, .inl (k_there, 400, .inl f1231)), (q_values, .inl (k_values, 38500, .inr (.inl f1232)))] := hD
      rcases hw with ⟨c1233, c1234, c1235, c1236, er1237, o_s1227, q1238, q1239⟩ | ⟨c1240, c1241, c1242, c1243, c1244, er1245, o_s1227, q1246, q1247⟩ | ⟨c1248, c1249, c1250, c1251, c1252, er1253, o_s1227, q1254, q1255⟩ | ⟨c1256, c1257, c1258, c1259, c1260, c1261, c1262, c1263, c1264, c1265, c1266, c1267, c1268, c1269, c1270, er1271, o_s1227, q1272, q1273, q1274, q1275, q1276⟩ | ⟨c1277, c1278, c1279, c1280, c1281, c1282, er1283, o_s1227, q1284, q1285⟩ | ⟨c1286, c1287, c1288, c1289, c1290, c1291, er1292, o_s1227, q1293, q1294⟩ | ⟨c1295, c1296, c1297, c1298, c1299, c1300, c1301, c1302, c1303, c1304, c1305, c1306, c1307, c1308, c1309, c1310, er1311, o_s1227, q1312, q1313, q1314, q1315, q1316⟩ | ⟨c1317, c1318, c1319, c1320, c1321, c1322, c1323, er1324, o_s1227, q1325, q1326⟩ | ⟨c1327, c1328, c1329, c1330, c1331, c1332, er1333, o_s1227, q1334, q1335⟩ | ⟨c1336, c1337, c1338, c1339, c1340, c1341, er1342, o_s1227, q1343, q1344⟩
      · exact (by exfalso; (try simp only [i_lt, i_le, i_eq, kc_0, kc_20, kc_24, kc_29, kc_30] at c164 c165 c166 c167 c168 c171 c172 c174 c175 c176 c1233 c1234 c1235 c1236); omega)
      · exact (by exfalso; (try simp only [i_lt, i_le, i_eq, kc_0, kc_20, kc_24, kc_29, kc_30] at c164 c165 c166 c167 c168 c171 c172 c174 c175 c176 c1240 c1241 c1242 c1243 c1244); omega)
      · exact (by exfalso; (try simp only [i_lt, i_le, i_eq, kc_0, kc_60, kc_4000] at c169 c170 c173 c1252); omega)
      · skip
        subst er1271
        have o_s1227 := ow_on o_fsZ o_s1227 (l' := [(28, .int w2), (27, .int w2), (26, .int 1), (20, .int 0), (21, .ref q_type), (22, .ref q_length), (23, .ref q_from), (24, .ref q_there), (25, .ref q_values), (0, .int 0), (20, .int 0), (21, .ref q_type), (22, .ref q_length), (23, .ref q_from), (24, .ref q_there), (25, .ref q_values), (20, .int 0), (21, .ref q_type), (22, .ref q_length), (23, .ref q_from), (24, .ref q_there), (25, .ref q_values)]) (w' := [28, 27, 26, 0]) rfl rfl
        refine lv_istore (lv' := [(6, .int 0), (5, .int 0), (0, .ref b), (1, .ref aX), (2, .ref aZ), (3, .ref qO), (4, .int 0)]) hx hb dL_law_726 hl (by decide) rfl (fun ls hl => ?_)
        refine lv_aload_n hx hb dL_law_728 rfl (lv_at hl 4 rfl) ?_
        have hPc := hP.sub (ws' := [(aZ, .inr (15, s1227))]) [1] rfl
        have hDc := hD.sub (ws' := [(aZ, .inr (15, s1227))]) [1] (by decide) rfl
        have hKc := hK.sub (tys' := []) [] rfl
        have hFc := va_free (wc := [(aZ, .inr (15, s1227))]) hD hS hA [1] rfl
        refine va_calli (va_runV (As := []) (rest := []) ⟨hx, hb, hml, hown, hts⟩ (z_X12_thrown_2 l dC dI H.size aZ s1227 (fh_sub o_s1227.2 [9] rfl) ) (cwV 0 hts g_lk_9_z_X12_thrown_2_149 rfl rfl rfl (by decide +kernel) ⟨Nat.le_of_ble_eq_true rfl, Nat.le_of_ble_eq_true rfl⟩) ⟨fun a U g mk q => by obtain ⟨q0, q1, qP, qK, qD⟩ := q; exact ⟨q0, q1, qP, va_K.moved (u := U) (U := U.calling g mk a) (Vm.Alike.refl U.vm) qK, qD⟩, va_recv hK hP (ci := 15) (q0 := 1) rfl rfl, fun U hU hW => ⟨rfl, by rw [hU], by rw [hU]; exact hPc, va_K.moved hW.alike hKc, hDc.weaken (fun _ _ _ _ => trivial)⟩⟩ rfl rfl hl.1 rfl (lv_room (Nat.le_of_ble_eq_true rfl)) dL_law_729 ⟨Nat.le_of_ble_eq_true rfl, Nat.le_of_ble_eq_true rfl⟩) hS (fun q _ h => hFc q h) hFc (fun r1345 u t H1 locs ht hvm hw hB hz1 hk1 hS => ?_)
        obtain ⟨hP1, hK1, hD1⟩ := hB
        rw [ht] at hP1
        try dsimp only at hw
        obtain ⟨hP, hD⟩ := va_join (wr := [(qO, .inl (kO, 1, .inr (.inl f106))), (q_type, .inl (k_type, 400, .inl f1228)), (q_length, .inl (k_length, 400, .inl f1229)), (q_from, .inl (k_from, 400, .inl f1230)), (q_there, .inl (k_there, 400, .inl f1231)), (q_values, .inl (k_values, 38500, .inr (.inl f1232)))]) (w1 := [(aZ, .inr (15, s1227))]) hP hD [1] [0, 2, 3, 4, 5, 6] rfl rfl (by decide) (by decide) hk1 hFc hP1 hD1
        have hK := hK.sub (tys' := [(kO, .long), (k_type, .int), (k_length, .int), (k_from, .int), (k_there, .boolean), (k_values, .long)]) [0, 1, 2, 3, 4, 5] rfl
        generalize H1 = H at hP hS ⊢
        have hP : va_P (dC, dI) vwCl [(qO, .inl (kO, 1, .inr (.inl f106))), (q_type, .inl (k_type, 400, .inl f1228)), (q_length, .inl (k_length, 400, .inl f1229)), (q_from, .inl (k_from, 400, .inl f1230)), (q_there, .inl (k_there, 400, .inl f1231)), (q_values, .inl (k_values, 38500, .inr (.inl f1232))), (aZ, .inr (15, s1227))] H := hP
        have hD : va_D A [(qO, .inl (kO, 1, .inr (.inl f106))), (q_type, .inl (k_type, 400, .inl f1228)), (q_length, .inl (k_length, 400, .inl f1229)), (q_from, .inl (k_from, 400, .inl f1230)), (q_there, .inl (k_there, 400, .inl f1231)), (q_values, .inl (k_values, 38500, .inr (.inl f1232))), (aZ, .inr (15, s1227))] := hD
        have er1346 := hw
        subst er1346
        refine lv_iload hx hb dL_law_732 (lv_at hl 1 rfl) ?_
        refine lv_icmp_eq (tgt := 739) hx hb dL_law_734 (by decide) (fun c1347 => ?_) (fun c1347 => absurd c1347 (by decide))
        refine lv_iload hx hb dL_law_739 (lv_at hl 1 rfl) ?_
        refine lv_if_ne (tgt := 756) hx hb dL_law_741 (by decide) (fun c1348 => absurd c1348 (by decide)) (fun c1348 => ?_)
        refine lv_aload_n hx hb dL_law_744 rfl (lv_at hl 5 rfl) ?_
        refine lv_iconst (v := 0) hx hb dL_law_745 (by decide) ?_
        refine va_lald hx hb hK hP 0 0 rfl rfl (show vp_in 0 1 from by unfold vp_in; decide) dL_law_746 ?_
        refine lv_topl (fun x1349 ex1349 => ?_)
        obtain rfl : 0 = x1349 := (ex1349.trans q178).symm
        refine lv_iload hx hb dL_law_747 (lv_at hl 0 rfl) ?_
        refine lv_i2l hx hb dL_law_749 rfl ?_
        refine lv_topl (fun x1350 ex1350 => ?_)
        obtain rfl : x1350 = 0 := ex1350.trans (by decide)
        refine W.lcmp hx hb dL_law_750  ?_
        refine lv_topi (fun x1351 ex1351 => ?_)
        obtain rfl : x1351 = 0 := ex1351.trans (by decide)
        refine lv_if_eq (tgt := 756) hx hb dL_law_751 (by decide) (fun c1352 => ?_) (fun c1352 => absurd c1352 (by decide))
        refine lv_goto (tgt := 3111) hx hb dL_law_756 (by decide) ?_
        exact lw_end hst C0 hA hAf hZ hY (Nat.le_of_ble_eq_true rfl) (Nat.le_of_ble_eq_true rfl) dC dI P0k P0 D0 hS ls (lv_sub hl [2, 6] rfl)
      · exact (by exfalso; (try simp only [i_lt, i_le, i_eq, kc_0, kc_60, kc_4000] at c169 c170 c173 c1281 c1282); omega)
      · exact (by exfalso; (try simp only [i_lt, i_le, i_eq, kc_0, kc_60, kc_4000] at c169 c170 c173 c1291); omega)
      · exact (by exfalso; (try simp only [i_lt, i_le, i_eq, kc_0, kc_20, kc_24, kc_29] at c164 c165 c166 c167 c168 c171 c172 c174 c175 c176 c1295 c1296 c1297 c1298 c1299 c1302 c1303 c1305 c1306 c1307 c1308 c1309 c1310); omega)
      · exact (by exfalso; (try simp only [i_lt, i_le, i_eq, kc_0, kc_60, kc_4000] at c169 c170 c173 c1322 c1323); omega)
      · exact (by exfalso; (try simp only [i_lt, i_le, i_eq, kc_0, kc_20, kc_24, kc_29, kc_30] at c164 c165 c166 c167 c168 c171 c172 c174 c175 c176 c1327 c1328 c1329 c1330 c1331 c1332); omega)
      · exact (by exfalso; (try simp only [i_lt, i_le, i_eq, kc_0, kc_20, kc_24, kc_29, kc_30] at c164 c165 c166 c167 c168 c171 c172 c174 c175 c176 c1336 c1337 c1338 c1339 c1340 c1341); omega)
    · skip
      subst er193
      refine lv_istore (lv' := [(5, .int 0), (0, .ref b), (1, .ref aX), (2, .ref aZ), (3, .ref qO), (4, .int 0)]) hx hb dL_law_708 hl (by decide) rfl (fun ls hl => ?_)
      refine lv_aload_n hx hb dL_law_710 rfl (lv_at hl 3 rfl) ?_
      refine lv_aload_n hx hb dL_law_711 rfl (lv_at hl 1 rfl) ?_
      refine lv_iload hx hb dL_law_712 (lv_at hl 5 rfl) ?_
      refine lv_iconst (v := 1) hx hb dL_law_714 (by decide) ?_
      refine lv_iadd hx hb dL_law_715  ?_
      refine lv_topi (fun x1353 ex1353 => ?_)
      obtain rfl : x1353 = 1 := ex1353.trans (by decide)
      refine va_sld hx hb hX hbl hbA hS (show vp_in 1 6 from by unfold vp_in; decide) dL_law_716 ?_
      refine lv_topi (fun x1354 ex1354 => ?_)
      obtain rfl : w1 = x1354 := hw1.trans ex1354.symm
      refine lv_aload_n hx hb dL_law_717 rfl (lv_at hl 1 rfl) ?_
      refine lv_iload hx hb dL_law_718 (lv_at hl 5 rfl) ?_
      refine lv_iconst (v := 2) hx hb dL_law_720 (by decide) ?_
      refine lv_iadd hx hb dL_law_721  ?_
      refine lv_topi (fun x1355 ex1355 => ?_)
      obtain rfl : x1355 = 2 := ex1355.trans (by decide)
      refine va_sld hx hb hX hbl hbA hS (show vp_in 2 6 from by unfold vp_in; decide) dL_law_722 ?_
      refine lv_topi (fun x1356 ex1356 => ?_)
      obtain rfl : w2 = x1356 := hw2.trans ex1356.symm
      have hPc := hP.sub (ws' := [(aZ, .inr (15, fsZ)), (q_type, .inl (k_type, 400, .inl f_type)), (q_length, .inl (k_length, 400, .inl f_length)), (q_from, .inl (k_from, 400, .inl f_from)), (q_there, .inl (k_there, 400, .inl f_there)), (q_values, .inl (k_values, 38500, .inr (.inl f_values)))]) [0, 1, 2, 3, 4, 5] rfl
      have hDc := hD.sub (ws' := [(aZ, .inr (15, fsZ)), (q_type, .inl (k_type, 400, .inl f_type)), (q_length, .inl (k_length, 400, .inl f_length)), (q_from, .inl (k_from, 400, .inl f_from)), (q_there, .inl (k_there, 400, .inl f_there)), (q_values, .inl (k_values, 38500, .inr (.inl f_values)))]) [0, 1, 2, 3, 4, 5] (by decide) rfl
      have hKc := hK.sub (tys' := [(k_type, .int), (k_length, .int), (k_from, .int), (k_there, .boolean), (k_values, .long)]) [0, 1, 2, 3, 4] rfl
      have hFc := va_free (wc := [(aZ, .inr (15, fsZ)), (q_type, .inl (k_type, 400, .inl f_type)), (q_length, .inl (k_length, 400, .inl f_length)), (q_from, .inl (k_from, 400, .inl f_from)), (q_there, .inl (k_there, 400, .inl f_there)), (q_values, .inl (k_values, 38500, .inr (.inl f_values)))]) hD hS hA [0, 1, 2, 3, 4, 5] rfl
      refine va_calli (va_runV (As := [.int w1, .int w2]) (rest := []) ⟨hx, hb, hml, hown, hts⟩ (z_X12_make l dC dI H.size aZ fsZ q_type f_type k_type q_length f_length k_length q_from f_from k_from q_there f_there k_there q_values f_values k_values w1 w2 (fh_sub o_fsZ.2 [0, 1, 2, 3, 4, 5, 6, 7, 8, 9] rfl) hz_f_from hz_f_values) (cwV 2 hts g_lk_9_z_X12_make_166 rfl rfl rfl (by decide +kernel) ⟨Nat.le_of_ble_eq_true rfl, Nat.le_of_ble_eq_true rfl⟩) ⟨fun a U g mk q => by obtain ⟨q0, q1, qP, qK, qD⟩ := q; exact ⟨q0, q1, qP, va_K.moved (u := U) (U := U.calling g mk a) (Vm.Alike.refl U.vm) qK, qD⟩, va_recv hK hP (ci := 15) (q0 := 0) rfl rfl, fun U hU hW => ⟨rfl, by rw [hU], by rw [hU]; exact hPc, va_K.moved hW.alike hKc, hDc.weaken (fun _ _ _ _ => trivial)⟩⟩ rfl rfl hl.1 rfl (lv_room (Nat.le_of_ble_eq_true rfl)) dL_law_723 ⟨Nat.le_of_ble_eq_true rfl, Nat.le_of_ble_eq_true rfl⟩) hS (fun q _ h => hFc q h) hFc (fun r1357 u t H1 locs ht hvm hw hB hz1 hk1 hS => ?_)
      obtain ⟨s1358, f1359, f1360, f1361, f1362, f1363⟩ := u
      obtain ⟨hP1, hK1, hD1⟩ := hB
      rw [ht] at hP1
      try dsimp only at hw
      obtain ⟨hP, hD⟩ := va_join (wr := [(qO, .inl (kO, 1, .inr (.inl f106)))]) (w1 := [(aZ, .inr (15, s1358)), (q_type, .inl (k_type, 400, .inl f1359)), (q_length, .inl (k_length, 400, .inl f1360)), (q_from, .inl (k_from, 400, .inl f1361)), (q_there, .inl (k_there, 400, .inl f1362)), (q_values, .inl (k_values, 38500, .inr (.inl f1363)))]) hP hD [0, 1, 2, 3, 4, 5] [6] rfl rfl (by decide) (by decide) hk1 hFc hP1 hD1
      have hK := hK.sub (tys' := [(kO, .long), (k_type, .int), (k_length, .int), (k_from, .int), (k_there, .boolean), (k_values, .long)]) [5, 0, 1, 2, 3, 4] rfl
      generalize H1 = H at hP hS ⊢
      have hP : va_P (dC, dI) vwCl [(qO, .inl (kO, 1, .inr (.inl f106))), (aZ, .inr (15, s1358)), (q_type, .inl (k_type, 400, .inl f1359)), (q_length, .inl (k_length, 400, .inl f1360)), (q_from, .inl (k_from, 400, .inl f1361)), (q_there, .inl (k_there, 400, .inl f1362)), (q_values, .inl (k_values, 38500, .inr (.inl f1363)))] H := hP
      have hD : va_D A [(qO, .inl (kO, 1, .inr (.inl f106))), (aZ, .inr (15, s1358)), (q_type, .inl (k_type, 400, .inl f1359)), (q_length, .inl (k_length, 400, .inl f1360)), (q_from, .inl (k_from, 400, .inl f1361)), (q_there, .inl (k_there, 400, .inl f1362)), (q_values, .inl (k_values, 38500, .inr (.inl f1363)))] := hD
      rcases hw with ⟨c1364, c1365, c1366, c1367, er1368, o_s1358, q1369, q1370⟩ | ⟨c1371, c1372, c1373, c1374, c1375, er1376, o_s1358, q1377, q1378⟩ | ⟨c1379, c1380, c1381, c1382, c1383, er1384, o_s1358, q1385, q1386⟩ | ⟨c1387, c1388, c1389, c1390, c1391, c1392, c1393, c1394, c1395, c1396, c1397, c1398, c1399, c1400, c1401, er1402, o_s1358, q1403, q1404, q1405, q1406, q1407⟩ | ⟨c1408, c1409, c1410, c1411, c1412, c1413, er1414, o_s1358, q1415, q1416⟩ | ⟨c1417, c1418, c1419, c1420, c1421, c1422, er1423, o_s1358, q1424, q1425⟩ | ⟨c1426, c1427, c1428, c1429, c1430, c1431, c1432, c1433, c1434, c1435, c1436, c1437, c1438, c1439, c1440, c1441, er1442, o_s1358, q1443, q1444, q1445, q1446, q1447⟩ | ⟨c1448, c1449, c1450, c1451, c1452, c1453, c1454, er1455, o_s1358, q1456, q1457⟩ | ⟨c1458, c1459, c1460, c1461, c1462, c1463, er1464, o_s1358, q1465, q1466⟩ | ⟨c1467, c1468, c1469, c1470, c1471, c1472, er1473, o_s1358, q1474, q1475⟩
      · exact (by exfalso; (try simp only [i_lt, i_le, i_eq, kc_0, kc_20, kc_24, kc_29, kc_30] at c179 c180 c181 c182 c183 c184 c187 c188 c190 c191 c192 c1364 c1365 c1366 c1367); omega)
      · exact (by exfalso; (try simp only [i_lt, i_le, i_eq, kc_0, kc_20, kc_24, kc_29, kc_30] at c179 c180 c181 c182 c183 c184 c187 c188 c190 c191 c192 c1371 c1372 c1373 c1374 c1375); omega)
      · exact (by exfalso; (try simp only [i_lt, i_le, i_eq, kc_0, kc_60, kc_4000] at c185 c186 c189 c1383); omega)
      · exact (by exfalso; (try simp only [i_lt, i_le, i_eq, kc_0, kc_20, kc_24, kc_29] at c179 c180 c181 c182 c183 c184 c187 c188 c190 c191 c192 c1387 c1388 c1389 c1390 c1393 c1394 c1396 c1397 c1398 c1399 c1400 c1401); omega)
      · exact (by exfalso; (try simp only [i_lt, i_le, i_eq, kc_0, kc_60, kc_4000] at c185 c186 c189 c1412 c1413); omega)
      · exact (by exfalso; (try simp only [i_lt, i_le, i_eq, kc_0, kc_60, kc_4000] at c185 c186 c189 c1422); omega)
      · skip
        subst er1442
        have o_s1358 := ow_on o_fsZ o_s1358 (l' := [(28, .int w2), (27, .int w2), (26, .int 1), (20, .int 0), (21, .ref q_type), (22, .ref q_length), (23, .ref q_from), (24, .ref q_there), (25, .ref q_values), (0, .int 0), (20, .int 0), (21, .ref q_type), (22, .ref q_length), (23, .ref q_from), (24, .ref q_there), (25, .ref q_values), (20, .int 0), (21, .ref q_type), (22, .ref q_length), (23, .ref q_from), (24, .ref q_there), (25, .ref q_values)]) (w' := [28, 27, 26, 0]) rfl rfl
        refine lv_istore (lv' := [(6, .int 0), (5, .int 0), (0, .ref b), (1, .ref aX), (2, .ref aZ), (3, .ref qO), (4, .int 0)]) hx hb dL_law_726 hl (by decide) rfl (fun ls hl => ?_)
        refine lv_aload_n hx hb dL_law_728 rfl (lv_at hl 4 rfl) ?_
        have hPc := hP.sub (ws' := [(aZ, .inr (15, s1358))]) [1] rfl
        have hDc := hD.sub (ws' := [(aZ, .inr (15, s1358))]) [1] (by decide) rfl
        have hKc := hK.sub (tys' := []) [] rfl
        have hFc := va_free (wc := [(aZ, .inr (15, s1358))]) hD hS hA [1] rfl
        refine va_calli (va_runV (As := []) (rest := []) ⟨hx, hb, hml, hown, hts⟩ (z_X12_thrown_2 l dC dI H.size aZ s1358 (fh_sub o_s1358.2 [9] rfl) ) (cwV 0 hts g_lk_9_z_X12_thrown_2_149 rfl rfl rfl (by decide +kernel) ⟨Nat.le_of_ble_eq_true rfl, Nat.le_of_ble_eq_true rfl⟩) ⟨fun a U g mk q => by obtain ⟨q0, q1, qP, qK, qD⟩ := q; exact ⟨q0, q1, qP, va_K.moved (u := U) (U := U.calling g mk a) (Vm.Alike.refl U.vm) qK, qD⟩, va_recv hK hP (ci := 15) (q0 := 1) rfl rfl, fun U hU hW => ⟨rfl, by rw [hU], by rw [hU]; exact hPc, va_K.moved hW.alike hKc, hDc.weaken (fun _ _ _ _ => trivial)⟩⟩ rfl rfl hl.1 rfl (lv_room (Nat.le_of_ble_eq_true rfl)) dL_law_729 ⟨Nat.le_of_ble_eq_true rfl, Nat.le_of_ble_eq_true rfl⟩) hS (fun q _ h => hFc q h) hFc (fun r1476 u t H1 locs ht hvm hw hB hz1 hk1 hS => ?_)
        obtain ⟨hP1, hK1, hD1⟩ := hB
        rw [ht] at hP1
        try dsimp only at hw
        obtain ⟨hP, hD⟩ := va_join (wr := [(qO, .inl (kO, 1, .inr (.inl f106))), (q_type, .inl (k_type, 400, .inl f1359)), (q_length, .inl (k_length, 400, .inl f1360)), (q_from, .inl (k_from, 400, .inl f1361)), (q_there, .inl (k_there, 400, .inl f1362)), (q_values, .inl (k_values, 38500, .inr (.inl f1363)))]) (w1 := [(aZ, .inr (15, s1358))]) hP hD [1] [0, 2, 3, 4, 5, 6] rfl rfl (by decide) (by decide) hk1 hFc hP1 hD1
        have hK := hK.sub (tys' := [(kO, .long), (k_type, .int), (k_length, .int), (k_from, .int), (k_there, .boolean), (k_values, .long)]) [0, 1, 2, 3, 4, 5] rfl
        generalize H1 = H at hP hS ⊢
        have hP : va_P (dC, dI) vwCl [(qO, .inl (kO, 1, .inr (.inl f106))), (q_type, .inl (k_type, 400, .inl f1359)), (q_length, .inl (k_length, 400, .inl f1360)), (q_from, .inl (k_from, 400, .inl f1361)), (q_there, .inl (k_there, 400, .inl f1362)), (q_values, .inl (k_values, 38500, .inr (.inl f1363))), (aZ, .inr (15, s1358))] H := hP
        have hD : va_D A [(qO, .inl (kO, 1, .inr (.inl f106))), (q_type, .inl (k_type, 400, .inl f1359)), (q_length, .inl (k_length, 400, .inl f1360)), (q_from, .inl (k_from, 400, .inl f1361)), (q_there, .inl (k_there, 400, .inl f1362)), (q_values, .inl (k_values, 38500, .inr (.inl f1363))), (aZ, .inr (15, s1358))] := hD
        have er1477 := hw
        subst er1477
        refine lv_iload hx hb dL_law_732 (lv_at hl 1 rfl) ?_
        refine lv_icmp_eq (tgt := 739) hx hb dL_law_734 (by decide) (fun c1478 => ?_) (fun c1478 => absurd c1478 (by decide))
        refine lv_iload hx hb dL_law_739 (lv_at hl 1 rfl) ?_
        refine lv_if_ne (tgt := 756) hx hb dL_law_741 (by decide) (fun c1479 => absurd c1479 (by decide)) (fun c1479 => ?_)
        refine lv_aload_n hx hb dL_law_744 rfl (lv_at hl 5 rfl) ?_
        refine lv_iconst (v := 0) hx hb dL_law_745 (by decide) ?_
        refine va_lald hx hb hK hP 0 0 rfl rfl (show vp_in 0 1 from by unfold vp_in; decide) dL_law_746 ?_
        refine lv_topl (fun x1480 ex1480 => ?_)
        obtain rfl : 0 = x1480 := (ex1480.trans q194).symm
        refine lv_iload hx hb dL_law_747 (lv_at hl 0 rfl) ?_
        refine lv_i2l hx hb dL_law_749 rfl ?_
        refine lv_topl (fun x1481 ex1481 => ?_)
        obtain rfl : x1481 = 0 := ex1481.trans (by decide)
        refine W.lcmp hx hb dL_law_750  ?_
        refine lv_topi (fun x1482 ex1482 => ?_)
        obtain rfl : x1482 = 0 := ex1482.trans (by decide)
        refine lv_if_eq (tgt := 756) hx hb dL_law_751 (by decide) (fun c1483 => ?_) (fun c1483 => absurd c1483 (by decide))
        refine lv_goto (tgt := 3111) hx hb dL_law_756 (by decide) ?_
        exact lw_end hst C0 hA hAf hZ hY (Nat.le_of_ble_eq_true rfl) (Nat.le_of_ble_eq_true rfl) dC dI P0k P0 D0 hS ls (lv_sub hl [2, 6] rfl)
      · exact (by exfalso; (try simp only [i_lt, i_le, i_eq, kc_0, kc_60, kc_4000] at c185 c186 c189 c1453 c1454); omega)
      · exact (by exfalso; (try simp only [i_lt, i_le, i_eq, kc_0, kc_20, kc_24, kc_29, kc_30] at c179 c180 c181 c182 c183 c184 c187 c188 c190 c191 c192 c1458 c1459 c1460 c1461 c1462 c1463); omega)
      · exact (by exfalso; (try simp only [i_lt, i_le, i_eq, kc_0, kc_20, kc_24, kc_29, kc_30] at c179 c180 c181 c182 c183 c184 c187 c188 c190 c191 c192 c1467 c1468 c1469 c1470 c1471 c1472); omega)

set_option maxRecDepth 20000 in
theorem g_lk_10_z_L_root_167 : GoodIn lwW (va_wsS RL 167 yL_root w_z_L_root) := goodIn_app (goodIn_sub (ws := ([.methodLink RL 167 yL_root, .static yL_root, .initialized RL] : List Cond)) (gm_c (gm_at lwV_19_in 2 rfl) (gm_c (gm_at lwV_19_in 3 rfl) (gm_c (gm_at lwV_5_in 10 rfl) gm_nil))) (by decide +kernel)) (goodIn_ca (goodIn_sub (ws := .codeWith yL_root cL_root 4 (some .int) [(0, 6, 9, 30), (0, 6, 12, 17)] :: l_z_L_root) (gm_c (gm_at lwV_19_in 7 rfl) (gm_c (gm_at lwV_19_in 8 rfl) (gm_c (gm_at lwV_19_in 9 rfl) (gm_c (gm_at lwV_19_in 10 rfl) (gm_c (gm_at lwV_0_in 3 rfl) (gm_c (gm_at lwV_19_in 11 rfl) (gm_c (gm_at lwV_20_in 0 rfl) (gm_c (gm_at lwV_13_in 9 rfl) (gm_c (gm_at lwV_20_in 1 rfl) (gm_c (gm_at lwV_20_in 2 rfl) (gm_c (gm_at lwV_20_in 3 rfl) (gm_c (gm_at lwV_14_in 4 rfl) (gm_c (gm_at lwV_20_in 4 rfl) (gm_c (gm_at lwV_20_in 5 rfl) (gm_c (gm_at lwV_20_in 6 rfl) (gm_c (gm_at lwV_15_in 1 rfl) gm_nil)))))))))))))))) (by decide +kernel)) (goodIn_app (goodIn_in il_X11 gd_X11) (goodIn_app (goodIn_in il_at0_X11_223 gd_at0_X11_223) (goodIn_in il_X2 gd_X2))))
set_option maxRecDepth 20000 in
theorem g_lk_10_z_X12_root_170 : GoodIn lwW (wsV RL 170 RX12 yX12_root w_z_X12_root) := goodIn_app (goodIn_sub (ws := ([.methodLink RL 170 yX12_root, .instanceMethod yX12_root, .selects RX12 yX12_root yX12_root, .initialized RX12] : List Cond)) (gm_c (gm_at lwV_19_in 4 rfl) (gm_c (gm_at lwV_19_in 5 rfl) (gm_c (gm_at lwV_19_in 6 rfl) (gm_c (gm_at lwV_0_in 7 rfl) gm_nil)))) (by decide +kernel)) (goodIn_ca (goodIn_sub (ws := .code yX12_root cX12_root 5 none :: l_z_X12_root) (gm_c (gm_at lwV_20_in 7 rfl) (gm_c (gm_at lwV_20_in 8 rfl) (gm_c (gm_at lwV_20_in 9 rfl) (gm_c (gm_at lwV_20_in 10 rfl) (gm_c (gm_at lwV_0_in 7 rfl) (gm_c (gm_at lwV_1_in 5 rfl) (gm_c (gm_at lwV_20_in 11 rfl) (gm_c (gm_at lwV_17_in 4 rfl) gm_nil)))))))) (by decide +kernel)) (goodIn_in il_X12 gd_X12))
set_option maxRecDepth 20000 in
theorem g_lk_10_z_X12_thrown_149 : GoodIn lwW (wsV RL 149 RX12 yX12_thrown w_z_X12_thrown) := goodIn_app (goodIn_sub (ws := ([.methodLink RL 149 yX12_thrown, .instanceMethod yX12_thrown, .selects RX12 yX12_thrown yX12_thrown, .initialized RX12] : List Cond)) (gm_c (gm_at lwV_6_in 2 rfl) (gm_c (gm_at lwV_6_in 3 rfl) (gm_c (gm_at lwV_6_in 4 rfl) (gm_c (gm_at lwV_0_in 7 rfl) gm_nil)))) (by decide +kernel)) (goodIn_ca (goodIn_sub (ws := .code yX12_thrown cX12_thrown 1 (some .int) :: l_z_X12_thrown) (gm_c (gm_at lwV_9_in 9 rfl) (gm_c (gm_at lwV_1_in 5 rfl) gm_nil)) (by decide +kernel)) (goodIn_in il_X12 gd_X12))
set_option maxRecDepth 20000 in
theorem g_lk_10_z_L_root_1_167 : GoodIn lwW (va_wsS RL 167 yL_root w_z_L_root_1) := goodIn_app (goodIn_sub (ws := ([.methodLink RL 167 yL_root, .static yL_root, .initialized RL] : List Cond)) (gm_c (gm_at lwV_19_in 2 rfl) (gm_c (gm_at lwV_19_in 3 rfl) (gm_c (gm_at lwV_5_in 10 rfl) gm_nil))) (by decide +kernel)) (goodIn_ca (goodIn_sub (ws := .codeWith yL_root cL_root 4 (some .int) [(0, 6, 9, 30), (0, 6, 12, 17)] :: l_z_L_root_1) (gm_c (gm_at lwV_19_in 7 rfl) (gm_c (gm_at lwV_19_in 8 rfl) (gm_c (gm_at lwV_19_in 9 rfl) (gm_c (gm_at lwV_19_in 10 rfl) (gm_c (gm_at lwV_0_in 3 rfl) (gm_c (gm_at lwV_19_in 11 rfl) (gm_c (gm_at lwV_20_in 0 rfl) (gm_c (gm_at lwV_13_in 9 rfl) (gm_c (gm_at lwV_20_in 1 rfl) (gm_c (gm_at lwV_20_in 2 rfl) (gm_c (gm_at lwV_20_in 3 rfl) (gm_c (gm_at lwV_14_in 4 rfl) (gm_c (gm_at lwV_20_in 4 rfl) (gm_c (gm_at lwV_20_in 5 rfl) (gm_c (gm_at lwV_20_in 6 rfl) (gm_c (gm_at lwV_15_in 1 rfl) gm_nil)))))))))))))))) (by decide +kernel)) (goodIn_app (goodIn_in il_X11 gd_X11) (goodIn_app (goodIn_in il_at0_X11_223 gd_at0_X11_223) (goodIn_in il_X2 gd_X2))))
set_option maxRecDepth 20000 in
theorem g_lk_10_z_X12_root_1_170 : GoodIn lwW (wsV RL 170 RX12 yX12_root w_z_X12_root_1) := goodIn_app (goodIn_sub (ws := ([.methodLink RL 170 yX12_root, .instanceMethod yX12_root, .selects RX12 yX12_root yX12_root, .initialized RX12] : List Cond)) (gm_c (gm_at lwV_19_in 4 rfl) (gm_c (gm_at lwV_19_in 5 rfl) (gm_c (gm_at lwV_19_in 6 rfl) (gm_c (gm_at lwV_0_in 7 rfl) gm_nil)))) (by decide +kernel)) (goodIn_ca (goodIn_sub (ws := .code yX12_root cX12_root 5 none :: l_z_X12_root_1) (gm_c (gm_at lwV_20_in 7 rfl) (gm_c (gm_at lwV_20_in 8 rfl) (gm_c (gm_at lwV_20_in 9 rfl) (gm_c (gm_at lwV_20_in 10 rfl) (gm_c (gm_at lwV_0_in 7 rfl) (gm_c (gm_at lwV_1_in 5 rfl) (gm_c (gm_at lwV_20_in 11 rfl) (gm_c (gm_at lwV_17_in 4 rfl) gm_nil)))))))) (by decide +kernel)) (goodIn_in il_X12 gd_X12))
set_option maxHeartbeats 4000000 in
set_option maxRecDepth 100000 in
/-- the law, one call: root -/
theorem lk_10 {p : Program} {l : Launch} {e : Env} {s : State} {m : MethodId} {below : List Frame} {meth : Method} {c : Code} {b : Nat} {xs : Nat → Int32} (hst : l.stackTraces = false) (C0 : lw_At p s m meth c b 6 xs) {A : Nat → Prop} (hA : ∀ q : Nat, s.heap.size ≤ q → A q) (hAf : ∀ q : Nat, A q → s.heap.size ≤ q) (hZ : Zz A s) (hY : Yy s) (dC : Nat → ClassId) (dI : Nat → Nat → Nat) (aX : Nat) (fsX : List Value) (aH : Nat) (fsHe : List Value) (aZ : Nat) (fsZ : List Value) (qO : Nat) (w1 : Int32) (hw1 : w1 = xs (1 : Int32).toNatClampNeg) (w2 : Int32) (hw2 : w2 = xs (2 : Int32).toNatClampNeg) (w3 : Int32) (hw3 : w3 = xs (3 : Int32).toNatClampNeg) (w4 : Int32) (hw4 : w4 = xs (4 : Int32).toNatClampNeg) (w5 : Int32) (hw5 : w5 = xs (5 : Int32).toNatClampNeg) (k_fsX : fh fsX 18 [(2, .ref aH)]) (k_fsHe : fh fsHe 14 [(1, .int 0)]) (k_fsZ : fh fsZ 150 [(0, .int 0), (26, .int 0)])  {H : Heap} {locs : List Loc} (hK : va_K (dC, dI) vwCl [] s) (hP : va_P (dC, dI) vwCl [(aX, .inr (14, fsX)), (aH, .inr (5, fsHe)), (aZ, .inr (15, fsZ))] H) (hD : va_D A [(aX, .inr (14, fsX)), (aH, .inr (5, fsHe)), (aZ, .inr (15, fsZ))]) (hS : va_S A s.heap H locs) (ls : Array Slot) (hl : lv_has ls 8 [(0, .ref b), (1, .ref aX), (2, .ref aZ), (3, .ref qO), (4, .int 0)]) : W p l e room_1 s m #[Value.ref b] below meth c H locs 390 571359 (lw_Z below #[Value.ref b] s) (F0 m 759 ls []) := by
  obtain ⟨hx, hb, hr, hml, hown0, hts0, hX, hbl, hlocks, hgv⟩ := id C0
  have hown : s.vm.findClass RL = some m.cls := hown0
  have hts : ∀ w ∈ lwW, w.before #[Value.ref b] s = true := fun w h => hts0 w (lwW_in w h)
  have hbA : ¬ A b := fun h => absurd (hAf b h) (Nat.not_le.mpr hbl)
  have o_fsX := ow_0 k_fsX
  have o_fsHe := ow_0 k_fsHe
  have o_fsZ := ow_0 k_fsZ
  refine lv_aload_n hx hb dL_law_759 rfl (lv_at hl 1 rfl) ?_
  refine lv_aload_n hx hb dL_law_760 rfl (lv_at hl 0 rfl) ?_
  refine lv_iload hx hb dL_law_761 (lv_at hl 4 rfl) ?_
  refine lv_iconst (v := 1) hx hb dL_law_763 (by decide) ?_
  refine lv_iadd hx hb dL_law_764  ?_
  refine lv_topi (fun x101 ex101 => ?_)
  obtain rfl : x101 = 1 := ex101.trans (by decide)
  refine va_sld hx hb hX hbl hbA hS (show vp_in 1 6 from by unfold vp_in; decide) dL_law_765 ?_
  refine lv_topi (fun x102 ex102 => ?_)
  obtain rfl : w1 = x102 := hw1.trans ex102.symm
  refine lv_aload_n hx hb dL_law_766 rfl (lv_at hl 0 rfl) ?_
  refine lv_iload hx hb dL_law_767 (lv_at hl 4 rfl) ?_
  refine lv_iconst (v := 2) hx hb dL_law_769 (by decide) ?_
  refine lv_iadd hx hb dL_law_770  ?_
  refine lv_topi (fun x103 ex103 => ?_)
  obtain rfl : x103 = 2 := ex103.trans (by decide)
  refine va_sld hx hb hX hbl hbA hS (show vp_in 2 6 from by unfold vp_in; decide) dL_law_771 ?_
  refine lv_topi (fun x104 ex104 => ?_)
  obtain rfl : w2 = x104 := hw2.trans ex104.symm
  refine lv_if_eq (tgt := 779) hx hb dL_law_772 (by decide) (fun c105 => ?_) (fun c105 => ?_)
  · skip
    refine lv_iconst (v := 0) hx hb dL_law_779 (by decide) ?_
    have hPc := hP.sub (ws' := [(aX, .inr (14, fsX)), (aH, .inr (5, fsHe))]) [0, 1] rfl
    have hDc := hD.sub (ws' := [(aX, .inr (14, fsX)), (aH, .inr (5, fsHe))]) [0, 1] (by decide) rfl
    have hKc := hK.sub (tys' := []) [] rfl
    have hFc := va_free (wc := [(aX, .inr (14, fsX)), (aH, .inr (5, fsHe))]) hD hS hA [0, 1] rfl
    refine vx_calli (vx_runSX (As := [.ref aX, .int w1, .int 0]) (rest := []) ⟨hx, hb, hml, hown, hts⟩ (z_L_root l dC dI H.size aX fsX aH fsHe w1 (fh_sub o_fsX.2 [0] rfl) (fh_sub o_fsHe.2 [0] rfl) hst ) (vx_cwSW 3 hts g_lk_10_z_L_root_167 rfl rfl rfl (by decide +kernel) ⟨Nat.le_of_ble_eq_true rfl, Nat.le_of_ble_eq_true rfl⟩) ⟨fun a U g mk q => by obtain ⟨q0, q1, qZ, qY, qP, qK, qD⟩ := q; exact ⟨q0, q1, Zz_call qZ, Yy_call qY, qP, va_K.moved (u := U) (U := U.calling g mk a) (Vm.Alike.refl U.vm) qK, qD⟩, fun U hU hW => ⟨rfl, by rw [hU], Zz_go hZ hS hFc hU hW, Yy_go hY hW, by rw [hU]; exact hPc, va_K.moved hW.alike hKc, hDc.weaken (fun _ _ _ _ => trivial)⟩⟩ rfl rfl hl.1 rfl (lv_room (Nat.le_of_ble_eq_true rfl)) dL_law_780 ⟨Nat.le_of_ble_eq_true rfl, Nat.le_of_ble_eq_true rfl⟩) hS (fun q _ h => hFc q h) hFc (fun q _ h => hFc q h) (fun E ce q9 u t H1 locs ht hvm hpx hBX hz1 hk1 hS hce hcv hcl => ?_) (fun r106 u t H1 locs ht hvm hw hB hz1 hk1 hS => ?_)
    · exact False.elim hBX
    · skip
      obtain ⟨hP1, hK1, hD1⟩ := hB
      rw [ht] at hP1
      try dsimp only at hw
      obtain ⟨hP, hD⟩ := va_join (wr := [(aZ, .inr (15, fsZ))]) (w1 := []) hP hD [0, 1] [2] rfl rfl (by decide) (by decide) hk1 hFc hP1 hD1
      have hK := hK.sub (tys' := []) [] rfl
      generalize H1 = H at hP hS ⊢
      refine W.widen (k := 391) (n := 571365) (by omega) (by omega) ?_
      have hP : va_P (dC, dI) vwCl [(aZ, .inr (15, fsZ))] H := hP
      have hD : va_D A [(aZ, .inr (15, fsZ))] := hD
      rcases hw with ⟨c107, er108⟩ | ⟨c109, c110, er111⟩
      · skip
        subst er108
        refine lv_istore (lv' := [(5, .int 1), (0, .ref b), (1, .ref aX), (2, .ref aZ), (3, .ref qO), (4, .int 0)]) hx hb dL_law_783 hl (by decide) rfl (fun ls hl => ?_)
        refine lv_aload_n hx hb dL_law_785 rfl (lv_at hl 3 rfl) ?_
        refine lv_aload_n hx hb dL_law_786 rfl (lv_at hl 1 rfl) ?_
        refine lv_iload hx hb dL_law_787 (lv_at hl 5 rfl) ?_
        refine lv_iconst (v := 1) hx hb dL_law_789 (by decide) ?_
        refine lv_iadd hx hb dL_law_790  ?_
        refine lv_topi (fun x112 ex112 => ?_)
        obtain rfl : x112 = 1 := ex112.trans (by decide)
        refine va_sld hx hb hX hbl hbA hS (show vp_in 1 6 from by unfold vp_in; decide) dL_law_791 ?_
        refine lv_topi (fun x113 ex113 => ?_)
        obtain rfl : w1 = x113 := hw1.trans ex113.symm
        refine lv_aload_n hx hb dL_law_792 rfl (lv_at hl 1 rfl) ?_
        refine lv_iload hx hb dL_law_793 (lv_at hl 5 rfl) ?_
        refine lv_iconst (v := 2) hx hb dL_law_795 (by decide) ?_
        refine lv_iadd hx hb dL_law_796  ?_
        refine lv_topi (fun x114 ex114 => ?_)
        obtain rfl : x114 = 2 := ex114.trans (by decide)
        refine va_sld hx hb hX hbl hbA hS (show vp_in 2 6 from by unfold vp_in; decide) dL_law_797 ?_
        refine lv_topi (fun x115 ex115 => ?_)
        obtain rfl : w2 = x115 := hw2.trans ex115.symm
        refine lv_if_eq (tgt := 805) hx hb dL_law_798 (by decide) (fun c116 => ?_) (fun c116 => (by exfalso; have bd_w2 := i_bd w2; (try simp only [i_lt, i_le, i_eq, kc_0] at c105 c116); omega))
        refine lv_iconst (v := 0) hx hb dL_law_805 (by decide) ?_
        have hPc := hP.sub (ws' := [(aZ, .inr (15, fsZ))]) [0] rfl
        have hDc := hD.sub (ws' := [(aZ, .inr (15, fsZ))]) [0] (by decide) rfl
        have hKc := hK.sub (tys' := []) [] rfl
        have hFc := va_free (wc := [(aZ, .inr (15, fsZ))]) hD hS hA [0] rfl
        refine va_callv (va_runV (As := [.int w1, .int 0]) (rest := []) ⟨hx, hb, hml, hown, hts⟩ (z_X12_root l dC dI H.size aZ fsZ w1 (fh_sub o_fsZ.2 [0, 1] rfl) ) (cwV 2 hts g_lk_10_z_X12_root_170 rfl rfl rfl (by decide +kernel) ⟨Nat.le_of_ble_eq_true rfl, Nat.le_of_ble_eq_true rfl⟩) ⟨fun a U g mk q => by obtain ⟨q0, q1, qP, qK, qD⟩ := q; exact ⟨q0, q1, qP, va_K.moved (u := U) (U := U.calling g mk a) (Vm.Alike.refl U.vm) qK, qD⟩, va_recv hK hP (ci := 15) (q0 := 0) rfl rfl, fun U hU hW => ⟨rfl, by rw [hU], by rw [hU]; exact hPc, va_K.moved hW.alike hKc, hDc.weaken (fun _ _ _ _ => trivial)⟩⟩ rfl rfl hl.1 rfl (lv_room (Nat.le_of_ble_eq_true rfl)) dL_law_806 ⟨Nat.le_of_ble_eq_true rfl, Nat.le_of_ble_eq_true rfl⟩) hS (fun q _ h => hFc q h) hFc (fun u t H1 locs ht hvm hw hB hz1 hk1 hS => ?_)
        obtain ⟨s117, rfl⟩ : ∃ z, z = u := ⟨_, rfl⟩
        obtain ⟨hP1, hK1, hD1⟩ := hB
        rw [ht] at hP1
        try dsimp only at hw
        obtain ⟨hP, hD⟩ := va_join (wr := []) (w1 := [(aZ, .inr (15, s117))]) hP hD [0] [] rfl rfl (by decide) (by decide) hk1 hFc hP1 hD1
        have hK := hK.sub (tys' := []) [] rfl
        generalize H1 = H at hP hS ⊢
        have hP : va_P (dC, dI) vwCl [(aZ, .inr (15, s117))] H := hP
        have hD : va_D A [(aZ, .inr (15, s117))] := hD
        rcases hw with ⟨c118, o_s117⟩ | ⟨c119, c120, o_s117⟩
        · skip
          have o_s117 := ow_on o_fsZ o_s117 (l' := [(0, .int 1), (26, .int 0), (26, .int 0)]) (w' := [0]) rfl rfl
          refine lv_aload_n hx hb dL_law_809 rfl (lv_at hl 3 rfl) ?_
          have hPc := hP.sub (ws' := [(aZ, .inr (15, s117))]) [0] rfl
          have hDc := hD.sub (ws' := [(aZ, .inr (15, s117))]) [0] (by decide) rfl
          have hKc := hK.sub (tys' := []) [] rfl
          have hFc := va_free (wc := [(aZ, .inr (15, s117))]) hD hS hA [0] rfl
          refine va_calli (va_runV (As := []) (rest := []) ⟨hx, hb, hml, hown, hts⟩ (z_X12_thrown l dC dI H.size aZ s117 (fh_sub o_s117.2 [0] rfl) ) (cwV 0 hts g_lk_10_z_X12_thrown_149 rfl rfl rfl (by decide +kernel) ⟨Nat.le_of_ble_eq_true rfl, Nat.le_of_ble_eq_true rfl⟩) ⟨fun a U g mk q => by obtain ⟨q0, q1, qP, qK, qD⟩ := q; exact ⟨q0, q1, qP, va_K.moved (u := U) (U := U.calling g mk a) (Vm.Alike.refl U.vm) qK, qD⟩, va_recv hK hP (ci := 15) (q0 := 0) rfl rfl, fun U hU hW => ⟨rfl, by rw [hU], by rw [hU]; exact hPc, va_K.moved hW.alike hKc, hDc.weaken (fun _ _ _ _ => trivial)⟩⟩ rfl rfl hl.1 rfl (lv_room (Nat.le_of_ble_eq_true rfl)) dL_law_810 ⟨Nat.le_of_ble_eq_true rfl, Nat.le_of_ble_eq_true rfl⟩) hS (fun q _ h => hFc q h) hFc (fun r121 u t H1 locs ht hvm hw hB hz1 hk1 hS => ?_)
          obtain ⟨hP1, hK1, hD1⟩ := hB
          rw [ht] at hP1
          try dsimp only at hw
          obtain ⟨hP, hD⟩ := va_join (wr := []) (w1 := [(aZ, .inr (15, s117))]) hP hD [0] [] rfl rfl (by decide) (by decide) hk1 hFc hP1 hD1
          have hK := hK.sub (tys' := []) [] rfl
          generalize H1 = H at hP hS ⊢
          have hP : va_P (dC, dI) vwCl [(aZ, .inr (15, s117))] H := hP
          have hD : va_D A [(aZ, .inr (15, s117))] := hD
          have er122 := hw
          subst er122
          refine lv_iload hx hb dL_law_813 (lv_at hl 0 rfl) ?_
          refine lv_icmp_eq (tgt := 820) hx hb dL_law_815 (by decide) (fun c123 => ?_) (fun c123 => absurd c123 (by decide))
          refine lv_goto (tgt := 3111) hx hb dL_law_820 (by decide) ?_
          exact lw_end hst C0 hA hAf hZ hY (Nat.le_of_ble_eq_true rfl) (Nat.le_of_ble_eq_true rfl) dC dI P0k P0 D0 hS ls (lv_sub hl [1, 5] rfl)
        · exact (by exfalso; (try simp only [i_lt, i_le, i_eq, kc_0] at c107 c119 c120); omega)
      · skip
        subst er111
        refine lv_istore (lv' := [(5, .int 1), (0, .ref b), (1, .ref aX), (2, .ref aZ), (3, .ref qO), (4, .int 0)]) hx hb dL_law_783 hl (by decide) rfl (fun ls hl => ?_)
        refine lv_aload_n hx hb dL_law_785 rfl (lv_at hl 3 rfl) ?_
        refine lv_aload_n hx hb dL_law_786 rfl (lv_at hl 1 rfl) ?_
        refine lv_iload hx hb dL_law_787 (lv_at hl 5 rfl) ?_
        refine lv_iconst (v := 1) hx hb dL_law_789 (by decide) ?_
        refine lv_iadd hx hb dL_law_790  ?_
        refine lv_topi (fun x124 ex124 => ?_)
        obtain rfl : x124 = 1 := ex124.trans (by decide)
        refine va_sld hx hb hX hbl hbA hS (show vp_in 1 6 from by unfold vp_in; decide) dL_law_791 ?_
        refine lv_topi (fun x125 ex125 => ?_)
        obtain rfl : w1 = x125 := hw1.trans ex125.symm
        refine lv_aload_n hx hb dL_law_792 rfl (lv_at hl 1 rfl) ?_
        refine lv_iload hx hb dL_law_793 (lv_at hl 5 rfl) ?_
        refine lv_iconst (v := 2) hx hb dL_law_795 (by decide) ?_
        refine lv_iadd hx hb dL_law_796  ?_
        refine lv_topi (fun x126 ex126 => ?_)
        obtain rfl : x126 = 2 := ex126.trans (by decide)
        refine va_sld hx hb hX hbl hbA hS (show vp_in 2 6 from by unfold vp_in; decide) dL_law_797 ?_
        refine lv_topi (fun x127 ex127 => ?_)
        obtain rfl : w2 = x127 := hw2.trans ex127.symm
        refine lv_if_eq (tgt := 805) hx hb dL_law_798 (by decide) (fun c128 => ?_) (fun c128 => (by exfalso; have bd_w2 := i_bd w2; (try simp only [i_lt, i_le, i_eq, kc_0] at c105 c128); omega))
        refine lv_iconst (v := 0) hx hb dL_law_805 (by decide) ?_
        have hPc := hP.sub (ws' := [(aZ, .inr (15, fsZ))]) [0] rfl
        have hDc := hD.sub (ws' := [(aZ, .inr (15, fsZ))]) [0] (by decide) rfl
        have hKc := hK.sub (tys' := []) [] rfl
        have hFc := va_free (wc := [(aZ, .inr (15, fsZ))]) hD hS hA [0] rfl
        refine va_callv (va_runV (As := [.int w1, .int 0]) (rest := []) ⟨hx, hb, hml, hown, hts⟩ (z_X12_root l dC dI H.size aZ fsZ w1 (fh_sub o_fsZ.2 [0, 1] rfl) ) (cwV 2 hts g_lk_10_z_X12_root_170 rfl rfl rfl (by decide +kernel) ⟨Nat.le_of_ble_eq_true rfl, Nat.le_of_ble_eq_true rfl⟩) ⟨fun a U g mk q => by obtain ⟨q0, q1, qP, qK, qD⟩ := q; exact ⟨q0, q1, qP, va_K.moved (u := U) (U := U.calling g mk a) (Vm.Alike.refl U.vm) qK, qD⟩, va_recv hK hP (ci := 15) (q0 := 0) rfl rfl, fun U hU hW => ⟨rfl, by rw [hU], by rw [hU]; exact hPc, va_K.moved hW.alike hKc, hDc.weaken (fun _ _ _ _ => trivial)⟩⟩ rfl rfl hl.1 rfl (lv_room (Nat.le_of_ble_eq_true rfl)) dL_law_806 ⟨Nat.le_of_ble_eq_true rfl, Nat.le_of_ble_eq_true rfl⟩) hS (fun q _ h => hFc q h) hFc (fun u t H1 locs ht hvm hw hB hz1 hk1 hS => ?_)
        obtain ⟨s129, rfl⟩ : ∃ z, z = u := ⟨_, rfl⟩
        obtain ⟨hP1, hK1, hD1⟩ := hB
        rw [ht] at hP1
        try dsimp only at hw
        obtain ⟨hP, hD⟩ := va_join (wr := []) (w1 := [(aZ, .inr (15, s129))]) hP hD [0] [] rfl rfl (by decide) (by decide) hk1 hFc hP1 hD1
        have hK := hK.sub (tys' := []) [] rfl
        generalize H1 = H at hP hS ⊢
        have hP : va_P (dC, dI) vwCl [(aZ, .inr (15, s129))] H := hP
        have hD : va_D A [(aZ, .inr (15, s129))] := hD
        rcases hw with ⟨c130, o_s129⟩ | ⟨c131, c132, o_s129⟩
        · exact (by exfalso; (try simp only [i_lt, i_le, i_eq, kc_0] at c109 c110 c130); omega)
        · skip
          have o_s129 := ow_on o_fsZ o_s129 (l' := [(0, .int 1), (26, .int 0), (26, .int 0)]) (w' := [0]) rfl rfl
          refine lv_aload_n hx hb dL_law_809 rfl (lv_at hl 3 rfl) ?_
          have hPc := hP.sub (ws' := [(aZ, .inr (15, s129))]) [0] rfl
          have hDc := hD.sub (ws' := [(aZ, .inr (15, s129))]) [0] (by decide) rfl
          have hKc := hK.sub (tys' := []) [] rfl
          have hFc := va_free (wc := [(aZ, .inr (15, s129))]) hD hS hA [0] rfl
          refine va_calli (va_runV (As := []) (rest := []) ⟨hx, hb, hml, hown, hts⟩ (z_X12_thrown l dC dI H.size aZ s129 (fh_sub o_s129.2 [0] rfl) ) (cwV 0 hts g_lk_10_z_X12_thrown_149 rfl rfl rfl (by decide +kernel) ⟨Nat.le_of_ble_eq_true rfl, Nat.le_of_ble_eq_true rfl⟩) ⟨fun a U g mk q => by obtain ⟨q0, q1, qP, qK, qD⟩ := q; exact ⟨q0, q1, qP, va_K.moved (u := U) (U := U.calling g mk a) (Vm.Alike.refl U.vm) qK, qD⟩, va_recv hK hP (ci := 15) (q0 := 0) rfl rfl, fun U hU hW => ⟨rfl, by rw [hU], by rw [hU]; exact hPc, va_K.moved hW.alike hKc, hDc.weaken (fun _ _ _ _ => trivial)⟩⟩ rfl rfl hl.1 rfl (lv_room (Nat.le_of_ble_eq_true rfl)) dL_law_810 ⟨Nat.le_of_ble_eq_true rfl, Nat.le_of_ble_eq_true rfl⟩) hS (fun q _ h => hFc q h) hFc (fun r133 u t H1 locs ht hvm hw hB hz1 hk1 hS => ?_)
          obtain ⟨hP1, hK1, hD1⟩ := hB
          rw [ht] at hP1
          try dsimp only at hw
          obtain ⟨hP, hD⟩ := va_join (wr := []) (w1 := [(aZ, .inr (15, s129))]) hP hD [0] [] rfl rfl (by decide) (by decide) hk1 hFc hP1 hD1
          have hK := hK.sub (tys' := []) [] rfl
          generalize H1 = H at hP hS ⊢
          have hP : va_P (dC, dI) vwCl [(aZ, .inr (15, s129))] H := hP
          have hD : va_D A [(aZ, .inr (15, s129))] := hD
          have er134 := hw
          subst er134
          refine lv_iload hx hb dL_law_813 (lv_at hl 0 rfl) ?_
          refine lv_icmp_eq (tgt := 820) hx hb dL_law_815 (by decide) (fun c135 => ?_) (fun c135 => absurd c135 (by decide))
          refine lv_goto (tgt := 3111) hx hb dL_law_820 (by decide) ?_
          exact lw_end hst C0 hA hAf hZ hY (Nat.le_of_ble_eq_true rfl) (Nat.le_of_ble_eq_true rfl) dC dI P0k P0 D0 hS ls (lv_sub hl [1, 5] rfl)
  · skip
    refine lv_iconst (v := 1) hx hb dL_law_775 (by decide) ?_
    refine lv_goto (tgt := 780) hx hb dL_law_776 (by decide) ?_
    have hPc := hP.sub (ws' := [(aX, .inr (14, fsX)), (aH, .inr (5, fsHe))]) [0, 1] rfl
    have hDc := hD.sub (ws' := [(aX, .inr (14, fsX)), (aH, .inr (5, fsHe))]) [0, 1] (by decide) rfl
    have hKc := hK.sub (tys' := []) [] rfl
    have hFc := va_free (wc := [(aX, .inr (14, fsX)), (aH, .inr (5, fsHe))]) hD hS hA [0, 1] rfl
    refine vx_calli (vx_runSX (As := [.ref aX, .int w1, .int 1]) (rest := []) ⟨hx, hb, hml, hown, hts⟩ (z_L_root_1 l dC dI H.size aX fsX aH fsHe w1 (fh_sub o_fsX.2 [0] rfl) (fh_sub o_fsHe.2 [0] rfl) hst ) (vx_cwSW 3 hts g_lk_10_z_L_root_1_167 rfl rfl rfl (by decide +kernel) ⟨Nat.le_of_ble_eq_true rfl, Nat.le_of_ble_eq_true rfl⟩) ⟨fun a U g mk q => by obtain ⟨q0, q1, qZ, qY, qP, qK, qD⟩ := q; exact ⟨q0, q1, Zz_call qZ, Yy_call qY, qP, va_K.moved (u := U) (U := U.calling g mk a) (Vm.Alike.refl U.vm) qK, qD⟩, fun U hU hW => ⟨rfl, by rw [hU], Zz_go hZ hS hFc hU hW, Yy_go hY hW, by rw [hU]; exact hPc, va_K.moved hW.alike hKc, hDc.weaken (fun _ _ _ _ => trivial)⟩⟩ rfl rfl hl.1 rfl (lv_room (Nat.le_of_ble_eq_true rfl)) dL_law_780 ⟨Nat.le_of_ble_eq_true rfl, Nat.le_of_ble_eq_true rfl⟩) hS (fun q _ h => hFc q h) hFc (fun q _ h => hFc q h) (fun E ce q9 u t H1 locs ht hvm hpx hBX hz1 hk1 hS hce hcv hcl => ?_) (fun r136 u t H1 locs ht hvm hw hB hz1 hk1 hS => ?_)
    · exact False.elim hBX
    · skip
      obtain ⟨hP1, hK1, hD1⟩ := hB
      rw [ht] at hP1
      try dsimp only at hw
      obtain ⟨hP, hD⟩ := va_join (wr := [(aZ, .inr (15, fsZ))]) (w1 := []) hP hD [0, 1] [2] rfl rfl (by decide) (by decide) hk1 hFc hP1 hD1
      have hK := hK.sub (tys' := []) [] rfl
      generalize H1 = H at hP hS ⊢
      refine W.widen (k := 391) (n := 571365) (by omega) (by omega) ?_
      have hP : va_P (dC, dI) vwCl [(aZ, .inr (15, fsZ))] H := hP
      have hD : va_D A [(aZ, .inr (15, fsZ))] := hD
      rcases hw with ⟨c137, er138⟩ | ⟨c139, c140, er141⟩
      · skip
        subst er138
        refine lv_istore (lv' := [(5, .int 1), (0, .ref b), (1, .ref aX), (2, .ref aZ), (3, .ref qO), (4, .int 0)]) hx hb dL_law_783 hl (by decide) rfl (fun ls hl => ?_)
        refine lv_aload_n hx hb dL_law_785 rfl (lv_at hl 3 rfl) ?_
        refine lv_aload_n hx hb dL_law_786 rfl (lv_at hl 1 rfl) ?_
        refine lv_iload hx hb dL_law_787 (lv_at hl 5 rfl) ?_
        refine lv_iconst (v := 1) hx hb dL_law_789 (by decide) ?_
        refine lv_iadd hx hb dL_law_790  ?_
        refine lv_topi (fun x142 ex142 => ?_)
        obtain rfl : x142 = 1 := ex142.trans (by decide)
        refine va_sld hx hb hX hbl hbA hS (show vp_in 1 6 from by unfold vp_in; decide) dL_law_791 ?_
        refine lv_topi (fun x143 ex143 => ?_)
        obtain rfl : w1 = x143 := hw1.trans ex143.symm
        refine lv_aload_n hx hb dL_law_792 rfl (lv_at hl 1 rfl) ?_
        refine lv_iload hx hb dL_law_793 (lv_at hl 5 rfl) ?_
        refine lv_iconst (v := 2) hx hb dL_law_795 (by decide) ?_
        refine lv_iadd hx hb dL_law_796  ?_
        refine lv_topi (fun x144 ex144 => ?_)
        obtain rfl : x144 = 2 := ex144.trans (by decide)
        refine va_sld hx hb hX hbl hbA hS (show vp_in 2 6 from by unfold vp_in; decide) dL_law_797 ?_
        refine lv_topi (fun x145 ex145 => ?_)
        obtain rfl : w2 = x145 := hw2.trans ex145.symm
        refine lv_if_eq (tgt := 805) hx hb dL_law_798 (by decide) (fun c146 => ?_) (fun c146 => ?_)
        · skip
          refine lv_iconst (v := 0) hx hb dL_law_805 (by decide) ?_
          have hPc := hP.sub (ws' := [(aZ, .inr (15, fsZ))]) [0] rfl
          have hDc := hD.sub (ws' := [(aZ, .inr (15, fsZ))]) [0] (by decide) rfl
          have hKc := hK.sub (tys' := []) [] rfl
          have hFc := va_free (wc := [(aZ, .inr (15, fsZ))]) hD hS hA [0] rfl
          refine va_callv (va_runV (As := [.int w1, .int 0]) (rest := []) ⟨hx, hb, hml, hown, hts⟩ (z_X12_root l dC dI H.size aZ fsZ w1 (fh_sub o_fsZ.2 [0, 1] rfl) ) (cwV 2 hts g_lk_10_z_X12_root_170 rfl rfl rfl (by decide +kernel) ⟨Nat.le_of_ble_eq_true rfl, Nat.le_of_ble_eq_true rfl⟩) ⟨fun a U g mk q => by obtain ⟨q0, q1, qP, qK, qD⟩ := q; exact ⟨q0, q1, qP, va_K.moved (u := U) (U := U.calling g mk a) (Vm.Alike.refl U.vm) qK, qD⟩, va_recv hK hP (ci := 15) (q0 := 0) rfl rfl, fun U hU hW => ⟨rfl, by rw [hU], by rw [hU]; exact hPc, va_K.moved hW.alike hKc, hDc.weaken (fun _ _ _ _ => trivial)⟩⟩ rfl rfl hl.1 rfl (lv_room (Nat.le_of_ble_eq_true rfl)) dL_law_806 ⟨Nat.le_of_ble_eq_true rfl, Nat.le_of_ble_eq_true rfl⟩) hS (fun q _ h => hFc q h) hFc (fun u t H1 locs ht hvm hw hB hz1 hk1 hS => ?_)
          obtain ⟨s147, rfl⟩ : ∃ z, z = u := ⟨_, rfl⟩
          obtain ⟨hP1, hK1, hD1⟩ := hB
          rw [ht] at hP1
          try dsimp only at hw
          obtain ⟨hP, hD⟩ := va_join (wr := []) (w1 := [(aZ, .inr (15, s147))]) hP hD [0] [] rfl rfl (by decide) (by decide) hk1 hFc hP1 hD1
          have hK := hK.sub (tys' := []) [] rfl
          generalize H1 = H at hP hS ⊢
          have hP : va_P (dC, dI) vwCl [(aZ, .inr (15, s147))] H := hP
          have hD : va_D A [(aZ, .inr (15, s147))] := hD
          rcases hw with ⟨c148, o_s147⟩ | ⟨c149, c150, o_s147⟩
          · skip
            have o_s147 := ow_on o_fsZ o_s147 (l' := [(0, .int 1), (26, .int 0), (26, .int 0)]) (w' := [0]) rfl rfl
            refine lv_aload_n hx hb dL_law_809 rfl (lv_at hl 3 rfl) ?_
            have hPc := hP.sub (ws' := [(aZ, .inr (15, s147))]) [0] rfl
            have hDc := hD.sub (ws' := [(aZ, .inr (15, s147))]) [0] (by decide) rfl
            have hKc := hK.sub (tys' := []) [] rfl
            have hFc := va_free (wc := [(aZ, .inr (15, s147))]) hD hS hA [0] rfl
            refine va_calli (va_runV (As := []) (rest := []) ⟨hx, hb, hml, hown, hts⟩ (z_X12_thrown l dC dI H.size aZ s147 (fh_sub o_s147.2 [0] rfl) ) (cwV 0 hts g_lk_10_z_X12_thrown_149 rfl rfl rfl (by decide +kernel) ⟨Nat.le_of_ble_eq_true rfl, Nat.le_of_ble_eq_true rfl⟩) ⟨fun a U g mk q => by obtain ⟨q0, q1, qP, qK, qD⟩ := q; exact ⟨q0, q1, qP, va_K.moved (u := U) (U := U.calling g mk a) (Vm.Alike.refl U.vm) qK, qD⟩, va_recv hK hP (ci := 15) (q0 := 0) rfl rfl, fun U hU hW => ⟨rfl, by rw [hU], by rw [hU]; exact hPc, va_K.moved hW.alike hKc, hDc.weaken (fun _ _ _ _ => trivial)⟩⟩ rfl rfl hl.1 rfl (lv_room (Nat.le_of_ble_eq_true rfl)) dL_law_810 ⟨Nat.le_of_ble_eq_true rfl, Nat.le_of_ble_eq_true rfl⟩) hS (fun q _ h => hFc q h) hFc (fun r151 u t H1 locs ht hvm hw hB hz1 hk1 hS => ?_)
            obtain ⟨hP1, hK1, hD1⟩ := hB
            rw [ht] at hP1
            try dsimp only at hw
            obtain ⟨hP, hD⟩ := va_join (wr := []) (w1 := [(aZ, .inr (15, s147))]) hP hD [0] [] rfl rfl (by decide) (by decide) hk1 hFc hP1 hD1
            have hK := hK.sub (tys' := []) [] rfl
            generalize H1 = H at hP hS ⊢
            have hP : va_P (dC, dI) vwCl [(aZ, .inr (15, s147))] H := hP
            have hD : va_D A [(aZ, .inr (15, s147))] := hD
            have er152 := hw
            subst er152
            refine lv_iload hx hb dL_law_813 (lv_at hl 0 rfl) ?_
            refine lv_icmp_eq (tgt := 820) hx hb dL_law_815 (by decide) (fun c153 => ?_) (fun c153 => absurd c153 (by decide))
            refine lv_goto (tgt := 3111) hx hb dL_law_820 (by decide) ?_
            exact lw_end hst C0 hA hAf hZ hY (Nat.le_of_ble_eq_true rfl) (Nat.le_of_ble_eq_true rfl) dC dI P0k P0 D0 hS ls (lv_sub hl [1, 5] rfl)
          · exact (by exfalso; (try simp only [i_lt, i_le, i_eq, kc_0] at c137 c149 c150); omega)
        · skip
          refine lv_iconst (v := 1) hx hb dL_law_801 (by decide) ?_
          refine lv_goto (tgt := 806) hx hb dL_law_802 (by decide) ?_
          have hPc := hP.sub (ws' := [(aZ, .inr (15, fsZ))]) [0] rfl
          have hDc := hD.sub (ws' := [(aZ, .inr (15, fsZ))]) [0] (by decide) rfl
          have hKc := hK.sub (tys' := []) [] rfl
          have hFc := va_free (wc := [(aZ, .inr (15, fsZ))]) hD hS hA [0] rfl
          refine va_callv (va_runV (As := [.int w1, .int 1]) (rest := []) ⟨hx, hb, hml, hown, hts⟩ (z_X12_root_1 l dC dI H.size aZ fsZ w1 (fh_sub o_fsZ.2 [0, 1] rfl) ) (cwV 2 hts g_lk_10_z_X12_root_1_170 rfl rfl rfl (by decide +kernel) ⟨Nat.le_of_ble_eq_true rfl, Nat.le_of_ble_eq_true rfl⟩) ⟨fun a U g mk q => by obtain ⟨q0, q1, qP, qK, qD⟩ := q; exact ⟨q0, q1, qP, va_K.moved (u := U) (U := U.calling g mk a) (Vm.Alike.refl U.vm) qK, qD⟩, va_recv hK hP (ci := 15) (q0 := 0) rfl rfl, fun U hU hW => ⟨rfl, by rw [hU], by rw [hU]; exact hPc, va_K.moved hW.alike hKc, hDc.weaken (fun _ _ _ _ => trivial)⟩⟩ rfl rfl hl.1 rfl (lv_room (Nat.le_of_ble_eq_true rfl)) dL_law_806 ⟨Nat.le_of_ble_eq_true rfl, Nat.le_of_ble_eq_true rfl⟩) hS (fun q _ h => hFc q h) hFc (fun u t H1 locs ht hvm hw hB hz1 hk1 hS => ?_)
          obtain ⟨s154, rfl⟩ : ∃ z, z = u := ⟨_, rfl⟩
          obtain ⟨hP1, hK1, hD1⟩ := hB
          rw [ht] at hP1
          try dsimp only at hw
          obtain ⟨hP, hD⟩ := va_join (wr := []) (w1 := [(aZ, .inr (15, s154))]) hP hD [0] [] rfl rfl (by decide) (by decide) hk1 hFc hP1 hD1
          have hK := hK.sub (tys' := []) [] rfl
          generalize H1 = H at hP hS ⊢
          have hP : va_P (dC, dI) vwCl [(aZ, .inr (15, s154))] H := hP
          have hD : va_D A [(aZ, .inr (15, s154))] := hD
          rcases hw with ⟨c155, o_s154⟩ | ⟨c156, c157, o_s154⟩
          · skip
            have o_s154 := ow_on o_fsZ o_s154 (l' := [(0, .int 1), (26, .int 0), (26, .int 0)]) (w' := [0]) rfl rfl
            refine lv_aload_n hx hb dL_law_809 rfl (lv_at hl 3 rfl) ?_
            have hPc := hP.sub (ws' := [(aZ, .inr (15, s154))]) [0] rfl
            have hDc := hD.sub (ws' := [(aZ, .inr (15, s154))]) [0] (by decide) rfl
            have hKc := hK.sub (tys' := []) [] rfl
            have hFc := va_free (wc := [(aZ, .inr (15, s154))]) hD hS hA [0] rfl
            refine va_calli (va_runV (As := []) (rest := []) ⟨hx, hb, hml, hown, hts⟩ (z_X12_thrown l dC dI H.size aZ s154 (fh_sub o_s154.2 [0] rfl) ) (cwV 0 hts g_lk_10_z_X12_thrown_149 rfl rfl rfl (by decide +kernel) ⟨Nat.le_of_ble_eq_true rfl, Nat.le_of_ble_eq_true rfl⟩) ⟨fun a U g mk q => by obtain ⟨q0, q1, qP, qK, qD⟩ := q; exact ⟨q0, q1, qP, va_K.moved (u := U) (U := U.calling g mk a) (Vm.Alike.refl U.vm) qK, qD⟩, va_recv hK hP (ci := 15) (q0 := 0) rfl rfl, fun U hU hW => ⟨rfl, by rw [hU], by rw [hU]; exact hPc, va_K.moved hW.alike hKc, hDc.weaken (fun _ _ _ _ => trivial)⟩⟩ rfl rfl hl.1 rfl (lv_room (Nat.le_of_ble_eq_true rfl)) dL_law_810 ⟨Nat.le_of_ble_eq_true rfl, Nat.le_of_ble_eq_true rfl⟩) hS (fun q _ h => hFc q h) hFc (fun r158 u t H1 locs ht hvm hw hB hz1 hk1 hS => ?_)
            obtain ⟨hP1, hK1, hD1⟩ := hB
            rw [ht] at hP1
            try dsimp only at hw
            obtain ⟨hP, hD⟩ := va_join (wr := []) (w1 := [(aZ, .inr (15, s154))]) hP hD [0] [] rfl rfl (by decide) (by decide) hk1 hFc hP1 hD1
            have hK := hK.sub (tys' := []) [] rfl
            generalize H1 = H at hP hS ⊢
            have hP : va_P (dC, dI) vwCl [(aZ, .inr (15, s154))] H := hP
            have hD : va_D A [(aZ, .inr (15, s154))] := hD
            have er159 := hw
            subst er159
            refine lv_iload hx hb dL_law_813 (lv_at hl 0 rfl) ?_
            refine lv_icmp_eq (tgt := 820) hx hb dL_law_815 (by decide) (fun c160 => ?_) (fun c160 => absurd c160 (by decide))
            refine lv_goto (tgt := 3111) hx hb dL_law_820 (by decide) ?_
            exact lw_end hst C0 hA hAf hZ hY (Nat.le_of_ble_eq_true rfl) (Nat.le_of_ble_eq_true rfl) dC dI P0k P0 D0 hS ls (lv_sub hl [1, 5] rfl)
          · exact (by exfalso; (try simp only [i_lt, i_le, i_eq, kc_0] at c137 c156 c157); omega)
      · skip
        subst er141
        refine lv_istore (lv' := [(5, .int 1), (0, .ref b), (1, .ref aX), (2, .ref aZ), (3, .ref qO), (4, .int 0)]) hx hb dL_law_783 hl (by decide) rfl (fun ls hl => ?_)
        refine lv_aload_n hx hb dL_law_785 rfl (lv_at hl 3 rfl) ?_
        refine lv_aload_n hx hb dL_law_786 rfl (lv_at hl 1 rfl) ?_
        refine lv_iload hx hb dL_law_787 (lv_at hl 5 rfl) ?_
        refine lv_iconst (v := 1) hx hb dL_law_789 (by decide) ?_
        refine lv_iadd hx hb dL_law_790  ?_
        refine lv_topi (fun x161 ex161 => ?_)
        obtain rfl : x161 = 1 := ex161.trans (by decide)
        refine va_sld hx hb hX hbl hbA hS (show vp_in 1 6 from by unfold vp_in; decide) dL_law_791 ?_
        refine lv_topi (fun x162 ex162 => ?_)
        obtain rfl : w1 = x162 := hw1.trans ex162.symm
        refine lv_aload_n hx hb dL_law_792 rfl (lv_at hl 1 rfl) ?_
        refine lv_iload hx hb dL_law_793 (lv_at hl 5 rfl) ?_
        refine lv_iconst (v := 2) hx hb dL_law_795 (by decide) ?_
        refine lv_iadd hx hb dL_law_796  ?_
        refine lv_topi (fun x163 ex163 => ?_)
        obtain rfl : x163 = 2 := ex163.trans (by decide)
        refine va_sld hx hb hX hbl hbA hS (show vp_in 2 6 from by unfold vp_in; decide) dL_law_797 ?_
        refine lv_topi (fun x164 ex164 => ?_)
        obtain rfl : w2 = x164 := hw2.trans ex164.symm
        refine lv_if_eq (tgt := 805) hx hb dL_law_798 (by decide) (fun c165 => ?_) (fun c165 => ?_)
        · skip
          refine lv_iconst (v := 0) hx hb dL_law_805 (by decide) ?_
          have hPc := hP.sub (ws' := [(aZ, .inr (15, fsZ))]) [0] rfl
          have hDc := hD.sub (ws' := [(aZ, .inr (15, fsZ))]) [0] (by decide) rfl
          have hKc := hK.sub (tys' := []) [] rfl
          have hFc := va_free (wc := [(aZ, .inr (15, fsZ))]) hD hS hA [0] rfl
          refine va_callv (va_runV (As := [.int w1, .int 0]) (rest := []) ⟨hx, hb, hml, hown, hts⟩ (z_X12_root l dC dI H.size aZ fsZ w1 (fh_sub o_fsZ.2 [0, 1] rfl) ) (cwV 2 hts g_lk_10_z_X12_root_170 rfl rfl rfl (by decide +kernel) ⟨Nat.le_of_ble_eq_true rfl, Nat.le_of_ble_eq_true rfl⟩) ⟨fun a U g mk q => by obtain ⟨q0, q1, qP, qK, qD⟩ := q; exact ⟨q0, q1, qP, va_K.moved (u := U) (U := U.calling g mk a) (Vm.Alike.refl U.vm) qK, qD⟩, va_recv hK hP (ci := 15) (q0 := 0) rfl rfl, fun U hU hW => ⟨rfl, by rw [hU], by rw [hU]; exact hPc, va_K.moved hW.alike hKc, hDc.weaken (fun _ _ _ _ => trivial)⟩⟩ rfl rfl hl.1 rfl (lv_room (Nat.le_of_ble_eq_true rfl)) dL_law_806 ⟨Nat.le_of_ble_eq_true rfl, Nat.le_of_ble_eq_true rfl⟩) hS (fun q _ h => hFc q h) hFc (fun u t H1 locs ht hvm hw hB hz1 hk1 hS => ?_)
          obtain ⟨s166, rfl⟩ : ∃ z, z = u := ⟨_, rfl⟩
          obtain ⟨hP1, hK1, hD1⟩ := hB
          rw [ht] at hP1
          try dsimp only at hw
          obtain ⟨hP, hD⟩ := va_join (wr := []) (w1 := [(aZ, .inr (15, s166))]) hP hD [0] [] rfl rfl (by decide) (by decide) hk1 hFc hP1 hD1
          have hK := hK.sub (tys' := []) [] rfl
          generalize H1 = H at hP hS ⊢
          have hP : va_P (dC, dI) vwCl [(aZ, .inr (15, s166))] H := hP
          have hD : va_D A [(aZ, .inr (15, s166))] := hD
          rcases hw with ⟨c167, o_s166⟩ | ⟨c168, c169, o_s166⟩
          · exact (by exfalso; (try simp only [i_lt, i_le, i_eq, kc_0] at c139 c140 c167); omega)
          · skip
            have o_s166 := ow_on o_fsZ o_s166 (l' := [(0, .int 1), (26, .int 0), (26, .int 0)]) (w' := [0]) rfl rfl
            refine lv_aload_n hx hb dL_law_809 rfl (lv_at hl 3 rfl) ?_
            have hPc := hP.sub (ws' := [(aZ, .inr (15, s166))]) [0] rfl
            have hDc := hD.sub (ws' := [(aZ, .inr (15, s166))]) [0] (by decide) rfl
            have hKc := hK.sub (tys' := []) [] rfl
            have hFc := va_free (wc := [(aZ, .inr (15, s166))]) hD hS hA [0] rfl
            refine va_calli (va_runV (As := []) (rest := []) ⟨hx, hb, hml, hown, hts⟩ (z_X12_thrown l dC dI H.size aZ s166 (fh_sub o_s166.2 [0] rfl) ) (cwV 0 hts g_lk_10_z_X12_thrown_149 rfl rfl rfl (by decide +kernel) ⟨Nat.le_of_ble_eq_true rfl, Nat.le_of_ble_eq_true rfl⟩) ⟨fun a U g mk q => by obtain ⟨q0, q1, qP, qK, qD⟩ := q; exact ⟨q0, q1, qP, va_K.moved (u := U) (U := U.calling g mk a) (Vm.Alike.refl U.vm) qK, qD⟩, va_recv hK hP (ci := 15) (q0 := 0) rfl rfl, fun U hU hW => ⟨rfl, by rw [hU], by rw [hU]; exact hPc, va_K.moved hW.alike hKc, hDc.weaken (fun _ _ _ _ => trivial)⟩⟩ rfl rfl hl.1 rfl (lv_room (Nat.le_of_ble_eq_true rfl)) dL_law_810 ⟨Nat.le_of_ble_eq_true rfl, Nat.le_of_ble_eq_true rfl⟩) hS (fun q _ h => hFc q h) hFc (fun r170 u t H1 locs ht hvm hw hB hz1 hk1 hS => ?_)
            obtain ⟨hP1, hK1, hD1⟩ := hB
            rw [ht] at hP1
            try dsimp only at hw
            obtain ⟨hP, hD⟩ := va_join (wr := []) (w1 := [(aZ, .inr (15, s166))]) hP hD [0] [] rfl rfl (by decide) (by decide) hk1 hFc hP1 hD1
            have hK := hK.sub (tys' := []) [] rfl
            generalize H1 = H at hP hS ⊢
            have hP : va_P (dC, dI) vwCl [(aZ, .inr (15, s166))] H := hP
            have hD : va_D A [(aZ, .inr (15, s166))] := hD
            have er171 := hw
            subst er171
            refine lv_iload hx hb dL_law_813 (lv_at hl 0 rfl) ?_
            refine lv_icmp_eq (tgt := 820) hx hb dL_law_815 (by decide) (fun c172 => ?_) (fun c172 => absurd c172 (by decide))
            refine lv_goto (tgt := 3111) hx hb dL_law_820 (by decide) ?_
            exact lw_end hst C0 hA hAf hZ hY (Nat.le_of_ble_eq_true rfl) (Nat.le_of_ble_eq_true rfl) dC dI P0k P0 D0 hS ls (lv_sub hl [1, 5] rfl)
        · skip
          refine lv_iconst (v := 1) hx hb dL_law_801 (by decide) ?_
          refine lv_goto (tgt := 806) hx hb dL_law_802 (by decide) ?_
          have hPc := hP.sub (ws' := [(aZ, .inr (15, fsZ))]) [0] rfl
          have hDc := hD.sub (ws' := [(aZ, .inr (15, fsZ))]) [0] (by decide) rfl
          have hKc := hK.sub (tys' := []) [] rfl
          have hFc := va_free (wc := [(aZ, .inr (15, fsZ))]) hD hS hA [0] rfl
          refine va_callv (va_runV (As := [.int w1, .int 1]) (rest := []) ⟨hx, hb, hml, hown, hts⟩ (z_X12_root_1 l dC dI H.size aZ fsZ w1 (fh_sub o_fsZ.2 [0, 1] rfl) ) (cwV 2 hts g_lk_10_z_X12_root_1_170 rfl rfl rfl (by decide +kernel) ⟨Nat.le_of_ble_eq_true rfl, Nat.le_of_ble_eq_true rfl⟩) ⟨fun a U g mk q => by obtain ⟨q0, q1, qP, qK, qD⟩ := q; exact ⟨q0, q1, qP, va_K.moved (u := U) (U := U.calling g mk a) (Vm.Alike.refl U.vm) qK, qD⟩, va_recv hK hP (ci := 15) (q0 := 0) rfl rfl, fun U hU hW => ⟨rfl, by rw [hU], by rw [hU]; exact hPc, va_K.moved hW.alike hKc, hDc.weaken (fun _ _ _ _ => trivial)⟩⟩ rfl rfl hl.1 rfl (lv_room (Nat.le_of_ble_eq_true rfl)) dL_law_806 ⟨Nat.le_of_ble_eq_true rfl, Nat.le_of_ble_eq_true rfl⟩) hS (fun q _ h => hFc q h) hFc (fun u t H1 locs ht hvm hw hB hz1 hk1 hS => ?_)
          obtain ⟨s173, rfl⟩ : ∃ z, z = u := ⟨_, rfl⟩
          obtain ⟨hP1, hK1, hD1⟩ := hB
          rw [ht] at hP1
          try dsimp only at hw
          obtain ⟨hP, hD⟩ := va_join (wr := []) (w1 := [(aZ, .inr (15, s173))]) hP hD [0] [] rfl rfl (by decide) (by decide) hk1 hFc hP1 hD1
          have hK := hK.sub (tys' := []) [] rfl
          generalize H1 = H at hP hS ⊢
          have hP : va_P (dC, dI) vwCl [(aZ, .inr (15, s173))] H := hP
          have hD : va_D A [(aZ, .inr (15, s173))] := hD
          rcases hw with ⟨c174, o_s173⟩ | ⟨c175, c176, o_s173⟩
          · exact (by exfalso; (try simp only [i_lt, i_le, i_eq, kc_0] at c139 c140 c174); omega)
          · skip
            have o_s173 := ow_on o_fsZ o_s173 (l' := [(0, .int 1), (26, .int 0), (26, .int 0)]) (w' := [0]) rfl rfl
            refine lv_aload_n hx hb dL_law_809 rfl (lv_at hl 3 rfl) ?_
            have hPc := hP.sub (ws' := [(aZ, .inr (15, s173))]) [0] rfl
            have hDc := hD.sub (ws' := [(aZ, .inr (15, s173))]) [0] (by decide) rfl
            have hKc := hK.sub (tys' := []) [] rfl
            have hFc := va_free (wc := [(aZ, .inr (15, s173))]) hD hS hA [0] rfl
            refine va_calli (va_runV (As := []) (rest := []) ⟨hx, hb, hml, hown, hts⟩ (z_X12_thrown l dC dI H.size aZ s173 (fh_sub o_s173.2 [0] rfl) ) (cwV 0 hts g_lk_10_z_X12_thrown_149 rfl rfl rfl (by decide +kernel) ⟨Nat.le_of_ble_eq_true rfl, Nat.le_of_ble_eq_true rfl⟩) ⟨fun a U g mk q => by obtain ⟨q0, q1, qP, qK, qD⟩ := q; exact ⟨q0, q1, qP, va_K.moved (u := U) (U := U.calling g mk a) (Vm.Alike.refl U.vm) qK, qD⟩, va_recv hK hP (ci := 15) (q0 := 0) rfl rfl, fun U hU hW => ⟨rfl, by rw [hU], by rw [hU]; exact hPc, va_K.moved hW.alike hKc, hDc.weaken (fun _ _ _ _ => trivial)⟩⟩ rfl rfl hl.1 rfl (lv_room (Nat.le_of_ble_eq_true rfl)) dL_law_810 ⟨Nat.le_of_ble_eq_true rfl, Nat.le_of_ble_eq_true rfl⟩) hS (fun q _ h => hFc q h) hFc (fun r177 u t H1 locs ht hvm hw hB hz1 hk1 hS => ?_)
            obtain ⟨hP1, hK1, hD1⟩ := hB
            rw [ht] at hP1
            try dsimp only at hw
            obtain ⟨hP, hD⟩ := va_join (wr := []) (w1 := [(aZ, .inr (15, s173))]) hP hD [0] [] rfl rfl (by decide) (by decide) hk1 hFc hP1 hD1
            have hK := hK.sub (tys' := []) [] rfl
            generalize H1 = H at hP hS ⊢
            have hP : va_P (dC, dI) vwCl [(aZ, .inr (15, s173))] H := hP
            have hD : va_D A [(aZ, .inr (15, s173))] := hD
            have er178 := hw
            subst er178
            refine lv_iload hx hb dL_law_813 (lv_at hl 0 rfl) ?_
            refine lv_icmp_eq (tgt := 820) hx hb dL_law_815 (by decide) (fun c179 => ?_) (fun c179 => absurd c179 (by decide))
            refine lv_goto (tgt := 3111) hx hb dL_law_820 (by decide) ?_
            exact lw_end hst C0 hA hAf hZ hY (Nat.le_of_ble_eq_true rfl) (Nat.le_of_ble_eq_true rfl) dC dI P0k P0 D0 hS ls (lv_sub hl [1, 5] rfl)

set_option maxRecDepth 20000 in
theorem g_lk_11_z_L_set_173 : GoodIn lwW (va_wsS RL 173 yL_set w_z_L_set) := goodIn_app (goodIn_sub (ws := ([.methodLink RL 173 yL_set, .static yL_set, .initialized RL] : List Cond)) (gm_c (gm_at lwV_21_in 1 rfl) (gm_c (gm_at lwV_21_in 2 rfl) (gm_c (gm_at lwV_5_in 10 rfl) gm_nil))) (by decide +kernel)) (goodIn_ca (goodIn_sub (ws := .codeWith yL_set cL_set 7 (some .int) [(0, 12, 15, 30), (0, 12, 19, 15)] :: l_z_L_set) (gm_c (gm_at lwV_21_in 6 rfl) (gm_c (gm_at lwV_21_in 7 rfl) (gm_c (gm_at lwV_21_in 8 rfl) (gm_c (gm_at lwV_21_in 9 rfl) (gm_c (gm_at lwV_0_in 3 rfl) (gm_c (gm_at lwV_19_in 11 rfl) (gm_c (gm_at lwV_21_in 10 rfl) (gm_c (gm_at lwV_13_in 9 rfl) (gm_c (gm_at lwV_21_in 11 rfl) (gm_c (gm_at lwV_22_in 0 rfl) (gm_c (gm_at lwV_22_in 1 rfl) (gm_c (gm_at lwV_14_in 4 rfl) (gm_c (gm_at lwV_20_in 4 rfl) (gm_c (gm_at lwV_20_in 5 rfl) (gm_c (gm_at lwV_22_in 2 rfl) (gm_c (gm_at lwV_22_in 3 rfl) (gm_c (gm_at lwV_20_in 2 rfl) (gm_c (gm_at lwV_20_in 3 rfl) (gm_c (gm_at lwV_20_in 6 rfl) (gm_c (gm_at lwV_15_in 1 rfl) gm_nil)))))))))))))))))))) (by decide +kernel)) (goodIn_app (goodIn_in il_X11 gd_X11) (goodIn_app (goodIn_in il_at0_X11_223 gd_at0_X11_223) (goodIn_in il_X2 gd_X2))))
set_option maxRecDepth 20000 in
theorem g_lk_11_z_X12_set_176 : GoodIn lwW (wsV RL 176 RX12 yX12_set w_z_X12_set) := goodIn_app (goodIn_sub (ws := ([.methodLink RL 176 yX12_set, .instanceMethod yX12_set, .selects RX12 yX12_set yX12_set, .initialized RX12] : List Cond)) (gm_c (gm_at lwV_21_in 3 rfl) (gm_c (gm_at lwV_21_in 4 rfl) (gm_c (gm_at lwV_21_in 5 rfl) (gm_c (gm_at lwV_0_in 7 rfl) gm_nil)))) (by decide +kernel)) (goodIn_ca (goodIn_sub (ws := .code yX12_set cX12_set 5 (some .int) :: l_z_X12_set) (gm_c (gm_at lwV_22_in 4 rfl) (gm_c (gm_at lwV_20_in 8 rfl) (gm_c (gm_at lwV_20_in 9 rfl) (gm_c (gm_at lwV_20_in 10 rfl) (gm_c (gm_at lwV_0_in 7 rfl) (gm_c (gm_at lwV_1_in 5 rfl) (gm_c (gm_at lwV_20_in 11 rfl) (gm_c (gm_at lwV_17_in 4 rfl) gm_nil)))))))) (by decide +kernel)) (goodIn_in il_X12 gd_X12))
set_option maxRecDepth 20000 in
theorem g_lk_11_z_X12_thrown_149 : GoodIn lwW (wsV RL 149 RX12 yX12_thrown w_z_X12_thrown) := goodIn_app (goodIn_sub (ws := ([.methodLink RL 149 yX12_thrown, .instanceMethod yX12_thrown, .selects RX12 yX12_thrown yX12_thrown, .initialized RX12] : List Cond)) (gm_c (gm_at lwV_6_in 2 rfl) (gm_c (gm_at lwV_6_in 3 rfl) (gm_c (gm_at lwV_6_in 4 rfl) (gm_c (gm_at lwV_0_in 7 rfl) gm_nil)))) (by decide +kernel)) (goodIn_ca (goodIn_sub (ws := .code yX12_thrown cX12_thrown 1 (some .int) :: l_z_X12_thrown) (gm_c (gm_at lwV_9_in 9 rfl) (gm_c (gm_at lwV_1_in 5 rfl) gm_nil)) (by decide +kernel)) (goodIn_in il_X12 gd_X12))
set_option maxHeartbeats 4000000 in
set_option maxRecDepth 100000 in
/-- the law, one call: set -/
theorem lk_11 {p : Program} {l : Launch} {e : Env} {s : State} {m : MethodId} {below : List Frame} {meth : Method} {c : Code} {b : Nat} {xs : Nat → Int32} (hst : l.stackTraces = false) (C0 : lw_At p s m meth c b 6 xs) {A : Nat → Prop} (hA : ∀ q : Nat, s.heap.size ≤ q → A q) (hAf : ∀ q : Nat, A q → s.heap.size ≤ q) (hZ : Zz A s) (hY : Yy s) (dC : Nat → ClassId) (dI : Nat → Nat → Nat) (aX : Nat) (fsX : List Value) (aH : Nat) (fsHe : List Value) (aZ : Nat) (fsZ : List Value) (qO : Nat) (w1 : Int32) (hw1 : w1 = xs (1 : Int32).toNatClampNeg) (w2 : Int32) (hw2 : w2 = xs (2 : Int32).toNatClampNeg) (w3 : Int32) (hw3 : w3 = xs (3 : Int32).toNatClampNeg) (w4 : Int32) (hw4 : w4 = xs (4 : Int32).toNatClampNeg) (w5 : Int32) (hw5 : w5 = xs (5 : Int32).toNatClampNeg) (k_fsX : fh fsX 18 [(2, .ref aH)]) (k_fsHe : fh fsHe 14 [(1, .int 0)]) (k_fsZ : fh fsZ 150 [(0, .int 0), (26, .int 0)])  {H : Heap} {locs : List Loc} (hK : va_K (dC, dI) vwCl [] s) (hP : va_P (dC, dI) vwCl [(aX, .inr (14, fsX)), (aH, .inr (5, fsHe)), (aZ, .inr (15, fsZ))] H) (hD : va_D A [(aX, .inr (14, fsX)), (aH, .inr (5, fsHe)), (aZ, .inr (15, fsZ))]) (hS : va_S A s.heap H locs) (ls : Array Slot) (hl : lv_has ls 8 [(0, .ref b), (1, .ref aX), (2, .ref aZ), (3, .ref qO), (4, .int 0)]) : W p l e room_1 s m #[Value.ref b] below meth c H locs 390 571359 (lw_Z below #[Value.ref b] s) (F0 m 823 ls []) := by
  obtain ⟨hx, hb, hr, hml, hown0, hts0, hX, hbl, hlocks, hgv⟩ := id C0
  have hown : s.vm.findClass RL = some m.cls := hown0
  have hts : ∀ w ∈ lwW, w.before #[Value.ref b] s = true := fun w h => hts0 w (lwW_in w h)
  have hbA : ¬ A b := fun h => absurd (hAf b h) (Nat.not_le.mpr hbl)
  have o_fsX := ow_0 k_fsX
  have o_fsHe := ow_0 k_fsHe
  have o_fsZ := ow_0 k_fsZ
  refine lv_aload_n hx hb dL_law_823 rfl (lv_at hl 1 rfl) ?_
  refine lv_aload_n hx hb dL_law_824 rfl (lv_at hl 0 rfl) ?_
  refine lv_iload hx hb dL_law_825 (lv_at hl 4 rfl) ?_
  refine lv_iconst (v := 1) hx hb dL_law_827 (by decide) ?_
  refine lv_iadd hx hb dL_law_828  ?_
  refine lv_topi (fun x101 ex101 => ?_)
  obtain rfl : x101 = 1 := ex101.trans (by decide)
  refine va_sld hx hb hX hbl hbA hS (show vp_in 1 6 from by unfold vp_in; decide) dL_law_829 ?_
  refine lv_topi (fun x102 ex102 => ?_)
  obtain rfl : w1 = x102 := hw1.trans ex102.symm
  refine lv_aload_n hx hb dL_law_830 rfl (lv_at hl 0 rfl) ?_
  refine lv_iload hx hb dL_law_831 (lv_at hl 4 rfl) ?_
  refine lv_iconst (v := 2) hx hb dL_law_833 (by decide) ?_
  refine lv_iadd hx hb dL_law_834  ?_
  refine lv_topi (fun x103 ex103 => ?_)
  obtain rfl : x103 = 2 := ex103.trans (by decide)
  refine va_sld hx hb hX hbl hbA hS (show vp_in 2 6 from by unfold vp_in; decide) dL_law_835 ?_
  refine lv_topi (fun x104 ex104 => ?_)
  obtain rfl : w2 = x104 := hw2.trans ex104.symm
  refine lv_aload_n hx hb dL_law_836 rfl (lv_at hl 0 rfl) ?_
  refine lv_iload hx hb dL_law_837 (lv_at hl 4 rfl) ?_
  refine lv_iconst (v := 3) hx hb dL_law_839 (by decide) ?_
  refine lv_iadd hx hb dL_law_840  ?_
  refine lv_topi (fun x105 ex105 => ?_)
  obtain rfl : x105 = 3 := ex105.trans (by decide)
  refine va_sld hx hb hX hbl hbA hS (show vp_in 3 6 from by unfold vp_in; decide) dL_law_841 ?_
  refine lv_topi (fun x106 ex106 => ?_)
  obtain rfl : w3 = x106 := hw3.trans ex106.symm
  refine lv_i2l hx hb dL_law_842 rfl ?_
  refine lv_topl (fun x107 ex107 => ?_)
  refine lv_bipush (v := 32) hx hb dL_law_843 (by decide) ?_
  refine lv_lshl hx hb dL_law_845 rfl ?_
  refine lv_topl (fun x108 ex108 => ?_)
  refine lv_aload_n hx hb dL_law_846 rfl (lv_at hl 0 rfl) ?_
  refine lv_iload hx hb dL_law_847 (lv_at hl 4 rfl) ?_
  refine lv_iconst (v := 4) hx hb dL_law_849 (by decide) ?_
  refine lv_iadd hx hb dL_law_850  ?_
  refine lv_topi (fun x109 ex109 => ?_)
  obtain rfl : x109 = 4 := ex109.trans (by decide)
  refine va_sld hx hb hX hbl hbA hS (show vp_in 4 6 from by unfold vp_in; decide) dL_law_851 ?_
  refine lv_topi (fun x110 ex110 => ?_)
  obtain rfl : w4 = x110 := hw4.trans ex110.symm
  refine lv_i2l hx hb dL_law_852 rfl ?_
  refine lv_topl (fun x111 ex111 => ?_)
  refine lv_ldc2 (v := 4294967295) hx hb hown (hts (.constantLong RL 171 (4294967295)) (by decide +kernel)) dL_law_853 ?_
  refine lv_land hx hb dL_law_856  ?_
  refine lv_topl (fun x112 ex112 => ?_)
  refine lv_lor hx hb dL_law_857  ?_
  refine lv_topl (fun x113 ex113 => ?_)
  refine lv_aload_n hx hb dL_law_858 rfl (lv_at hl 3 rfl) ?_
  have hPc := hP.sub (ws' := [(aX, .inr (14, fsX)), (aH, .inr (5, fsHe))]) [0, 1] rfl
  have hDc := hD.sub (ws' := [(aX, .inr (14, fsX)), (aH, .inr (5, fsHe))]) [0, 1] (by decide) rfl
  have hKc := hK.sub (tys' := []) [] rfl
  have hFc := va_free (wc := [(aX, .inr (14, fsX)), (aH, .inr (5, fsHe))]) hD hS hA [0, 1] rfl
  refine vx_calli (vx_runSX (As := [.ref aX, .int w1, .int w2, .long x113, .ref qO]) (rest := []) ⟨hx, hb, hml, hown, hts⟩ (z_L_set l dC dI H.size aX fsX aH fsHe w1 w2 x113 qO (fh_sub o_fsX.2 [0] rfl) (fh_sub o_fsHe.2 [0] rfl) hst ) (vx_cwSW 5 hts g_lk_11_z_L_set_173 rfl rfl rfl (by decide +kernel) ⟨Nat.le_of_ble_eq_true rfl, Nat.le_of_ble_eq_true rfl⟩) ⟨fun a U g mk q => by obtain ⟨q0, q1, qZ, qY, qP, qK, qD⟩ := q; exact ⟨q0, q1, Zz_call qZ, Yy_call qY, qP, va_K.moved (u := U) (U := U.calling g mk a) (Vm.Alike.refl U.vm) qK, qD⟩, fun U hU hW => ⟨rfl, by rw [hU], Zz_go hZ hS hFc hU hW, Yy_go hY hW, by rw [hU]; exact hPc, va_K.moved hW.alike hKc, hDc.weaken (fun _ _ _ _ => trivial)⟩⟩ rfl rfl hl.1 rfl (lv_room (Nat.le_of_ble_eq_true rfl)) dL_law_859 ⟨Nat.le_of_ble_eq_true rfl, Nat.le_of_ble_eq_true rfl⟩) hS (fun q _ h => hFc q h) hFc (fun q _ h => hFc q h) (fun E ce q9 u t H1 locs ht hvm hpx hBX hz1 hk1 hS hce hcv hcl => ?_) (fun r114 u t H1 locs ht hvm hw hB hz1 hk1 hS => ?_)
  · exact False.elim hBX
  · skip
    obtain ⟨hP1, hK1, hD1⟩ := hB
    rw [ht] at hP1
    try dsimp only at hw
    obtain ⟨hP, hD⟩ := va_join (wr := [(aZ, .inr (15, fsZ))]) (w1 := []) hP hD [0, 1] [2] rfl rfl (by decide) (by decide) hk1 hFc hP1 hD1
    have hK := hK.sub (tys' := []) [] rfl
    generalize H1 = H at hP hS ⊢
    refine W.widen (k := 391) (n := 571365) (by omega) (by omega) ?_
    have hP : va_P (dC, dI) vwCl [(aZ, .inr (15, fsZ))] H := hP
    have hD : va_D A [(aZ, .inr (15, fsZ))] := hD
    rcases hw with ⟨c115, er116⟩ | ⟨c117, c118, er119⟩
    · skip
      subst er116
      refine lv_istore (lv' := [(5, .int 1), (0, .ref b), (1, .ref aX), (2, .ref aZ), (3, .ref qO), (4, .int 0)]) hx hb dL_law_862 hl (by decide) rfl (fun ls hl => ?_)
      refine lv_aload_n hx hb dL_law_864 rfl (lv_at hl 3 rfl) ?_
      refine lv_aload_n hx hb dL_law_865 rfl (lv_at hl 1 rfl) ?_
      refine lv_iload hx hb dL_law_866 (lv_at hl 5 rfl) ?_
      refine lv_iconst (v := 1) hx hb dL_law_868 (by decide) ?_
      refine lv_iadd hx hb dL_law_869  ?_
      refine lv_topi (fun x120 ex120 => ?_)
      obtain rfl : x120 = 1 := ex120.trans (by decide)
      refine va_sld hx hb hX hbl hbA hS (show vp_in 1 6 from by unfold vp_in; decide) dL_law_870 ?_
      refine lv_topi (fun x121 ex121 => ?_)
      obtain rfl : w1 = x121 := hw1.trans ex121.symm
      refine lv_aload_n hx hb dL_law_871 rfl (lv_at hl 1 rfl) ?_
      refine lv_iload hx hb dL_law_872 (lv_at hl 5 rfl) ?_
      refine lv_iconst (v := 2) hx hb dL_law_874 (by decide) ?_
      refine lv_iadd hx hb dL_law_875  ?_
      refine lv_topi (fun x122 ex122 => ?_)
      obtain rfl : x122 = 2 := ex122.trans (by decide)
      refine va_sld hx hb hX hbl hbA hS (show vp_in 2 6 from by unfold vp_in; decide) dL_law_876 ?_
      refine lv_topi (fun x123 ex123 => ?_)
      obtain rfl : w2 = x123 := hw2.trans ex123.symm
      refine lv_aload_n hx hb dL_law_877 rfl (lv_at hl 1 rfl) ?_
      refine lv_iload hx hb dL_law_878 (lv_at hl 5 rfl) ?_
      refine lv_iconst (v := 3) hx hb dL_law_880 (by decide) ?_
      refine lv_iadd hx hb dL_law_881  ?_
      refine lv_topi (fun x124 ex124 => ?_)
      obtain rfl : x124 = 3 := ex124.trans (by decide)
      refine va_sld hx hb hX hbl hbA hS (show vp_in 3 6 from by unfold vp_in; decide) dL_law_882 ?_
      refine lv_topi (fun x125 ex125 => ?_)
      obtain rfl : w3 = x125 := hw3.trans ex125.symm
      refine lv_i2l hx hb dL_law_883 rfl ?_
      refine lv_topl (fun x126 ex126 => ?_)
      refine lv_bipush (v := 32) hx hb dL_law_884 (by decide) ?_
      refine lv_lshl hx hb dL_law_886 rfl ?_
      refine lv_topl (fun x127 ex127 => ?_)
      refine lv_aload_n hx hb dL_law_887 rfl (lv_at hl 1 rfl) ?_
      refine lv_iload hx hb dL_law_888 (lv_at hl 5 rfl) ?_
      refine lv_iconst (v := 4) hx hb dL_law_890 (by decide) ?_
      refine lv_iadd hx hb dL_law_891  ?_
      refine lv_topi (fun x128 ex128 => ?_)
      obtain rfl : x128 = 4 := ex128.trans (by decide)
      refine va_sld hx hb hX hbl hbA hS (show vp_in 4 6 from by unfold vp_in; decide) dL_law_892 ?_
      refine lv_topi (fun x129 ex129 => ?_)
      obtain rfl : w4 = x129 := hw4.trans ex129.symm
      refine lv_i2l hx hb dL_law_893 rfl ?_
      refine lv_topl (fun x130 ex130 => ?_)
      refine lv_ldc2 (v := 4294967295) hx hb hown (hts (.constantLong RL 171 (4294967295)) (by decide +kernel)) dL_law_894 ?_
      refine lv_land hx hb dL_law_897  ?_
      refine lv_topl (fun x131 ex131 => ?_)
      refine lv_lor hx hb dL_law_898  ?_
      refine lv_topl (fun x132 ex132 => ?_)
      have hPc := hP.sub (ws' := [(aZ, .inr (15, fsZ))]) [0] rfl
      have hDc := hD.sub (ws' := [(aZ, .inr (15, fsZ))]) [0] (by decide) rfl
      have hKc := hK.sub (tys' := []) [] rfl
      have hFc := va_free (wc := [(aZ, .inr (15, fsZ))]) hD hS hA [0] rfl
      refine va_calli (va_runV (As := [.int w1, .int w2, .long x132]) (rest := []) ⟨hx, hb, hml, hown, hts⟩ (z_X12_set l dC dI H.size aZ fsZ w1 w2 x132 (fh_sub o_fsZ.2 [0, 1] rfl) ) (cwV 3 hts g_lk_11_z_X12_set_176 rfl rfl rfl (by decide +kernel) ⟨Nat.le_of_ble_eq_true rfl, Nat.le_of_ble_eq_true rfl⟩) ⟨fun a U g mk q => by obtain ⟨q0, q1, qP, qK, qD⟩ := q; exact ⟨q0, q1, qP, va_K.moved (u := U) (U := U.calling g mk a) (Vm.Alike.refl U.vm) qK, qD⟩, va_recv hK hP (ci := 15) (q0 := 0) rfl rfl, fun U hU hW => ⟨rfl, by rw [hU], by rw [hU]; exact hPc, va_K.moved hW.alike hKc, hDc.weaken (fun _ _ _ _ => trivial)⟩⟩ rfl rfl hl.1 rfl (lv_room (Nat.le_of_ble_eq_true rfl)) dL_law_899 ⟨Nat.le_of_ble_eq_true rfl, Nat.le_of_ble_eq_true rfl⟩) hS (fun q _ h => hFc q h) hFc (fun r133 u t H1 locs ht hvm hw hB hz1 hk1 hS => ?_)
      obtain ⟨s134, rfl⟩ : ∃ z, z = u := ⟨_, rfl⟩
      obtain ⟨hP1, hK1, hD1⟩ := hB
      rw [ht] at hP1
      try dsimp only at hw
      obtain ⟨hP, hD⟩ := va_join (wr := []) (w1 := [(aZ, .inr (15, s134))]) hP hD [0] [] rfl rfl (by decide) (by decide) hk1 hFc hP1 hD1
      have hK := hK.sub (tys' := []) [] rfl
      generalize H1 = H at hP hS ⊢
      have hP : va_P (dC, dI) vwCl [(aZ, .inr (15, s134))] H := hP
      have hD : va_D A [(aZ, .inr (15, s134))] := hD
      rcases hw with ⟨c135, er136, o_s134⟩ | ⟨c137, c138, er139, o_s134⟩
      · skip
        subst er136
        have o_s134 := ow_on o_fsZ o_s134 (l' := [(0, .int 1), (26, .int 0), (26, .int 0)]) (w' := [0]) rfl rfl
        refine lv_istore (lv' := [(6, .int 0), (5, .int 1), (0, .ref b), (1, .ref aX), (2, .ref aZ), (3, .ref qO), (4, .int 0)]) hx hb dL_law_902 hl (by decide) rfl (fun ls hl => ?_)
        refine lv_aload_n hx hb dL_law_904 rfl (lv_at hl 4 rfl) ?_
        have hPc := hP.sub (ws' := [(aZ, .inr (15, s134))]) [0] rfl
        have hDc := hD.sub (ws' := [(aZ, .inr (15, s134))]) [0] (by decide) rfl
        have hKc := hK.sub (tys' := []) [] rfl
        have hFc := va_free (wc := [(aZ, .inr (15, s134))]) hD hS hA [0] rfl
        refine va_calli (va_runV (As := []) (rest := []) ⟨hx, hb, hml, hown, hts⟩ (z_X12_thrown l dC dI H.size aZ s134 (fh_sub o_s134.2 [0] rfl) ) (cwV 0 hts g_lk_11_z_X12_thrown_149 rfl rfl rfl (by decide +kernel) ⟨Nat.le_of_ble_eq_true rfl, Nat.le_of_ble_eq_true rfl⟩) ⟨fun a U g mk q => by obtain ⟨q0, q1, qP, qK, qD⟩ := q; exact ⟨q0, q1, qP, va_K.moved (u := U) (U := U.calling g mk a) (Vm.Alike.refl U.vm) qK, qD⟩, va_recv hK hP (ci := 15) (q0 := 0) rfl rfl, fun U hU hW => ⟨rfl, by rw [hU], by rw [hU]; exact hPc, va_K.moved hW.alike hKc, hDc.weaken (fun _ _ _ _ => trivial)⟩⟩ rfl rfl hl.1 rfl (lv_room (Nat.le_of_ble_eq_true rfl)) dL_law_905 ⟨Nat.le_of_ble_eq_true rfl, Nat.le_of_ble_eq_true rfl⟩) hS (fun q _ h => hFc q h) hFc (fun r140 u t H1 locs ht hvm hw hB hz1 hk1 hS => ?_)
        obtain ⟨hP1, hK1, hD1⟩ := hB
        rw [ht] at hP1
        try dsimp only at hw
        obtain ⟨hP, hD⟩ := va_join (wr := []) (w1 := [(aZ, .inr (15, s134))]) hP hD [0] [] rfl rfl (by decide) (by decide) hk1 hFc hP1 hD1
        have hK := hK.sub (tys' := []) [] rfl
        generalize H1 = H at hP hS ⊢
        have hP : va_P (dC, dI) vwCl [(aZ, .inr (15, s134))] H := hP
        have hD : va_D A [(aZ, .inr (15, s134))] := hD
        have er141 := hw
        subst er141
        refine lv_iload hx hb dL_law_908 (lv_at hl 1 rfl) ?_
        refine lv_icmp_eq (tgt := 915) hx hb dL_law_910 (by decide) (fun c142 => ?_) (fun c142 => absurd c142 (by decide))
        refine lv_iload hx hb dL_law_915 (lv_at hl 1 rfl) ?_
        refine lv_if_ne (tgt := 932) hx hb dL_law_917 (by decide) (fun c143 => ?_) (fun c143 => absurd c143 (by decide))
        refine lv_goto (tgt := 3111) hx hb dL_law_932 (by decide) ?_
        exact lw_end hst C0 hA hAf hZ hY (Nat.le_of_ble_eq_true rfl) (Nat.le_of_ble_eq_true rfl) dC dI P0k P0 D0 hS ls (lv_sub hl [2, 6] rfl)
      · exact (by exfalso; (try simp only [i_lt, i_le, i_eq, kc_0] at c115 c137 c138); omega)
    · skip
      subst er119
      refine lv_istore (lv' := [(5, .int 1), (0, .ref b), (1, .ref aX), (2, .ref aZ), (3, .ref qO), (4, .int 0)]) hx hb dL_law_862 hl (by decide) rfl (fun ls hl => ?_)
      refine lv_aload_n hx hb dL_law_864 rfl (lv_at hl 3 rfl) ?_
      refine lv_aload_n hx hb dL_law_865 rfl (lv_at hl 1 rfl) ?_
      refine lv_iload hx hb dL_law_866 (lv_at hl 5 rfl) ?_
      refine lv_iconst (v := 1) hx hb dL_law_868 (by decide) ?_
      refine lv_iadd hx hb dL_law_869  ?_
      refine lv_topi (fun x144 ex144 => ?_)
      obtain rfl : x144 = 1 := ex144.trans (by decide)
      refine va_sld hx hb hX hbl hbA hS (show vp_in 1 6 from by unfold vp_in; decide) dL_law_870 ?_
      refine lv_topi (fun x145 ex145 => ?_)
      obtain rfl : w1 = x145 := hw1.trans ex145.symm
      refine lv_aload_n hx hb dL_law_871 rfl (lv_at hl 1 rfl) ?_
      refine lv_iload hx hb dL_law_872 (lv_at hl 5 rfl) ?_
      refine lv_iconst (v := 2) hx hb dL_law_874 (by decide) ?_
      refine lv_iadd hx hb dL_law_875  ?_
      refine lv_topi (fun x146 ex146 => ?_)
      obtain rfl : x146 = 2 := ex146.trans (by decide)
      refine va_sld hx hb hX hbl hbA hS (show vp_in 2 6 from by unfold vp_in; decide) dL_law_876 ?_
      refine lv_topi (fun x147 ex147 => ?_)
      obtain rfl : w2 = x147 := hw2.trans ex147.symm
      refine lv_aload_n hx hb dL_law_877 rfl (lv_at hl 1 rfl) ?_
      refine lv_iload hx hb dL_law_878 (lv_at hl 5 rfl) ?_
      refine lv_iconst (v := 3) hx hb dL_law_880 (by decide) ?_
      refine lv_iadd hx hb dL_law_881  ?_
      refine lv_topi (fun x148 ex148 => ?_)
      obtain rfl : x148 = 3 := ex148.trans (by decide)
      refine va_sld hx hb hX hbl hbA hS (show vp_in 3 6 from by unfold vp_in; decide) dL_law_882 ?_
      refine lv_topi (fun x149 ex149 => ?_)
      obtain rfl : w3 = x149 := hw3.trans ex149.symm
      refine lv_i2l hx hb dL_law_883 rfl ?_
      refine lv_topl (fun x150 ex150 => ?_)
      refine lv_bipush (v := 32) hx hb dL_law_884 (by decide) ?_
      refine lv_lshl hx hb dL_law_886 rfl ?_
      refine lv_topl (fun x151 ex151 => ?_)
      refine lv_aload_n hx hb dL_law_887 rfl (lv_at hl 1 rfl) ?_
      refine lv_iload hx hb dL_law_888 (lv_at hl 5 rfl) ?_
      refine lv_iconst (v := 4) hx hb dL_law_890 (by decide) ?_
      refine lv_iadd hx hb dL_law_891  ?_
      refine lv_topi (fun x152 ex152 => ?_)
      obtain rfl : x152 = 4 := ex152.trans (by decide)
      refine va_sld hx hb hX hbl hbA hS (show vp_in 4 6 from by unfold vp_in; decide) dL_law_892 ?_
      refine lv_topi (fun x153 ex153 => ?_)
      obtain rfl : w4 = x153 := hw4.trans ex153.symm
      refine lv_i2l hx hb dL_law_893 rfl ?_
      refine lv_topl (fun x154 ex154 => ?_)
      refine lv_ldc2 (v := 4294967295) hx hb hown (hts (.constantLong RL 171 (4294967295)) (by decide +kernel)) dL_law_894 ?_
      refine lv_land hx hb dL_law_897  ?_
      refine lv_topl (fun x155 ex155 => ?_)
      refine lv_lor hx hb dL_law_898  ?_
      refine lv_topl (fun x156 ex156 => ?_)
      have hPc := hP.sub (ws' := [(aZ, .inr (15, fsZ))]) [0] rfl
      have hDc := hD.sub (ws' := [(aZ, .inr (15, fsZ))]) [0] (by decide) rfl
      have hKc := hK.sub (tys' := []) [] rfl
      have hFc := va_free (wc := [(aZ, .inr (15, fsZ))]) hD hS hA [0] rfl
      refine va_calli (va_runV (As := [.int w1, .int w2, .long x156]) (rest := []) ⟨hx, hb, hml, hown, hts⟩ (z_X12_set l dC dI H.size aZ fsZ w1 w2 x156 (fh_sub o_fsZ.2 [0, 1] rfl) ) (cwV 3 hts g_lk_11_z_X12_set_176 rfl rfl rfl (by decide +kernel) ⟨Nat.le_of_ble_eq_true rfl, Nat.le_of_ble_eq_true rfl⟩) ⟨fun a U g mk q => by obtain ⟨q0, q1, qP, qK, qD⟩ := q; exact ⟨q0, q1, qP, va_K.moved (u := U) (U := U.calling g mk a) (Vm.Alike.refl U.vm) qK, qD⟩, va_recv hK hP (ci := 15) (q0 := 0) rfl rfl, fun U hU hW => ⟨rfl, by rw [hU], by rw [hU]; exact hPc, va_K.moved hW.alike hKc, hDc.weaken (fun _ _ _ _ => trivial)⟩⟩ rfl rfl hl.1 rfl (lv_room (Nat.le_of_ble_eq_true rfl)) dL_law_899 ⟨Nat.le_of_ble_eq_true rfl, Nat.le_of_ble_eq_true rfl⟩) hS (fun q _ h => hFc q h) hFc (fun r157 u t H1 locs ht hvm hw hB hz1 hk1 hS => ?_)
      obtain ⟨s158, rfl⟩ : ∃ z, z = u := ⟨_, rfl⟩
      obtain ⟨hP1, hK1, hD1⟩ := hB
      rw [ht] at hP1
      try dsimp only at hw
      obtain ⟨hP, hD⟩ := va_join (wr := []) (w1 := [(aZ, .inr (15, s158))]) hP hD [0] [] rfl rfl (by decide) (by decide) hk1 hFc hP1 hD1
      have hK := hK.sub (tys' := []) [] rfl
      generalize H1 = H at hP hS ⊢
      have hP : va_P (dC, dI) vwCl [(aZ, .inr (15, s158))] H := hP
      have hD : va_D A [(aZ, .inr (15, s158))] := hD
      rcases hw with ⟨c159, er160, o_s158⟩ | ⟨c161, c162, er163, o_s158⟩
      · exact (by exfalso; (try simp only [i_lt, i_le, i_eq, kc_0] at c117 c118 c159); omega)
      · skip
        subst er163
        have o_s158 := ow_on o_fsZ o_s158 (l' := [(0, .int 1), (26, .int 0), (26, .int 0)]) (w' := [0]) rfl rfl
        refine lv_istore (lv' := [(6, .int 0), (5, .int 1), (0, .ref b), (1, .ref aX), (2, .ref aZ), (3, .ref qO), (4, .int 0)]) hx hb dL_law_902 hl (by decide) rfl (fun ls hl => ?_)
        refine lv_aload_n hx hb dL_law_904 rfl (lv_at hl 4 rfl) ?_
        have hPc := hP.sub (ws' := [(aZ, .inr (15, s158))]) [0] rfl
        have hDc := hD.sub (ws' := [(aZ, .inr (15, s158))]) [0] (by decide) rfl
        have hKc := hK.sub (tys' := []) [] rfl
        have hFc := va_free (wc := [(aZ, .inr (15, s158))]) hD hS hA [0] rfl
        refine va_calli (va_runV (As := []) (rest := []) ⟨hx, hb, hml, hown, hts⟩ (z_X12_thrown l dC dI H.size aZ s158 (fh_sub o_s158.2 [0] rfl) ) (cwV 0 hts g_lk_11_z_X12_thrown_149 rfl rfl rfl (by decide +kernel) ⟨Nat.le_of_ble_eq_true rfl, Nat.le_of_ble_eq_true rfl⟩) ⟨fun a U g mk q => by obtain ⟨q0, q1, qP, qK, qD⟩ := q; exact ⟨q0, q1, qP, va_K.moved (u := U) (U := U.calling g mk a) (Vm.Alike.refl U.vm) qK, qD⟩, va_recv hK hP (ci := 15) (q0 := 0) rfl rfl, fun U hU hW => ⟨rfl, by rw [hU], by rw [hU]; exact hPc, va_K.moved hW.alike hKc, hDc.weaken (fun _ _ _ _ => trivial)⟩⟩ rfl rfl hl.1 rfl (lv_room (Nat.le_of_ble_eq_true rfl)) dL_law_905 ⟨Nat.le_of_ble_eq_true rfl, Nat.le_of_ble_eq_true rfl⟩) hS (fun q _ h => hFc q h) hFc (fun r164 u t H1 locs ht hvm hw hB hz1 hk1 hS => ?_)
        obtain ⟨hP1, hK1, hD1⟩ := hB
        rw [ht] at hP1
        try dsimp only at hw
        obtain ⟨hP, hD⟩ := va_join (wr := []) (w1 := [(aZ, .inr (15, s158))]) hP hD [0] [] rfl rfl (by decide) (by decide) hk1 hFc hP1 hD1
        have hK := hK.sub (tys' := []) [] rfl
        generalize H1 = H at hP hS ⊢
        have hP : va_P (dC, dI) vwCl [(aZ, .inr (15, s158))] H := hP
        have hD : va_D A [(aZ, .inr (15, s158))] := hD
        have er165 := hw
        subst er165
        refine lv_iload hx hb dL_law_908 (lv_at hl 1 rfl) ?_
        refine lv_icmp_eq (tgt := 915) hx hb dL_law_910 (by decide) (fun c166 => ?_) (fun c166 => absurd c166 (by decide))
        refine lv_iload hx hb dL_law_915 (lv_at hl 1 rfl) ?_
        refine lv_if_ne (tgt := 932) hx hb dL_law_917 (by decide) (fun c167 => ?_) (fun c167 => absurd c167 (by decide))
        refine lv_goto (tgt := 3111) hx hb dL_law_932 (by decide) ?_
        exact lw_end hst C0 hA hAf hZ hY (Nat.le_of_ble_eq_true rfl) (Nat.le_of_ble_eq_true rfl) dC dI P0k P0 D0 hS ls (lv_sub hl [2, 6] rfl)

set_option maxRecDepth 20000 in
theorem g_lk_12_z_L_setStatic_177 : GoodIn lwW (va_wsS RL 177 yL_setStatic w_z_L_setStatic) := goodIn_app (goodIn_sub (ws := ([.methodLink RL 177 yL_setStatic, .static yL_setStatic, .initialized RL] : List Cond)) (gm_c (gm_at lwV_22_in 5 rfl) (gm_c (gm_at lwV_22_in 6 rfl) (gm_c (gm_at lwV_5_in 10 rfl) gm_nil))) (by decide +kernel)) (goodIn_ca (goodIn_sub (ws := .codeWith yL_setStatic cL_setStatic 7 (some .int) [(0, 12, 15, 30), (0, 12, 19, 15)] :: l_z_L_setStatic) (gm_c (gm_at lwV_22_in 10 rfl) (gm_c (gm_at lwV_22_in 11 rfl) (gm_c (gm_at lwV_23_in 0 rfl) (gm_c (gm_at lwV_23_in 1 rfl) (gm_c (gm_at lwV_0_in 3 rfl) (gm_c (gm_at lwV_19_in 11 rfl) (gm_c (gm_at lwV_23_in 2 rfl) (gm_c (gm_at lwV_7_in 7 rfl) (gm_c (gm_at lwV_23_in 3 rfl) (gm_c (gm_at lwV_23_in 4 rfl) (gm_c (gm_at lwV_23_in 5 rfl) (gm_c (gm_at lwV_7_in 11 rfl) (gm_c (gm_at lwV_20_in 4 rfl) (gm_c (gm_at lwV_20_in 5 rfl) (gm_c (gm_at lwV_23_in 6 rfl) (gm_c (gm_at lwV_12_in 4 rfl) (gm_c (gm_at lwV_7_in 9 rfl) (gm_c (gm_at lwV_7_in 10 rfl) (gm_c (gm_at lwV_8_in 9 rfl) (gm_c (gm_at lwV_8_in 10 rfl) gm_nil)))))))))))))))))))) (by decide +kernel)) (goodIn_app (goodIn_in il_X11 gd_X11) (goodIn_app (goodIn_in il_at0_X11_223 gd_at0_X11_223) (goodIn_in il_X10 gd_X10))))
set_option maxRecDepth 20000 in
theorem g_lk_12_z_X12_setStatic_179 : GoodIn lwW (wsV RL 179 RX12 yX12_setStatic w_z_X12_setStatic) := goodIn_app (goodIn_sub (ws := ([.methodLink RL 179 yX12_setStatic, .instanceMethod yX12_setStatic, .selects RX12 yX12_setStatic yX12_setStatic, .initialized RX12] : List Cond)) (gm_c (gm_at lwV_22_in 7 rfl) (gm_c (gm_at lwV_22_in 8 rfl) (gm_c (gm_at lwV_22_in 9 rfl) (gm_c (gm_at lwV_0_in 7 rfl) gm_nil)))) (by decide +kernel)) (goodIn_ca (goodIn_sub (ws := .code yX12_setStatic cX12_setStatic 6 (some .int) :: l_z_X12_setStatic) (gm_c (gm_at lwV_23_in 7 rfl) (gm_c (gm_at lwV_23_in 8 rfl) (gm_c (gm_at lwV_23_in 9 rfl) (gm_c (gm_at lwV_23_in 10 rfl) (gm_c (gm_at lwV_0_in 7 rfl) (gm_c (gm_at lwV_1_in 5 rfl) (gm_c (gm_at lwV_23_in 11 rfl) (gm_c (gm_at lwV_9_in 3 rfl) (gm_c (gm_at lwV_9_in 4 rfl) (gm_c (gm_at lwV_9_in 5 rfl) (gm_c (gm_at lwV_9_in 7 rfl) (gm_c (gm_at lwV_9_in 8 rfl) gm_nil)))))))))))) (by decide +kernel)) (goodIn_in il_X12 gd_X12))
set_option maxRecDepth 20000 in
theorem g_lk_12_z_X12_thrown_149 : GoodIn lwW (wsV RL 149 RX12 yX12_thrown w_z_X12_thrown) := goodIn_app (goodIn_sub (ws := ([.methodLink RL 149 yX12_thrown, .instanceMethod yX12_thrown, .selects RX12 yX12_thrown yX12_thrown, .initialized RX12] : List Cond)) (gm_c (gm_at lwV_6_in 2 rfl) (gm_c (gm_at lwV_6_in 3 rfl) (gm_c (gm_at lwV_6_in 4 rfl) (gm_c (gm_at lwV_0_in 7 rfl) gm_nil)))) (by decide +kernel)) (goodIn_ca (goodIn_sub (ws := .code yX12_thrown cX12_thrown 1 (some .int) :: l_z_X12_thrown) (gm_c (gm_at lwV_9_in 9 rfl) (gm_c (gm_at lwV_1_in 5 rfl) gm_nil)) (by decide +kernel)) (goodIn_in il_X12 gd_X12))
set_option maxHeartbeats 4000000 in
set_option maxRecDepth 100000 in
/-- the law, one call: setStatic -/
theorem lk_12 {p : Program} {l : Launch} {e : Env} {s : State} {m : MethodId} {below : List Frame} {meth : Method} {c : Code} {b : Nat} {xs : Nat → Int32} (hst : l.stackTraces = false) (C0 : lw_At p s m meth c b 6 xs) {A : Nat → Prop} (hA : ∀ q : Nat, s.heap.size ≤ q → A q) (hAf : ∀ q : Nat, A q → s.heap.size ≤ q) (hZ : Zz A s) (hY : Yy s) (dC : Nat → ClassId) (dI : Nat → Nat → Nat) (aX : Nat) (fsX : List Value) (aY : Nat) (fsY : List Value) (aZ : Nat) (fsZ : List Value) (qO : Nat) (w1 : Int32) (hw1 : w1 = xs (1 : Int32).toNatClampNeg) (w2 : Int32) (hw2 : w2 = xs (2 : Int32).toNatClampNeg) (w3 : Int32) (hw3 : w3 = xs (3 : Int32).toNatClampNeg) (w4 : Int32) (hw4 : w4 = xs (4 : Int32).toNatClampNeg) (w5 : Int32) (hw5 : w5 = xs (5 : Int32).toNatClampNeg) (k_fsX : fh fsX 18 [(1, .ref aY)]) (k_fsY : fh fsY 18 [(0, .int 0)]) (k_fsZ : fh fsZ 150 [(0, .int 0), (20, .int 0)])  {H : Heap} {locs : List Loc} (hK : va_K (dC, dI) vwCl [] s) (hP : va_P (dC, dI) vwCl [(aX, .inr (14, fsX)), (aY, .inr (13, fsY)), (aZ, .inr (15, fsZ))] H) (hD : va_D A [(aX, .inr (14, fsX)), (aY, .inr (13, fsY)), (aZ, .inr (15, fsZ))]) (hS : va_S A s.heap H locs) (ls : Array Slot) (hl : lv_has ls 8 [(0, .ref b), (1, .ref aX), (2, .ref aZ), (3, .ref qO), (4, .int 0)]) : W p l e room_1 s m #[Value.ref b] below meth c H locs 390 571359 (lw_Z below #[Value.ref b] s) (F0 m 935 ls []) := by
  obtain ⟨hx, hb, hr, hml, hown0, hts0, hX, hbl, hlocks, hgv⟩ := id C0
  have hown : s.vm.findClass RL = some m.cls := hown0
  have hts : ∀ w ∈ lwW, w.before #[Value.ref b] s = true := fun w h => hts0 w (lwW_in w h)
  have hbA : ¬ A b := fun h => absurd (hAf b h) (Nat.not_le.mpr hbl)
  have o_fsX := ow_0 k_fsX
  have o_fsY := ow_0 k_fsY
  have o_fsZ := ow_0 k_fsZ
  refine lv_aload_n hx hb dL_law_935 rfl (lv_at hl 1 rfl) ?_
  refine lv_aload_n hx hb dL_law_936 rfl (lv_at hl 0 rfl) ?_
  refine lv_iload hx hb dL_law_937 (lv_at hl 4 rfl) ?_
  refine lv_iconst (v := 1) hx hb dL_law_939 (by decide) ?_
  refine lv_iadd hx hb dL_law_940  ?_
  refine lv_topi (fun x101 ex101 => ?_)
  obtain rfl : x101 = 1 := ex101.trans (by decide)
  refine va_sld hx hb hX hbl hbA hS (show vp_in 1 6 from by unfold vp_in; decide) dL_law_941 ?_
  refine lv_topi (fun x102 ex102 => ?_)
  obtain rfl : w1 = x102 := hw1.trans ex102.symm
  refine lv_aload_n hx hb dL_law_942 rfl (lv_at hl 0 rfl) ?_
  refine lv_iload hx hb dL_law_943 (lv_at hl 4 rfl) ?_
  refine lv_iconst (v := 2) hx hb dL_law_945 (by decide) ?_
  refine lv_iadd hx hb dL_law_946  ?_
  refine lv_topi (fun x103 ex103 => ?_)
  obtain rfl : x103 = 2 := ex103.trans (by decide)
  refine va_sld hx hb hX hbl hbA hS (show vp_in 2 6 from by unfold vp_in; decide) dL_law_947 ?_
  refine lv_topi (fun x104 ex104 => ?_)
  obtain rfl : w2 = x104 := hw2.trans ex104.symm
  refine lv_aload_n hx hb dL_law_948 rfl (lv_at hl 0 rfl) ?_
  refine lv_iload hx hb dL_law_949 (lv_at hl 4 rfl) ?_
  refine lv_iconst (v := 3) hx hb dL_law_951 (by decide) ?_
  refine lv_iadd hx hb dL_law_952  ?_
  refine lv_topi (fun x105 ex105 => ?_)
  obtain rfl : x105 = 3 := ex105.trans (by decide)
  refine va_sld hx hb hX hbl hbA hS (show vp_in 3 6 from by unfold vp_in; decide) dL_law_953 ?_
  refine lv_topi (fun x106 ex106 => ?_)
  obtain rfl : w3 = x106 := hw3.trans ex106.symm
  refine lv_i2l hx hb dL_law_954 rfl ?_
  refine lv_topl (fun x107 ex107 => ?_)
  refine lv_bipush (v := 32) hx hb dL_law_955 (by decide) ?_
  refine lv_lshl hx hb dL_law_957 rfl ?_
  refine lv_topl (fun x108 ex108 => ?_)
  refine lv_aload_n hx hb dL_law_958 rfl (lv_at hl 0 rfl) ?_
  refine lv_iload hx hb dL_law_959 (lv_at hl 4 rfl) ?_
  refine lv_iconst (v := 4) hx hb dL_law_961 (by decide) ?_
  refine lv_iadd hx hb dL_law_962  ?_
  refine lv_topi (fun x109 ex109 => ?_)
  obtain rfl : x109 = 4 := ex109.trans (by decide)
  refine va_sld hx hb hX hbl hbA hS (show vp_in 4 6 from by unfold vp_in; decide) dL_law_963 ?_
  refine lv_topi (fun x110 ex110 => ?_)
  obtain rfl : w4 = x110 := hw4.trans ex110.symm
  refine lv_i2l hx hb dL_law_964 rfl ?_
  refine lv_topl (fun x111 ex111 => ?_)
  refine lv_ldc2 (v := 4294967295) hx hb hown (hts (.constantLong RL 171 (4294967295)) (by decide +kernel)) dL_law_965 ?_
  refine lv_land hx hb dL_law_968  ?_
  refine lv_topl (fun x112 ex112 => ?_)
  refine lv_lor hx hb dL_law_969  ?_
  refine lv_topl (fun x113 ex113 => ?_)
  refine lv_aload_n hx hb dL_law_970 rfl (lv_at hl 3 rfl) ?_
  have hPc := hP.sub (ws' := [(aX, .inr (14, fsX)), (aY, .inr (13, fsY))]) [0, 1] rfl
  have hDc := hD.sub (ws' := [(aX, .inr (14, fsX)), (aY, .inr (13, fsY))]) [0, 1] (by decide) rfl
  have hKc := hK.sub (tys' := []) [] rfl
  have hFc := va_free (wc := [(aX, .inr (14, fsX)), (aY, .inr (13, fsY))]) hD hS hA [0, 1] rfl
  refine vx_calli (vx_runSX (As := [.ref aX, .int w1, .int w2, .long x113, .ref qO]) (rest := []) ⟨hx, hb, hml, hown, hts⟩ (z_L_setStatic l dC dI H.size aX fsX aY fsY w1 w2 x113 qO (fh_sub o_fsX.2 [0] rfl) (fh_sub o_fsY.2 [0] rfl) hst ) (vx_cwSW 5 hts g_lk_12_z_L_setStatic_177 rfl rfl rfl (by decide +kernel) ⟨Nat.le_of_ble_eq_true rfl, Nat.le_of_ble_eq_true rfl⟩) ⟨fun a U g mk q => by obtain ⟨q0, q1, qZ, qY, qP, qK, qD⟩ := q; exact ⟨q0, q1, Zz_call qZ, Yy_call qY, qP, va_K.moved (u := U) (U := U.calling g mk a) (Vm.Alike.refl U.vm) qK, qD⟩, fun U hU hW => ⟨rfl, by rw [hU], Zz_go hZ hS hFc hU hW, Yy_go hY hW, by rw [hU]; exact hPc, va_K.moved hW.alike hKc, hDc.weaken (fun _ _ _ _ => trivial)⟩⟩ rfl rfl hl.1 rfl (lv_room (Nat.le_of_ble_eq_true rfl)) dL_law_971 ⟨Nat.le_of_ble_eq_true rfl, Nat.le_of_ble_eq_true rfl⟩) hS (fun q _ h => hFc q h) hFc (fun q _ h => hFc q h) (fun E ce q9 u t H1 locs ht hvm hpx hBX hz1 hk1 hS hce hcv hcl => ?_) (fun r114 u t H1 locs ht hvm hw hB hz1 hk1 hS => ?_)
  · exact False.elim hBX
  · skip
    obtain ⟨hP1, hK1, hD1⟩ := hB
    rw [ht] at hP1
    try dsimp only at hw
    obtain ⟨hP, hD⟩ := va_join (wr := [(aZ, .inr (15, fsZ))]) (w1 := []) hP hD [0, 1] [2] rfl rfl (by decide) (by decide) hk1 hFc hP1 hD1
    have hK := hK.sub (tys' := []) [] rfl
    generalize H1 = H at hP hS ⊢
    refine W.widen (k := 391) (n := 571365) (by omega) (by omega) ?_
    have hP : va_P (dC, dI) vwCl [(aZ, .inr (15, fsZ))] H := hP
    have hD : va_D A [(aZ, .inr (15, fsZ))] := hD
    rcases hw with ⟨c115, er116⟩ | ⟨c117, c118, er119⟩
    · skip
      subst er116
      refine lv_istore (lv' := [(5, .int 1), (0, .ref b), (1, .ref aX), (2, .ref aZ), (3, .ref qO), (4, .int 0)]) hx hb dL_law_974 hl (by decide) rfl (fun ls hl => ?_)
      refine lv_aload_n hx hb dL_law_976 rfl (lv_at hl 3 rfl) ?_
      refine lv_aload_n hx hb dL_law_977 rfl (lv_at hl 1 rfl) ?_
      refine lv_iload hx hb dL_law_978 (lv_at hl 5 rfl) ?_
      refine lv_iconst (v := 1) hx hb dL_law_980 (by decide) ?_
      refine lv_iadd hx hb dL_law_981  ?_
      refine lv_topi (fun x120 ex120 => ?_)
      obtain rfl : x120 = 1 := ex120.trans (by decide)
      refine va_sld hx hb hX hbl hbA hS (show vp_in 1 6 from by unfold vp_in; decide) dL_law_982 ?_
      refine lv_topi (fun x121 ex121 => ?_)
      obtain rfl : w1 = x121 := hw1.trans ex121.symm
      refine lv_aload_n hx hb dL_law_983 rfl (lv_at hl 1 rfl) ?_
      refine lv_iload hx hb dL_law_984 (lv_at hl 5 rfl) ?_
      refine lv_iconst (v := 2) hx hb dL_law_986 (by decide) ?_
      refine lv_iadd hx hb dL_law_987  ?_
      refine lv_topi (fun x122 ex122 => ?_)
      obtain rfl : x122 = 2 := ex122.trans (by decide)
      refine va_sld hx hb hX hbl hbA hS (show vp_in 2 6 from by unfold vp_in; decide) dL_law_988 ?_
      refine lv_topi (fun x123 ex123 => ?_)
      obtain rfl : w2 = x123 := hw2.trans ex123.symm
      refine lv_aload_n hx hb dL_law_989 rfl (lv_at hl 1 rfl) ?_
      refine lv_iload hx hb dL_law_990 (lv_at hl 5 rfl) ?_
      refine lv_iconst (v := 3) hx hb dL_law_992 (by decide) ?_
      refine lv_iadd hx hb dL_law_993  ?_
      refine lv_topi (fun x124 ex124 => ?_)
      obtain rfl : x124 = 3 := ex124.trans (by decide)
      refine va_sld hx hb hX hbl hbA hS (show vp_in 3 6 from by unfold vp_in; decide) dL_law_994 ?_
      refine lv_topi (fun x125 ex125 => ?_)
      obtain rfl : w3 = x125 := hw3.trans ex125.symm
      refine lv_i2l hx hb dL_law_995 rfl ?_
      refine lv_topl (fun x126 ex126 => ?_)
      refine lv_bipush (v := 32) hx hb dL_law_996 (by decide) ?_
      refine lv_lshl hx hb dL_law_998 rfl ?_
      refine lv_topl (fun x127 ex127 => ?_)
      refine lv_aload_n hx hb dL_law_999 rfl (lv_at hl 1 rfl) ?_
      refine lv_iload hx hb dL_law_1000 (lv_at hl 5 rfl) ?_
      refine lv_iconst (v := 4) hx hb dL_law_1002 (by decide) ?_
      refine lv_iadd hx hb dL_law_1003  ?_
      refine lv_topi (fun x128 ex128 => ?_)
      obtain rfl : x128 = 4 := ex128.trans (by decide)
      refine va_sld hx hb hX hbl hbA hS (show vp_in 4 6 from by unfold vp_in; decide) dL_law_1004 ?_
      refine lv_topi (fun x129 ex129 => ?_)
      obtain rfl : w4 = x129 := hw4.trans ex129.symm
      refine lv_i2l hx hb dL_law_1005 rfl ?_
      refine lv_topl (fun x130 ex130 => ?_)
      refine lv_ldc2 (v := 4294967295) hx hb hown (hts (.constantLong RL 171 (4294967295)) (by decide +kernel)) dL_law_1006 ?_
      refine lv_land hx hb dL_law_1009  ?_
      refine lv_topl (fun x131 ex131 => ?_)
      refine lv_lor hx hb dL_law_1010  ?_
      refine lv_topl (fun x132 ex132 => ?_)
      have hPc := hP.sub (ws' := [(aZ, .inr (15, fsZ))]) [0] rfl
      have hDc := hD.sub (ws' := [(aZ, .inr (15, fsZ))]) [0] (by decide) rfl
      have hKc := hK.sub (tys' := []) [] rfl
      have hFc := va_free (wc := [(aZ, .inr (15, fsZ))]) hD hS hA [0] rfl
      refine va_calli (va_runV (As := [.int w1, .int w2, .long x132]) (rest := []) ⟨hx, hb, hml, hown, hts⟩ (z_X12_setStatic l dC dI H.size aZ fsZ w1 w2 x132 (fh_sub o_fsZ.2 [0, 1] rfl) ) (cwV 3 hts g_lk_12_z_X12_setStatic_179 rfl rfl rfl (by decide +kernel) ⟨Nat.le_of_ble_eq_true rfl, Nat.le_of_ble_eq_true rfl⟩) ⟨fun a U g mk q => by obtain ⟨q0, q1, qP, qK, qD⟩ := q; exact ⟨q0, q1, qP, va_K.moved (u := U) (U := U.calling g mk a) (Vm.Alike.refl U.vm) qK, qD⟩, va_recv hK hP (ci := 15) (q0 := 0) rfl rfl, fun U hU hW => ⟨rfl, by rw [hU], by rw [hU]; exact hPc, va_K.moved hW.alike hKc, hDc.weaken (fun _ _ _ _ => trivial)⟩⟩ rfl rfl hl.1 rfl (lv_room (Nat.le_of_ble_eq_true rfl)) dL_law_1011 ⟨Nat.le_of_ble_eq_true rfl, Nat.le_of_ble_eq_true rfl⟩) hS (fun q _ h => hFc q h) hFc (fun r133 u t H1 locs ht hvm hw hB hz1 hk1 hS => ?_)
      obtain ⟨s134, rfl⟩ : ∃ z, z = u := ⟨_, rfl⟩
      obtain ⟨hP1, hK1, hD1⟩ := hB
      rw [ht] at hP1
      try dsimp only at hw
      obtain ⟨hP, hD⟩ := va_join (wr := []) (w1 := [(aZ, .inr (15, s134))]) hP hD [0] [] rfl rfl (by decide) (by decide) hk1 hFc hP1 hD1
      have hK := hK.sub (tys' := []) [] rfl
      generalize H1 = H at hP hS ⊢
      have hP : va_P (dC, dI) vwCl [(aZ, .inr (15, s134))] H := hP
      have hD : va_D A [(aZ, .inr (15, s134))] := hD
      rcases hw with ⟨c135, er136, o_s134⟩ | ⟨c137, c138, er139, o_s134⟩
      · skip
        subst er136
        have o_s134 := ow_on o_fsZ o_s134 (l' := [(0, .int 1), (20, .int 0), (20, .int 0)]) (w' := [0]) rfl rfl
        refine lv_istore (lv' := [(6, .int 0), (5, .int 1), (0, .ref b), (1, .ref aX), (2, .ref aZ), (3, .ref qO), (4, .int 0)]) hx hb dL_law_1014 hl (by decide) rfl (fun ls hl => ?_)
        refine lv_aload_n hx hb dL_law_1016 rfl (lv_at hl 4 rfl) ?_
        have hPc := hP.sub (ws' := [(aZ, .inr (15, s134))]) [0] rfl
        have hDc := hD.sub (ws' := [(aZ, .inr (15, s134))]) [0] (by decide) rfl
        have hKc := hK.sub (tys' := []) [] rfl
        have hFc := va_free (wc := [(aZ, .inr (15, s134))]) hD hS hA [0] rfl
        refine va_calli (va_runV (As := []) (rest := []) ⟨hx, hb, hml, hown, hts⟩ (z_X12_thrown l dC dI H.size aZ s134 (fh_sub o_s134.2 [0] rfl) ) (cwV 0 hts g_lk_12_z_X12_thrown_149 rfl rfl rfl (by decide +kernel) ⟨Nat.le_of_ble_eq_true rfl, Nat.le_of_ble_eq_true rfl⟩) ⟨fun a U g mk q => by obtain ⟨q0, q1, qP, qK, qD⟩ := q; exact ⟨q0, q1, qP, va_K.moved (u := U) (U := U.calling g mk a) (Vm.Alike.refl U.vm) qK, qD⟩, va_recv hK hP (ci := 15) (q0 := 0) rfl rfl, fun U hU hW => ⟨rfl, by rw [hU], by rw [hU]; exact hPc, va_K.moved hW.alike hKc, hDc.weaken (fun _ _ _ _ => trivial)⟩⟩ rfl rfl hl.1 rfl (lv_room (Nat.le_of_ble_eq_true rfl)) dL_law_1017 ⟨Nat.le_of_ble_eq_true rfl, Nat.le_of_ble_eq_true rfl⟩) hS (fun q _ h => hFc q h) hFc (fun r140 u t H1 locs ht hvm hw hB hz1 hk1 hS => ?_)
        obtain ⟨hP1, hK1, hD1⟩ := hB
        rw [ht] at hP1
        try dsimp only at hw
        obtain ⟨hP, hD⟩ := va_join (wr := []) (w1 := [(aZ, .inr (15, s134))]) hP hD [0] [] rfl rfl (by decide) (by decide) hk1 hFc hP1 hD1
        have hK := hK.sub (tys' := []) [] rfl
        generalize H1 = H at hP hS ⊢
        have hP : va_P (dC, dI) vwCl [(aZ, .inr (15, s134))] H := hP
        have hD : va_D A [(aZ, .inr (15, s134))] := hD
        have er141 := hw
        subst er141
        refine lv_iload hx hb dL_law_1020 (lv_at hl 1 rfl) ?_
        refine lv_icmp_eq (tgt := 1027) hx hb dL_law_1022 (by decide) (fun c142 => ?_) (fun c142 => absurd c142 (by decide))
        refine lv_iload hx hb dL_law_1027 (lv_at hl 1 rfl) ?_
        refine lv_if_ne (tgt := 1044) hx hb dL_law_1029 (by decide) (fun c143 => ?_) (fun c143 => absurd c143 (by decide))
        refine lv_goto (tgt := 3111) hx hb dL_law_1044 (by decide) ?_
        exact lw_end hst C0 hA hAf hZ hY (Nat.le_of_ble_eq_true rfl) (Nat.le_of_ble_eq_true rfl) dC dI P0k P0 D0 hS ls (lv_sub hl [2, 6] rfl)
      · exact (by exfalso; (try simp only [i_lt, i_le, i_eq, kc_0] at c115 c137 c138); omega)
    · skip
      subst er119
      refine lv_istore (lv' := [(5, .int 1), (0, .ref b), (1, .ref aX), (2, .ref aZ), (3, .ref qO), (4, .int 0)]) hx hb dL_law_974 hl (by decide) rfl (fun ls hl => ?_)
      refine lv_aload_n hx hb dL_law_976 rfl (lv_at hl 3 rfl) ?_
      refine lv_aload_n hx hb dL_law_977 rfl (lv_at hl 1 rfl) ?_
      refine lv_iload hx hb dL_law_978 (lv_at hl 5 rfl) ?_
      refine lv_iconst (v := 1) hx hb dL_law_980 (by decide) ?_
      refine lv_iadd hx hb dL_law_981  ?_
      refine lv_topi (fun x144 ex144 => ?_)
      obtain rfl : x144 = 1 := ex144.trans (by decide)
      refine va_sld hx hb hX hbl hbA hS (show vp_in 1 6 from by unfold vp_in; decide) dL_law_982 ?_
      refine lv_topi (fun x145 ex145 => ?_)
      obtain rfl : w1 = x145 := hw1.trans ex145.symm
      refine lv_aload_n hx hb dL_law_983 rfl (lv_at hl 1 rfl) ?_
      refine lv_iload hx hb dL_law_984 (lv_at hl 5 rfl) ?_
      refine lv_iconst (v := 2) hx hb dL_law_986 (by decide) ?_
      refine lv_iadd hx hb dL_law_987  ?_
      refine lv_topi (fun x146 ex146 => ?_)
      obtain rfl : x146 = 2 := ex146.trans (by decide)
      refine va_sld hx hb hX hbl hbA hS (show vp_in 2 6 from by unfold vp_in; decide) dL_law_988 ?_
      refine lv_topi (fun x147 ex147 => ?_)
      obtain rfl : w2 = x147 := hw2.trans ex147.symm
      refine lv_aload_n hx hb dL_law_989 rfl (lv_at hl 1 rfl) ?_
      refine lv_iload hx hb dL_law_990 (lv_at hl 5 rfl) ?_
      refine lv_iconst (v := 3) hx hb dL_law_992 (by decide) ?_
      refine lv_iadd hx hb dL_law_993  ?_
      refine lv_topi (fun x148 ex148 => ?_)
      obtain rfl : x148 = 3 := ex148.trans (by decide)
      refine va_sld hx hb hX hbl hbA hS (show vp_in 3 6 from by unfold vp_in; decide) dL_law_994 ?_
      refine lv_topi (fun x149 ex149 => ?_)
      obtain rfl : w3 = x149 := hw3.trans ex149.symm
      refine lv_i2l hx hb dL_law_995 rfl ?_
      refine lv_topl (fun x150 ex150 => ?_)
      refine lv_bipush (v := 32) hx hb dL_law_996 (by decide) ?_
      refine lv_lshl hx hb dL_law_998 rfl ?_
      refine lv_topl (fun x151 ex151 => ?_)
      refine lv_aload_n hx hb dL_law_999 rfl (lv_at hl 1 rfl) ?_
      refine lv_iload hx hb dL_law_1000 (lv_at hl 5 rfl) ?_
      refine lv_iconst (v := 4) hx hb dL_law_1002 (by decide) ?_
      refine lv_iadd hx hb dL_law_1003  ?_
      refine lv_topi (fun x152 ex152 => ?_)
      obtain rfl : x152 = 4 := ex152.trans (by decide)
      refine va_sld hx hb hX hbl hbA hS (show vp_in 4 6 from by unfold vp_in; decide) dL_law_1004 ?_
      refine lv_topi (fun x153 ex153 => ?_)
      obtain rfl : w4 = x153 := hw4.trans ex153.symm
      refine lv_i2l hx hb dL_law_1005 rfl ?_
      refine lv_topl (fun x154 ex154 => ?_)
      refine lv_ldc2 (v := 4294967295) hx hb hown (hts (.constantLong RL 171 (4294967295)) (by decide +kernel)) dL_law_1006 ?_
      refine lv_land hx hb dL_law_1009  ?_
      refine lv_topl (fun x155 ex155 => ?_)
      refine lv_lor hx hb dL_law_1010  ?_
      refine lv_topl (fun x156 ex156 => ?_)
      have hPc := hP.sub (ws' := [(aZ, .inr (15, fsZ))]) [0] rfl
      have hDc := hD.sub (ws' := [(aZ, .inr (15, fsZ))]) [0] (by decide) rfl
      have hKc := hK.sub (tys' := []) [] rfl
      have hFc := va_free (wc := [(aZ, .inr (15, fsZ))]) hD hS hA [0] rfl
      refine va_calli (va_runV (As := [.int w1, .int w2, .long x156]) (rest := []) ⟨hx, hb, hml, hown, hts⟩ (z_X12_setStatic l dC dI H.size aZ fsZ w1 w2 x156 (fh_sub o_fsZ.2 [0, 1] rfl) ) (cwV 3 hts g_lk_12_z_X12_setStatic_179 rfl rfl rfl (by decide +kernel) ⟨Nat.le_of_ble_eq_true rfl, Nat.le_of_ble_eq_true rfl⟩) ⟨fun a U g mk q => by obtain ⟨q0, q1, qP, qK, qD⟩ := q; exact ⟨q0, q1, qP, va_K.moved (u := U) (U := U.calling g mk a) (Vm.Alike.refl U.vm) qK, qD⟩, va_recv hK hP (ci := 15) (q0 := 0) rfl rfl, fun U hU hW => ⟨rfl, by rw [hU], by rw [hU]; exact hPc, va_K.moved hW.alike hKc, hDc.weaken (fun _ _ _ _ => trivial)⟩⟩ rfl rfl hl.1 rfl (lv_room (Nat.le_of_ble_eq_true rfl)) dL_law_1011 ⟨Nat.le_of_ble_eq_true rfl, Nat.le_of_ble_eq_true rfl⟩) hS (fun q _ h => hFc q h) hFc (fun r157 u t H1 locs ht hvm hw hB hz1 hk1 hS => ?_)
      obtain ⟨s158, rfl⟩ : ∃ z, z = u := ⟨_, rfl⟩
      obtain ⟨hP1, hK1, hD1⟩ := hB
      rw [ht] at hP1
      try dsimp only at hw
      obtain ⟨hP, hD⟩ := va_join (wr := []) (w1 := [(aZ, .inr (15, s158))]) hP hD [0] [] rfl rfl (by decide) (by decide) hk1 hFc hP1 hD1
      have hK := hK.sub (tys' := []) [] rfl
      generalize H1 = H at hP hS ⊢
      have hP : va_P (dC, dI) vwCl [(aZ, .inr (15, s158))] H := hP
      have hD : va_D A [(aZ, .inr (15, s158))] := hD
      rcases hw with ⟨c159, er160, o_s158⟩ | ⟨c161, c162, er163, o_s158⟩
      · exact (by exfalso; (try simp only [i_lt, i_le, i_eq, kc_0] at c117 c118 c159); omega)
      · skip
        subst er163
        have o_s158 := ow_on o_fsZ o_s158 (l' := [(0, .int 1), (20, .int 0), (20, .int 0)]) (w' := [0]) rfl rfl
        refine lv_istore (lv' := [(6, .int 0), (5, .int 1), (0, .ref b), (1, .ref aX), (2, .ref aZ), (3, .ref qO), (4, .int 0)]) hx hb dL_law_1014 hl (by decide) rfl (fun ls hl => ?_)
        refine lv_aload_n hx hb dL_law_1016 rfl (lv_at hl 4 rfl) ?_
        have hPc := hP.sub (ws' := [(aZ, .inr (15, s158))]) [0] rfl
        have hDc := hD.sub (ws' := [(aZ, .inr (15, s158))]) [0] (by decide) rfl
        have hKc := hK.sub (tys' := []) [] rfl
        have hFc := va_free (wc := [(aZ, .inr (15, s158))]) hD hS hA [0] rfl
        refine va_calli (va_runV (As := []) (rest := []) ⟨hx, hb, hml, hown, hts⟩ (z_X12_thrown l dC dI H.size aZ s158 (fh_sub o_s158.2 [0] rfl) ) (cwV 0 hts g_lk_12_z_X12_thrown_149 rfl rfl rfl (by decide +kernel) ⟨Nat.le_of_ble_eq_true rfl, Nat.le_of_ble_eq_true rfl⟩) ⟨fun a U g mk q => by obtain ⟨q0, q1, qP, qK, qD⟩ := q; exact ⟨q0, q1, qP, va_K.moved (u := U) (U := U.calling g mk a) (Vm.Alike.refl U.vm) qK, qD⟩, va_recv hK hP (ci := 15) (q0 := 0) rfl rfl, fun U hU hW => ⟨rfl, by rw [hU], by rw [hU]; exact hPc, va_K.moved hW.alike hKc, hDc.weaken (fun _ _ _ _ => trivial)⟩⟩ rfl rfl hl.1 rfl (lv_room (Nat.le_of_ble_eq_true rfl)) dL_law_1017 ⟨Nat.le_of_ble_eq_true rfl, Nat.le_of_ble_eq_true rfl⟩) hS (fun q _ h => hFc q h) hFc (fun r164 u t H1 locs ht hvm hw hB hz1 hk1 hS => ?_)
        obtain ⟨hP1, hK1, hD1⟩ := hB
        rw [ht] at hP1
        try dsimp only at hw
        obtain ⟨hP, hD⟩ := va_join (wr := []) (w1 := [(aZ, .inr (15, s158))]) hP hD [0] [] rfl rfl (by decide) (by decide) hk1 hFc hP1 hD1
        have hK := hK.sub (tys' := []) [] rfl
        generalize H1 = H at hP hS ⊢
        have hP : va_P (dC, dI) vwCl [(aZ, .inr (15, s158))] H := hP
        have hD : va_D A [(aZ, .inr (15, s158))] := hD
        have er165 := hw
        subst er165
        refine lv_iload hx hb dL_law_1020 (lv_at hl 1 rfl) ?_
        refine lv_icmp_eq (tgt := 1027) hx hb dL_law_1022 (by decide) (fun c166 => ?_) (fun c166 => absurd c166 (by decide))
        refine lv_iload hx hb dL_law_1027 (lv_at hl 1 rfl) ?_
        refine lv_if_ne (tgt := 1044) hx hb dL_law_1029 (by decide) (fun c167 => ?_) (fun c167 => absurd c167 (by decide))
        refine lv_goto (tgt := 3111) hx hb dL_law_1044 (by decide) ?_
        exact lw_end hst C0 hA hAf hZ hY (Nat.le_of_ble_eq_true rfl) (Nat.le_of_ble_eq_true rfl) dC dI P0k P0 D0 hS ls (lv_sub hl [2, 6] rfl)

set_option maxRecDepth 20000 in
theorem g_lk_13_z_L_get_180 : GoodIn lwW (va_wsS RL 180 yL_get w_z_L_get) := goodIn_app (goodIn_sub (ws := ([.methodLink RL 180 yL_get, .static yL_get, .initialized RL] : List Cond)) (gm_c (gm_at lwV_24_in 0 rfl) (gm_c (gm_at lwV_24_in 1 rfl) (gm_c (gm_at lwV_5_in 10 rfl) gm_nil))) (by decide +kernel)) (goodIn_ca (goodIn_sub (ws := .codeWith yL_get cL_get 5 (some .int) [(0, 9, 12, 30)] :: l_z_L_get) (gm_c (gm_at lwV_24_in 5 rfl) (gm_c (gm_at lwV_24_in 6 rfl) (gm_c (gm_at lwV_24_in 7 rfl) (gm_c (gm_at lwV_24_in 8 rfl) (gm_c (gm_at lwV_0_in 3 rfl) (gm_c (gm_at lwV_19_in 11 rfl) (gm_c (gm_at lwV_24_in 9 rfl) (gm_c (gm_at lwV_13_in 9 rfl) (gm_c (gm_at lwV_21_in 11 rfl) (gm_c (gm_at lwV_22_in 0 rfl) (gm_c (gm_at lwV_22_in 1 rfl) (gm_c (gm_at lwV_14_in 4 rfl) (gm_c (gm_at lwV_20_in 4 rfl) (gm_c (gm_at lwV_20_in 5 rfl) (gm_c (gm_at lwV_22_in 2 rfl) (gm_c (gm_at lwV_22_in 3 rfl) (gm_c (gm_at lwV_20_in 2 rfl) (gm_c (gm_at lwV_20_in 3 rfl) (gm_c (gm_at lwV_20_in 6 rfl) (gm_c (gm_at lwV_15_in 1 rfl) gm_nil)))))))))))))))))))) (by decide +kernel)) (goodIn_app (goodIn_in il_X11 gd_X11) (goodIn_app (goodIn_in il_at0_X11_223 gd_at0_X11_223) (goodIn_in il_X2 gd_X2))))
set_option maxRecDepth 20000 in
theorem g_lk_13_z_X12_get_182 : GoodIn lwW (wsV RL 182 RX12 yX12_get w_z_X12_get) := goodIn_app (goodIn_sub (ws := ([.methodLink RL 182 yX12_get, .instanceMethod yX12_get, .selects RX12 yX12_get yX12_get, .initialized RX12] : List Cond)) (gm_c (gm_at lwV_24_in 2 rfl) (gm_c (gm_at lwV_24_in 3 rfl) (gm_c (gm_at lwV_24_in 4 rfl) (gm_c (gm_at lwV_0_in 7 rfl) gm_nil)))) (by decide +kernel)) (goodIn_ca (goodIn_sub (ws := .code yX12_get cX12_get 3 (some .long) :: l_z_X12_get) (gm_c (gm_at lwV_24_in 10 rfl) (gm_c (gm_at lwV_20_in 8 rfl) (gm_c (gm_at lwV_20_in 9 rfl) (gm_c (gm_at lwV_20_in 10 rfl) (gm_c (gm_at lwV_0_in 7 rfl) (gm_c (gm_at lwV_1_in 5 rfl) (gm_c (gm_at lwV_20_in 11 rfl) (gm_c (gm_at lwV_17_in 4 rfl) gm_nil)))))))) (by decide +kernel)) (goodIn_in il_X12 gd_X12))
set_option maxRecDepth 20000 in
theorem g_lk_13_z_X12_thrown_149 : GoodIn lwW (wsV RL 149 RX12 yX12_thrown w_z_X12_thrown) := goodIn_app (goodIn_sub (ws := ([.methodLink RL 149 yX12_thrown, .instanceMethod yX12_thrown, .selects RX12 yX12_thrown yX12_thrown, .initialized RX12] : List Cond)) (gm_c (gm_at lwV_6_in 2 rfl) (gm_c (gm_at lwV_6_in 3 rfl) (gm_c (gm_at lwV_6_in 4 rfl) (gm_c (gm_at lwV_0_in 7 rfl) gm_nil)))) (by decide +kernel)) (goodIn_ca (goodIn_sub (ws := .code yX12_thrown cX12_thrown 1 (some .int) :: l_z_X12_thrown) (gm_c (gm_at lwV_9_in 9 rfl) (gm_c (gm_at lwV_1_in 5 rfl) gm_nil)) (by decide +kernel)) (goodIn_in il_X12 gd_X12))
set_option maxHeartbeats 4000000 in
set_option maxRecDepth 100000 in
/-- the law, one call: get -/
theorem lk_13 {p : Program} {l : Launch} {e : Env} {s : State} {m : MethodId} {below : List Frame} {meth : Method} {c : Code} {b : Nat} {xs : Nat → Int32} (hst : l.stackTraces = false) (C0 : lw_At p s m meth c b 6 xs) {A : Nat → Prop} (hA : ∀ q : Nat, s.heap.size ≤ q → A q) (hAf : ∀ q : Nat, A q → s.heap.size ≤ q) (hZ : Zz A s) (hY : Yy s) (dC : Nat → ClassId) (dI : Nat → Nat → Nat) (aX : Nat) (fsX : List Value) (aH : Nat) (fsHe : List Value) (aZ : Nat) (fsZ : List Value) (qO : Nat) (w1 : Int32) (hw1 : w1 = xs (1 : Int32).toNatClampNeg) (w2 : Int32) (hw2 : w2 = xs (2 : Int32).toNatClampNeg) (w3 : Int32) (hw3 : w3 = xs (3 : Int32).toNatClampNeg) (w4 : Int32) (hw4 : w4 = xs (4 : Int32).toNatClampNeg) (w5 : Int32) (hw5 : w5 = xs (5 : Int32).toNatClampNeg) (k_fsX : fh fsX 18 [(2, .ref aH)]) (k_fsHe : fh fsHe 14 [(1, .int 0)]) (k_fsZ : fh fsZ 150 [(0, .int 0), (26, .int 0)])  {H : Heap} {locs : List Loc} (hK : va_K (dC, dI) vwCl [] s) (hP : va_P (dC, dI) vwCl [(aX, .inr (14, fsX)), (aH, .inr (5, fsHe)), (aZ, .inr (15, fsZ))] H) (hD : va_D A [(aX, .inr (14, fsX)), (aH, .inr (5, fsHe)), (aZ, .inr (15, fsZ))]) (hS : va_S A s.heap H locs) (ls : Array Slot) (hl : lv_has ls 8 [(0, .ref b), (1, .ref aX), (2, .ref aZ), (3, .ref qO), (4, .int 0)]) : W p l e room_1 s m #[Value.ref b] below meth c H locs 390 571359 (lw_Z below #[Value.ref b] s) (F0 m 1047 ls []) := by
  obtain ⟨hx, hb, hr, hml, hown0, hts0, hX, hbl, hlocks, hgv⟩ := id C0
  have hown : s.vm.findClass RL = some m.cls := hown0
  have hts : ∀ w ∈ lwW, w.before #[Value.ref b] s = true := fun w h => hts0 w (lwW_in w h)
  have hbA : ¬ A b := fun h => absurd (hAf b h) (Nat.not_le.mpr hbl)
  have o_fsX := ow_0 k_fsX
  have o_fsHe := ow_0 k_fsHe
  have o_fsZ := ow_0 k_fsZ
  refine lv_aload_n hx hb dL_law_1047 rfl (lv_at hl 1 rfl) ?_
  refine lv_aload_n hx hb dL_law_1048 rfl (lv_at hl 0 rfl) ?_
  refine lv_iload hx hb dL_law_1049 (lv_at hl 4 rfl) ?_
  refine lv_iconst (v := 1) hx hb dL_law_1051 (by decide) ?_
  refine lv_iadd hx hb dL_law_1052  ?_
  refine lv_topi (fun x101 ex101 => ?_)
  obtain rfl : x101 = 1 := ex101.trans (by decide)
  refine va_sld hx hb hX hbl hbA hS (show vp_in 1 6 from by unfold vp_in; decide) dL_law_1053 ?_
  refine lv_topi (fun x102 ex102 => ?_)
  obtain rfl : w1 = x102 := hw1.trans ex102.symm
  refine lv_aload_n hx hb dL_law_1054 rfl (lv_at hl 0 rfl) ?_
  refine lv_iload hx hb dL_law_1055 (lv_at hl 4 rfl) ?_
  refine lv_iconst (v := 2) hx hb dL_law_1057 (by decide) ?_
  refine lv_iadd hx hb dL_law_1058  ?_
  refine lv_topi (fun x103 ex103 => ?_)
  obtain rfl : x103 = 2 := ex103.trans (by decide)
  refine va_sld hx hb hX hbl hbA hS (show vp_in 2 6 from by unfold vp_in; decide) dL_law_1059 ?_
  refine lv_topi (fun x104 ex104 => ?_)
  obtain rfl : w2 = x104 := hw2.trans ex104.symm
  refine lv_aload_n hx hb dL_law_1060 rfl (lv_at hl 3 rfl) ?_
  have hPc := hP.sub (ws' := [(aX, .inr (14, fsX)), (aH, .inr (5, fsHe))]) [0, 1] rfl
  have hDc := hD.sub (ws' := [(aX, .inr (14, fsX)), (aH, .inr (5, fsHe))]) [0, 1] (by decide) rfl
  have hKc := hK.sub (tys' := []) [] rfl
  have hFc := va_free (wc := [(aX, .inr (14, fsX)), (aH, .inr (5, fsHe))]) hD hS hA [0, 1] rfl
  refine vx_calli (vx_runSX (As := [.ref aX, .int w1, .int w2, .ref qO]) (rest := []) ⟨hx, hb, hml, hown, hts⟩ (z_L_get l dC dI H.size aX fsX aH fsHe w1 w2 qO (fh_sub o_fsX.2 [0] rfl) (fh_sub o_fsHe.2 [0] rfl) hst ) (vx_cwSW 4 hts g_lk_13_z_L_get_180 rfl rfl rfl (by decide +kernel) ⟨Nat.le_of_ble_eq_true rfl, Nat.le_of_ble_eq_true rfl⟩) ⟨fun a U g mk q => by obtain ⟨q0, q1, qZ, qY, qP, qK, qD⟩ := q; exact ⟨q0, q1, Zz_call qZ, Yy_call qY, qP, va_K.moved (u := U) (U := U.calling g mk a) (Vm.Alike.refl U.vm) qK, qD⟩, fun U hU hW => ⟨rfl, by rw [hU], Zz_go hZ hS hFc hU hW, Yy_go hY hW, by rw [hU]; exact hPc, va_K.moved hW.alike hKc, hDc.weaken (fun _ _ _ _ => trivial)⟩⟩ rfl rfl hl.1 rfl (lv_room (Nat.le_of_ble_eq_true rfl)) dL_law_1061 ⟨Nat.le_of_ble_eq_true rfl, Nat.le_of_ble_eq_true rfl⟩) hS (fun q _ h => hFc q h) hFc (fun q _ h => hFc q h) (fun E ce q9 u t H1 locs ht hvm hpx hBX hz1 hk1 hS hce hcv hcl => ?_) (fun r105 u t H1 locs ht hvm hw hB hz1 hk1 hS => ?_)
  · exact False.elim hBX
  · skip
    obtain ⟨hP1, hK1, hD1⟩ := hB
    rw [ht] at hP1
    try dsimp only at hw
    obtain ⟨hP, hD⟩ := va_join (wr := [(aZ, .inr (15, fsZ))]) (w1 := []) hP hD [0, 1] [2] rfl rfl (by decide) (by decide) hk1 hFc hP1 hD1
    have hK := hK.sub (tys' := []) [] rfl
    generalize H1 = H at hP hS ⊢
    refine W.widen (k := 391) (n := 571365) (by omega) (by omega) ?_
    have hP : va_P (dC, dI) vwCl [(aZ, .inr (15, fsZ))] H := hP
    have hD : va_D A [(aZ, .inr (15, fsZ))] := hD
    rcases hw with ⟨c106, er107⟩ | ⟨c108, c109, er110⟩
    · skip
      subst er107
      refine lv_istore (lv' := [(5, .int 1), (0, .ref b), (1, .ref aX), (2, .ref aZ), (3, .ref qO), (4, .int 0)]) hx hb dL_law_1064 hl (by decide) rfl (fun ls hl => ?_)
      refine lv_aload_n hx hb dL_law_1066 rfl (lv_at hl 3 rfl) ?_
      refine lv_aload_n hx hb dL_law_1067 rfl (lv_at hl 1 rfl) ?_
      refine lv_iload hx hb dL_law_1068 (lv_at hl 5 rfl) ?_
      refine lv_iconst (v := 1) hx hb dL_law_1070 (by decide) ?_
      refine lv_iadd hx hb dL_law_1071  ?_
      refine lv_topi (fun x111 ex111 => ?_)
      obtain rfl : x111 = 1 := ex111.trans (by decide)
      refine va_sld hx hb hX hbl hbA hS (show vp_in 1 6 from by unfold vp_in; decide) dL_law_1072 ?_
      refine lv_topi (fun x112 ex112 => ?_)
      obtain rfl : w1 = x112 := hw1.trans ex112.symm
      refine lv_aload_n hx hb dL_law_1073 rfl (lv_at hl 1 rfl) ?_
      refine lv_iload hx hb dL_law_1074 (lv_at hl 5 rfl) ?_
      refine lv_iconst (v := 2) hx hb dL_law_1076 (by decide) ?_
      refine lv_iadd hx hb dL_law_1077  ?_
      refine lv_topi (fun x113 ex113 => ?_)
      obtain rfl : x113 = 2 := ex113.trans (by decide)
      refine va_sld hx hb hX hbl hbA hS (show vp_in 2 6 from by unfold vp_in; decide) dL_law_1078 ?_
      refine lv_topi (fun x114 ex114 => ?_)
      obtain rfl : w2 = x114 := hw2.trans ex114.symm
      have hPc := hP.sub (ws' := [(aZ, .inr (15, fsZ))]) [0] rfl
      have hDc := hD.sub (ws' := [(aZ, .inr (15, fsZ))]) [0] (by decide) rfl
      have hKc := hK.sub (tys' := []) [] rfl
      have hFc := va_free (wc := [(aZ, .inr (15, fsZ))]) hD hS hA [0] rfl
      refine va_calll (va_runV (As := [.int w1, .int w2]) (rest := []) ⟨hx, hb, hml, hown, hts⟩ (z_X12_get l dC dI H.size aZ fsZ w1 w2 (fh_sub o_fsZ.2 [0, 1] rfl) ) (cwV 2 hts g_lk_13_z_X12_get_182 rfl rfl rfl (by decide +kernel) ⟨Nat.le_of_ble_eq_true rfl, Nat.le_of_ble_eq_true rfl⟩) ⟨fun a U g mk q => by obtain ⟨q0, q1, qP, qK, qD⟩ := q; exact ⟨q0, q1, qP, va_K.moved (u := U) (U := U.calling g mk a) (Vm.Alike.refl U.vm) qK, qD⟩, va_recv hK hP (ci := 15) (q0 := 0) rfl rfl, fun U hU hW => ⟨rfl, by rw [hU], by rw [hU]; exact hPc, va_K.moved hW.alike hKc, hDc.weaken (fun _ _ _ _ => trivial)⟩⟩ rfl rfl hl.1 rfl (lv_room (Nat.le_of_ble_eq_true rfl)) dL_law_1079 ⟨Nat.le_of_ble_eq_true rfl, Nat.le_of_ble_eq_true rfl⟩) hS (fun q _ h => hFc q h) hFc (fun r115 u t H1 locs ht hvm hw hB hz1 hk1 hS => ?_)
      obtain ⟨s116, rfl⟩ : ∃ z, z = u := ⟨_, rfl⟩
      obtain ⟨hP1, hK1, hD1⟩ := hB
      rw [ht] at hP1
      try dsimp only at hw
      obtain ⟨hP, hD⟩ := va_join (wr := []) (w1 := [(aZ, .inr (15, s116))]) hP hD [0] [] rfl rfl (by decide) (by decide) hk1 hFc hP1 hD1
      have hK := hK.sub (tys' := []) [] rfl
      generalize H1 = H at hP hS ⊢
      have hP : va_P (dC, dI) vwCl [(aZ, .inr (15, s116))] H := hP
      have hD : va_D A [(aZ, .inr (15, s116))] := hD
      rcases hw with ⟨c117, er118, o_s116⟩ | ⟨c119, c120, er121, o_s116⟩
      · skip
        subst er118
        have o_s116 := ow_on o_fsZ o_s116 (l' := [(0, .int 1), (26, .int 0), (26, .int 0)]) (w' := [0]) rfl rfl
        refine lv_lstore (lv' := [(6, .long 0), (5, .int 1), (0, .ref b), (1, .ref aX), (2, .ref aZ), (3, .ref qO), (4, .int 0)]) hx hb dL_law_1082 hl (by decide) rfl (fun ls hl => ?_)
        refine lv_aload_n hx hb dL_law_1084 rfl (lv_at hl 4 rfl) ?_
        have hPc := hP.sub (ws' := [(aZ, .inr (15, s116))]) [0] rfl
        have hDc := hD.sub (ws' := [(aZ, .inr (15, s116))]) [0] (by decide) rfl
        have hKc := hK.sub (tys' := []) [] rfl
        have hFc := va_free (wc := [(aZ, .inr (15, s116))]) hD hS hA [0] rfl
        refine va_calli (va_runV (As := []) (rest := []) ⟨hx, hb, hml, hown, hts⟩ (z_X12_thrown l dC dI H.size aZ s116 (fh_sub o_s116.2 [0] rfl) ) (cwV 0 hts g_lk_13_z_X12_thrown_149 rfl rfl rfl (by decide +kernel) ⟨Nat.le_of_ble_eq_true rfl, Nat.le_of_ble_eq_true rfl⟩) ⟨fun a U g mk q => by obtain ⟨q0, q1, qP, qK, qD⟩ := q; exact ⟨q0, q1, qP, va_K.moved (u := U) (U := U.calling g mk a) (Vm.Alike.refl U.vm) qK, qD⟩, va_recv hK hP (ci := 15) (q0 := 0) rfl rfl, fun U hU hW => ⟨rfl, by rw [hU], by rw [hU]; exact hPc, va_K.moved hW.alike hKc, hDc.weaken (fun _ _ _ _ => trivial)⟩⟩ rfl rfl hl.1 rfl (lv_room (Nat.le_of_ble_eq_true rfl)) dL_law_1085 ⟨Nat.le_of_ble_eq_true rfl, Nat.le_of_ble_eq_true rfl⟩) hS (fun q _ h => hFc q h) hFc (fun r122 u t H1 locs ht hvm hw hB hz1 hk1 hS => ?_)
        obtain ⟨hP1, hK1, hD1⟩ := hB
        rw [ht] at hP1
        try dsimp only at hw
        obtain ⟨hP, hD⟩ := va_join (wr := []) (w1 := [(aZ, .inr (15, s116))]) hP hD [0] [] rfl rfl (by decide) (by decide) hk1 hFc hP1 hD1
        have hK := hK.sub (tys' := []) [] rfl
        generalize H1 = H at hP hS ⊢
        have hP : va_P (dC, dI) vwCl [(aZ, .inr (15, s116))] H := hP
        have hD : va_D A [(aZ, .inr (15, s116))] := hD
        have er123 := hw
        subst er123
        refine lv_iload hx hb dL_law_1088 (lv_at hl 1 rfl) ?_
        refine lv_icmp_eq (tgt := 1095) hx hb dL_law_1090 (by decide) (fun c124 => ?_) (fun c124 => absurd c124 (by decide))
        refine lv_iload hx hb dL_law_1095 (lv_at hl 1 rfl) ?_
        refine lv_if_ne (tgt := 1111) hx hb dL_law_1097 (by decide) (fun c125 => ?_) (fun c125 => absurd c125 (by decide))
        refine lv_goto (tgt := 3111) hx hb dL_law_1111 (by decide) ?_
        exact lw_end hst C0 hA hAf hZ hY (Nat.le_of_ble_eq_true rfl) (Nat.le_of_ble_eq_true rfl) dC dI P0k P0 D0 hS ls (lv_sub hl [2, 6] rfl)
      · exact (by exfalso; (try simp only [i_lt, i_le, i_eq, kc_0] at c106 c119 c120); omega)
    · skip
      subst er110
      refine lv_istore (lv' := [(5, .int 1), (0, .ref b), (1, .ref aX), (2, .ref aZ), (3, .ref qO), (4, .int 0)]) hx hb dL_law_1064 hl (by decide) rfl (fun ls hl => ?_)
      refine lv_aload_n hx hb dL_law_1066 rfl (lv_at hl 3 rfl) ?_
      refine lv_aload_n hx hb dL_law_1067 rfl (lv_at hl 1 rfl) ?_
      refine lv_iload hx hb dL_law_1068 (lv_at hl 5 rfl) ?_
      refine lv_iconst (v := 1) hx hb dL_law_1070 (by decide) ?_
      refine lv_iadd hx hb dL_law_1071  ?_
      refine lv_topi (fun x126 ex126 => ?_)
      obtain rfl : x126 = 1 := ex126.trans (by decide)
      refine va_sld hx hb hX hbl hbA hS (show vp_in 1 6 from by unfold vp_in; decide) dL_law_1072 ?_
      refine lv_topi (fun x127 ex127 => ?_)
      obtain rfl : w1 = x127 := hw1.trans ex127.symm
      refine lv_aload_n hx hb dL_law_1073 rfl (lv_at hl 1 rfl) ?_
      refine lv_iload hx hb dL_law_1074 (lv_at hl 5 rfl) ?_
      refine lv_iconst (v := 2) hx hb dL_law_1076 (by decide) ?_
      refine lv_iadd hx hb dL_law_1077  ?_
      refine lv_topi (fun x128 ex128 => ?_)
      obtain rfl : x128 = 2 := ex128.trans (by decide)
      refine va_sld hx hb hX hbl hbA hS (show vp_in 2 6 from by unfold vp_in; decide) dL_law_1078 ?_
      refine lv_topi (fun x129 ex129 => ?_)
      obtain rfl : w2 = x129 := hw2.trans ex129.symm
      have hPc := hP.sub (ws' := [(aZ, .inr (15, fsZ))]) [0] rfl
      have hDc := hD.sub (ws' := [(aZ, .inr (15, fsZ))]) [0] (by decide) rfl
      have hKc := hK.sub (tys' := []) [] rfl
      have hFc := va_free (wc := [(aZ, .inr (15, fsZ))]) hD hS hA [0] rfl
      refine va_calll (va_runV (As := [.int w1, .int w2]) (rest := []) ⟨hx, hb, hml, hown, hts⟩ (z_X12_get l dC dI H.size aZ fsZ w1 w2 (fh_sub o_fsZ.2 [0, 1] rfl) ) (cwV 2 hts g_lk_13_z_X12_get_182 rfl rfl rfl (by decide +kernel) ⟨Nat.le_of_ble_eq_true rfl, Nat.le_of_ble_eq_true rfl⟩) ⟨fun a U g mk q => by obtain ⟨q0, q1, qP, qK, qD⟩ := q; exact ⟨q0, q1, qP, va_K.moved (u := U) (U := U.calling g mk a) (Vm.Alike.refl U.vm) qK, qD⟩, va_recv hK hP (ci := 15) (q0 := 0) rfl rfl, fun U hU hW => ⟨rfl, by rw [hU], by rw [hU]; exact hPc, va_K.moved hW.alike hKc, hDc.weaken (fun _ _ _ _ => trivial)⟩⟩ rfl rfl hl.1 rfl (lv_room (Nat.le_of_ble_eq_true rfl)) dL_law_1079 ⟨Nat.le_of_ble_eq_true rfl, Nat.le_of_ble_eq_true rfl⟩) hS (fun q _ h => hFc q h) hFc (fun r130 u t H1 locs ht hvm hw hB hz1 hk1 hS => ?_)
      obtain ⟨s131, rfl⟩ : ∃ z, z = u := ⟨_, rfl⟩
      obtain ⟨hP1, hK1, hD1⟩ := hB
      rw [ht] at hP1
      try dsimp only at hw
      obtain ⟨hP, hD⟩ := va_join (wr := []) (w1 := [(aZ, .inr (15, s131))]) hP hD [0] [] rfl rfl (by decide) (by decide) hk1 hFc hP1 hD1
      have hK := hK.sub (tys' := []) [] rfl
      generalize H1 = H at hP hS ⊢
      have hP : va_P (dC, dI) vwCl [(aZ, .inr (15, s131))] H := hP
      have hD : va_D A [(aZ, .inr (15, s131))] := hD
      rcases hw with ⟨c132, er133, o_s131⟩ | ⟨c134, c135, er136, o_s131⟩
      · exact (by exfalso; (try simp only [i_lt, i_le, i_eq, kc_0] at c108 c109 c132); omega)
      · skip
        subst er136
        have o_s131 := ow_on o_fsZ o_s131 (l' := [(0, .int 1), (26, .int 0), (26, .int 0)]) (w' := [0]) rfl rfl
        refine lv_lstore (lv' := [(6, .long 0), (5, .int 1), (0, .ref b), (1, .ref aX), (2, .ref aZ), (3, .ref qO), (4, .int 0)]) hx hb dL_law_1082 hl (by decide) rfl (fun ls hl => ?_)
        refine lv_aload_n hx hb dL_law_1084 rfl (lv_at hl 4 rfl) ?_
        have hPc := hP.sub (ws' := [(aZ, .inr (15, s131))]) [0] rfl
        have hDc := hD.sub (ws' := [(aZ, .inr (15, s131))]) [0] (by decide) rfl
        have hKc := hK.sub (tys' := []) [] rfl
        have hFc := va_free (wc := [(aZ, .inr (15, s131))]) hD hS hA [0] rfl
        refine va_calli (va_runV (As := []) (rest := []) ⟨hx, hb, hml, hown, hts⟩ (z_X12_thrown l dC dI H.size aZ s131 (fh_sub o_s131.2 [0] rfl) ) (cwV 0 hts g_lk_13_z_X12_thrown_149 rfl rfl rfl (by decide +kernel) ⟨Nat.le_of_ble_eq_true rfl, Nat.le_of_ble_eq_true rfl⟩) ⟨fun a U g mk q => by obtain ⟨q0, q1, qP, qK, qD⟩ := q; exact ⟨q0, q1, qP, va_K.moved (u := U) (U := U.calling g mk a) (Vm.Alike.refl U.vm) qK, qD⟩, va_recv hK hP (ci := 15) (q0 := 0) rfl rfl, fun U hU hW => ⟨rfl, by rw [hU], by rw [hU]; exact hPc, va_K.moved hW.alike hKc, hDc.weaken (fun _ _ _ _ => trivial)⟩⟩ rfl rfl hl.1 rfl (lv_room (Nat.le_of_ble_eq_true rfl)) dL_law_1085 ⟨Nat.le_of_ble_eq_true rfl, Nat.le_of_ble_eq_true rfl⟩) hS (fun q _ h => hFc q h) hFc (fun r137 u t H1 locs ht hvm hw hB hz1 hk1 hS => ?_)
        obtain ⟨hP1, hK1, hD1⟩ := hB
        rw [ht] at hP1
        try dsimp only at hw
        obtain ⟨hP, hD⟩ := va_join (wr := []) (w1 := [(aZ, .inr (15, s131))]) hP hD [0] [] rfl rfl (by decide) (by decide) hk1 hFc hP1 hD1
        have hK := hK.sub (tys' := []) [] rfl
        generalize H1 = H at hP hS ⊢
        have hP : va_P (dC, dI) vwCl [(aZ, .inr (15, s131))] H := hP
        have hD : va_D A [(aZ, .inr (15, s131))] := hD
        have er138 := hw
        subst er138
        refine lv_iload hx hb dL_law_1088 (lv_at hl 1 rfl) ?_
        refine lv_icmp_eq (tgt := 1095) hx hb dL_law_1090 (by decide) (fun c139 => ?_) (fun c139 => absurd c139 (by decide))
        refine lv_iload hx hb dL_law_1095 (lv_at hl 1 rfl) ?_
        refine lv_if_ne (tgt := 1111) hx hb dL_law_1097 (by decide) (fun c140 => ?_) (fun c140 => absurd c140 (by decide))
        refine lv_goto (tgt := 3111) hx hb dL_law_1111 (by decide) ?_
        exact lw_end hst C0 hA hAf hZ hY (Nat.le_of_ble_eq_true rfl) (Nat.le_of_ble_eq_true rfl) dC dI P0k P0 D0 hS ls (lv_sub hl [2, 6] rfl)

