set_option maxRecDepth 20000 in
theorem g_lk_14_z_L_getStatic_183 : GoodIn lwW (va_wsS RL 183 yL_getStatic w_z_L_getStatic) := goodIn_app (goodIn_sub (ws := ([.methodLink RL 183 yL_getStatic, .static yL_getStatic, .initialized RL] : List Cond)) (gm_c (gm_at lwV_24_in 11 rfl) (gm_c (gm_at lwV_25_in 0 rfl) (gm_c (gm_at lwV_5_in 10 rfl) gm_nil))) (by decide +kernel)) (goodIn_ca (goodIn_sub (ws := .codeWith yL_getStatic cL_getStatic 5 (some .int) [(0, 9, 12, 30)] :: l_z_L_getStatic) (gm_c (gm_at lwV_25_in 4 rfl) (gm_c (gm_at lwV_25_in 5 rfl) (gm_c (gm_at lwV_25_in 6 rfl) (gm_c (gm_at lwV_25_in 7 rfl) (gm_c (gm_at lwV_0_in 3 rfl) (gm_c (gm_at lwV_19_in 11 rfl) (gm_c (gm_at lwV_25_in 8 rfl) (gm_c (gm_at lwV_7_in 7 rfl) (gm_c (gm_at lwV_23_in 3 rfl) (gm_c (gm_at lwV_23_in 4 rfl) (gm_c (gm_at lwV_23_in 5 rfl) (gm_c (gm_at lwV_7_in 11 rfl) (gm_c (gm_at lwV_20_in 4 rfl) (gm_c (gm_at lwV_20_in 5 rfl) (gm_c (gm_at lwV_23_in 6 rfl) (gm_c (gm_at lwV_12_in 4 rfl) (gm_c (gm_at lwV_7_in 9 rfl) (gm_c (gm_at lwV_7_in 10 rfl) (gm_c (gm_at lwV_8_in 9 rfl) (gm_c (gm_at lwV_8_in 10 rfl) gm_nil)))))))))))))))))))) (by decide +kernel)) (goodIn_app (goodIn_in il_X11 gd_X11) (goodIn_app (goodIn_in il_at0_X11_223 gd_at0_X11_223) (goodIn_in il_X10 gd_X10))))
set_option maxRecDepth 20000 in
theorem g_lk_14_z_X12_getStatic_185 : GoodIn lwW (wsV RL 185 RX12 yX12_getStatic w_z_X12_getStatic) := goodIn_app (goodIn_sub (ws := ([.methodLink RL 185 yX12_getStatic, .instanceMethod yX12_getStatic, .selects RX12 yX12_getStatic yX12_getStatic, .initialized RX12] : List Cond)) (gm_c (gm_at lwV_25_in 1 rfl) (gm_c (gm_at lwV_25_in 2 rfl) (gm_c (gm_at lwV_25_in 3 rfl) (gm_c (gm_at lwV_0_in 7 rfl) gm_nil)))) (by decide +kernel)) (goodIn_ca (goodIn_sub (ws := .code yX12_getStatic cX12_getStatic 4 (some .long) :: l_z_X12_getStatic) (gm_c (gm_at lwV_25_in 9 rfl) (gm_c (gm_at lwV_23_in 8 rfl) (gm_c (gm_at lwV_23_in 9 rfl) (gm_c (gm_at lwV_23_in 10 rfl) (gm_c (gm_at lwV_0_in 7 rfl) (gm_c (gm_at lwV_1_in 5 rfl) (gm_c (gm_at lwV_23_in 11 rfl) (gm_c (gm_at lwV_9_in 3 rfl) (gm_c (gm_at lwV_9_in 4 rfl) (gm_c (gm_at lwV_9_in 5 rfl) (gm_c (gm_at lwV_9_in 7 rfl) (gm_c (gm_at lwV_9_in 8 rfl) gm_nil)))))))))))) (by decide +kernel)) (goodIn_in il_X12 gd_X12))
set_option maxRecDepth 20000 in
theorem g_lk_14_z_X12_thrown_149 : GoodIn lwW (wsV RL 149 RX12 yX12_thrown w_z_X12_thrown) := goodIn_app (goodIn_sub (ws := ([.methodLink RL 149 yX12_thrown, .instanceMethod yX12_thrown, .selects RX12 yX12_thrown yX12_thrown, .initialized RX12] : List Cond)) (gm_c (gm_at lwV_6_in 2 rfl) (gm_c (gm_at lwV_6_in 3 rfl) (gm_c (gm_at lwV_6_in 4 rfl) (gm_c (gm_at lwV_0_in 7 rfl) gm_nil)))) (by decide +kernel)) (goodIn_ca (goodIn_sub (ws := .code yX12_thrown cX12_thrown 1 (some .int) :: l_z_X12_thrown) (gm_c (gm_at lwV_9_in 9 rfl) (gm_c (gm_at lwV_1_in 5 rfl) gm_nil)) (by decide +kernel)) (goodIn_in il_X12 gd_X12))
set_option maxHeartbeats 4000000 in
set_option maxRecDepth 100000 in
/-- the law, one call: getStatic -/
theorem lk_14 {p : Program} {l : Launch} {e : Env} {s : State} {m : MethodId} {below : List Frame} {meth : Method} {c : Code} {b : Nat} {xs : Nat → Int32} (hst : l.stackTraces = false) (C0 : lw_At p s m meth c b 6 xs) {A : Nat → Prop} (hA : ∀ q : Nat, s.heap.size ≤ q → A q) (hAf : ∀ q : Nat, A q → s.heap.size ≤ q) (hZ : Zz A s) (hY : Yy s) (dC : Nat → ClassId) (dI : Nat → Nat → Nat) (aX : Nat) (fsX : List Value) (aY : Nat) (fsY : List Value) (aZ : Nat) (fsZ : List Value) (qO : Nat) (w1 : Int32) (hw1 : w1 = xs (1 : Int32).toNatClampNeg) (w2 : Int32) (hw2 : w2 = xs (2 : Int32).toNatClampNeg) (w3 : Int32) (hw3 : w3 = xs (3 : Int32).toNatClampNeg) (w4 : Int32) (hw4 : w4 = xs (4 : Int32).toNatClampNeg) (w5 : Int32) (hw5 : w5 = xs (5 : Int32).toNatClampNeg) (k_fsX : fh fsX 18 [(1, .ref aY)]) (k_fsY : fh fsY 18 [(0, .int 0)]) (k_fsZ : fh fsZ 150 [(0, .int 0), (20, .int 0)])  {H : Heap} {locs : List Loc} (hK : va_K (dC, dI) vwCl [] s) (hP : va_P (dC, dI) vwCl [(aX, .inr (14, fsX)), (aY, .inr (13, fsY)), (aZ, .inr (15, fsZ))] H) (hD : va_D A [(aX, .inr (14, fsX)), (aY, .inr (13, fsY)), (aZ, .inr (15, fsZ))]) (hS : va_S A s.heap H locs) (ls : Array Slot) (hl : lv_has ls 8 [(0, .ref b), (1, .ref aX), (2, .ref aZ), (3, .ref qO), (4, .int 0)]) : W p l e room_1 s m #[Value.ref b] below meth c H locs 390 571359 (lw_Z below #[Value.ref b] s) (F0 m 1114 ls []) := by
  obtain ⟨hx, hb, hr, hml, hown0, hts0, hX, hbl, hlocks, hgv⟩ := id C0
  have hown : s.vm.findClass RL = some m.cls := hown0
  have hts : ∀ w ∈ lwW, w.before #[Value.ref b] s = true := fun w h => hts0 w (lwW_in w h)
  have hbA : ¬ A b := fun h => absurd (hAf b h) (Nat.not_le.mpr hbl)
  have o_fsX := ow_0 k_fsX
  have o_fsY := ow_0 k_fsY
  have o_fsZ := ow_0 k_fsZ
  refine lv_aload_n hx hb dL_law_1114 rfl (lv_at hl 1 rfl) ?_
  refine lv_aload_n hx hb dL_law_1115 rfl (lv_at hl 0 rfl) ?_
  refine lv_iload hx hb dL_law_1116 (lv_at hl 4 rfl) ?_
  refine lv_iconst (v := 1) hx hb dL_law_1118 (by decide) ?_
  refine lv_iadd hx hb dL_law_1119  ?_
  refine lv_topi (fun x101 ex101 => ?_)
  obtain rfl : x101 = 1 := ex101.trans (by decide)
  refine va_sld hx hb hX hbl hbA hS (show vp_in 1 6 from by unfold vp_in; decide) dL_law_1120 ?_
  refine lv_topi (fun x102 ex102 => ?_)
  obtain rfl : w1 = x102 := hw1.trans ex102.symm
  refine lv_aload_n hx hb dL_law_1121 rfl (lv_at hl 0 rfl) ?_
  refine lv_iload hx hb dL_law_1122 (lv_at hl 4 rfl) ?_
  refine lv_iconst (v := 2) hx hb dL_law_1124 (by decide) ?_
  refine lv_iadd hx hb dL_law_1125  ?_
  refine lv_topi (fun x103 ex103 => ?_)
  obtain rfl : x103 = 2 := ex103.trans (by decide)
  refine va_sld hx hb hX hbl hbA hS (show vp_in 2 6 from by unfold vp_in; decide) dL_law_1126 ?_
  refine lv_topi (fun x104 ex104 => ?_)
  obtain rfl : w2 = x104 := hw2.trans ex104.symm
  refine lv_aload_n hx hb dL_law_1127 rfl (lv_at hl 3 rfl) ?_
  have hPc := hP.sub (ws' := [(aX, .inr (14, fsX)), (aY, .inr (13, fsY))]) [0, 1] rfl
  have hDc := hD.sub (ws' := [(aX, .inr (14, fsX)), (aY, .inr (13, fsY))]) [0, 1] (by decide) rfl
  have hKc := hK.sub (tys' := []) [] rfl
  have hFc := va_free (wc := [(aX, .inr (14, fsX)), (aY, .inr (13, fsY))]) hD hS hA [0, 1] rfl
  refine vx_calli (vx_runSX (As := [.ref aX, .int w1, .int w2, .ref qO]) (rest := []) ⟨hx, hb, hml, hown, hts⟩ (z_L_getStatic l dC dI H.size aX fsX aY fsY w1 w2 qO (fh_sub o_fsX.2 [0] rfl) (fh_sub o_fsY.2 [0] rfl) hst ) (vx_cwSW 4 hts g_lk_14_z_L_getStatic_183 rfl rfl rfl (by decide +kernel) ⟨Nat.le_of_ble_eq_true rfl, Nat.le_of_ble_eq_true rfl⟩) ⟨fun a U g mk q => by obtain ⟨q0, q1, qZ, qY, qP, qK, qD⟩ := q; exact ⟨q0, q1, Zz_call qZ, Yy_call qY, qP, va_K.moved (u := U) (U := U.calling g mk a) (Vm.Alike.refl U.vm) qK, qD⟩, fun U hU hW => ⟨rfl, by rw [hU], Zz_go hZ hS hFc hU hW, Yy_go hY hW, by rw [hU]; exact hPc, va_K.moved hW.alike hKc, hDc.weaken (fun _ _ _ _ => trivial)⟩⟩ rfl rfl hl.1 rfl (lv_room (Nat.le_of_ble_eq_true rfl)) dL_law_1128 ⟨Nat.le_of_ble_eq_true rfl, Nat.le_of_ble_eq_true rfl⟩) hS (fun q _ h => hFc q h) hFc (fun q _ h => hFc q h) (fun E ce q9 u t H1 locs ht hvm hpx hBX hz1 hk1 hS hce hcv hcl => ?_) (fun r105 u t H1 locs ht hvm hw hB hz1 hk1 hS => ?_)
  · exact False.elim hBX
  · skip
    obtain ⟨hP1, hK1, hD1⟩ := hB
    rw [ht] at hP1
    try dsimp only at hw
    obtain ⟨hP, hD⟩ := va_join (wr := [(aZ, .inr (15, fsZ))]) (w1 := []) hP hD [0, 1] [2] rfl rfl (by decide) (by decide) hk1 hFc hP1 hD1
    have hK := hK.sub (tys' := []) [] rfl
    generalize H1 = H at hP hS ⊢
    refine W.widen (k := 391) (n := 571365) (by omega) (by omega) ?_
    have hP : va_P (dC, dI) vwCl [(aZ, .inr (15, fsZ))] H := hP
    have hD : va_D A [(aZ, .inr (15, fsZ))] := hD
    rcases hw with ⟨c106, er107⟩ | ⟨c108, c109, er110⟩
    · skip
      subst er107
      refine lv_istore (lv' := [(5, .int 1), (0, .ref b), (1, .ref aX), (2, .ref aZ), (3, .ref qO), (4, .int 0)]) hx hb dL_law_1131 hl (by decide) rfl (fun ls hl => ?_)
      refine lv_aload_n hx hb dL_law_1133 rfl (lv_at hl 3 rfl) ?_
      refine lv_aload_n hx hb dL_law_1134 rfl (lv_at hl 1 rfl) ?_
      refine lv_iload hx hb dL_law_1135 (lv_at hl 5 rfl) ?_
      refine lv_iconst (v := 1) hx hb dL_law_1137 (by decide) ?_
      refine lv_iadd hx hb dL_law_1138  ?_
      refine lv_topi (fun x111 ex111 => ?_)
      obtain rfl : x111 = 1 := ex111.trans (by decide)
      refine va_sld hx hb hX hbl hbA hS (show vp_in 1 6 from by unfold vp_in; decide) dL_law_1139 ?_
      refine lv_topi (fun x112 ex112 => ?_)
      obtain rfl : w1 = x112 := hw1.trans ex112.symm
      refine lv_aload_n hx hb dL_law_1140 rfl (lv_at hl 1 rfl) ?_
      refine lv_iload hx hb dL_law_1141 (lv_at hl 5 rfl) ?_
      refine lv_iconst (v := 2) hx hb dL_law_1143 (by decide) ?_
      refine lv_iadd hx hb dL_law_1144  ?_
      refine lv_topi (fun x113 ex113 => ?_)
      obtain rfl : x113 = 2 := ex113.trans (by decide)
      refine va_sld hx hb hX hbl hbA hS (show vp_in 2 6 from by unfold vp_in; decide) dL_law_1145 ?_
      refine lv_topi (fun x114 ex114 => ?_)
      obtain rfl : w2 = x114 := hw2.trans ex114.symm
      have hPc := hP.sub (ws' := [(aZ, .inr (15, fsZ))]) [0] rfl
      have hDc := hD.sub (ws' := [(aZ, .inr (15, fsZ))]) [0] (by decide) rfl
      have hKc := hK.sub (tys' := []) [] rfl
      have hFc := va_free (wc := [(aZ, .inr (15, fsZ))]) hD hS hA [0] rfl
      refine va_calll (va_runV (As := [.int w1, .int w2]) (rest := []) ⟨hx, hb, hml, hown, hts⟩ (z_X12_getStatic l dC dI H.size aZ fsZ w1 w2 (fh_sub o_fsZ.2 [0, 1] rfl) ) (cwV 2 hts g_lk_14_z_X12_getStatic_185 rfl rfl rfl (by decide +kernel) ⟨Nat.le_of_ble_eq_true rfl, Nat.le_of_ble_eq_true rfl⟩) ⟨fun a U g mk q => by obtain ⟨q0, q1, qP, qK, qD⟩ := q; exact ⟨q0, q1, qP, va_K.moved (u := U) (U := U.calling g mk a) (Vm.Alike.refl U.vm) qK, qD⟩, va_recv hK hP (ci := 15) (q0 := 0) rfl rfl, fun U hU hW => ⟨rfl, by rw [hU], by rw [hU]; exact hPc, va_K.moved hW.alike hKc, hDc.weaken (fun _ _ _ _ => trivial)⟩⟩ rfl rfl hl.1 rfl (lv_room (Nat.le_of_ble_eq_true rfl)) dL_law_1146 ⟨Nat.le_of_ble_eq_true rfl, Nat.le_of_ble_eq_true rfl⟩) hS (fun q _ h => hFc q h) hFc (fun r115 u t H1 locs ht hvm hw hB hz1 hk1 hS => ?_)
      obtain ⟨s116, rfl⟩ : ∃ z, z = u := ⟨_, rfl⟩
      obtain ⟨hP1, hK1, hD1⟩ := hB
      rw [ht] at hP1
      try dsimp only at hw
      obtain ⟨hP, hD⟩ := va_join (wr := []) (w1 := [(aZ, .inr (15, s116))]) hP hD [0] [] rfl rfl (by decide) (by decide) hk1 hFc hP1 hD1
      have hK := hK.sub (tys' := []) [] rfl
      generalize H1 = H at hP hS ⊢
      have hP : va_P (dC, dI) vwCl [(aZ, .inr (15, s116))] H := hP
      have hD : va_D A [(aZ, .inr (15, s116))] := hD
      rcases hw with ⟨c117, er118, o_s116⟩ | ⟨c119, c120, er121, o_s116⟩
      · skip
        subst er118
        have o_s116 := ow_on o_fsZ o_s116 (l' := [(0, .int 1), (20, .int 0), (20, .int 0)]) (w' := [0]) rfl rfl
        refine lv_lstore (lv' := [(6, .long 0), (5, .int 1), (0, .ref b), (1, .ref aX), (2, .ref aZ), (3, .ref qO), (4, .int 0)]) hx hb dL_law_1149 hl (by decide) rfl (fun ls hl => ?_)
        refine lv_aload_n hx hb dL_law_1151 rfl (lv_at hl 4 rfl) ?_
        have hPc := hP.sub (ws' := [(aZ, .inr (15, s116))]) [0] rfl
        have hDc := hD.sub (ws' := [(aZ, .inr (15, s116))]) [0] (by decide) rfl
        have hKc := hK.sub (tys' := []) [] rfl
        have hFc := va_free (wc := [(aZ, .inr (15, s116))]) hD hS hA [0] rfl
        refine va_calli (va_runV (As := []) (rest := []) ⟨hx, hb, hml, hown, hts⟩ (z_X12_thrown l dC dI H.size aZ s116 (fh_sub o_s116.2 [0] rfl) ) (cwV 0 hts g_lk_14_z_X12_thrown_149 rfl rfl rfl (by decide +kernel) ⟨Nat.le_of_ble_eq_true rfl, Nat.le_of_ble_eq_true rfl⟩) ⟨fun a U g mk q => by obtain ⟨q0, q1, qP, qK, qD⟩ := q; exact ⟨q0, q1, qP, va_K.moved (u := U) (U := U.calling g mk a) (Vm.Alike.refl U.vm) qK, qD⟩, va_recv hK hP (ci := 15) (q0 := 0) rfl rfl, fun U hU hW => ⟨rfl, by rw [hU], by rw [hU]; exact hPc, va_K.moved hW.alike hKc, hDc.weaken (fun _ _ _ _ => trivial)⟩⟩ rfl rfl hl.1 rfl (lv_room (Nat.le_of_ble_eq_true rfl)) dL_law_1152 ⟨Nat.le_of_ble_eq_true rfl, Nat.le_of_ble_eq_true rfl⟩) hS (fun q _ h => hFc q h) hFc (fun r122 u t H1 locs ht hvm hw hB hz1 hk1 hS => ?_)
        obtain ⟨hP1, hK1, hD1⟩ := hB
        rw [ht] at hP1
        try dsimp only at hw
        obtain ⟨hP, hD⟩ := va_join (wr := []) (w1 := [(aZ, .inr (15, s116))]) hP hD [0] [] rfl rfl (by decide) (by decide) hk1 hFc hP1 hD1
        have hK := hK.sub (tys' := []) [] rfl
        generalize H1 = H at hP hS ⊢
        have hP : va_P (dC, dI) vwCl [(aZ, .inr (15, s116))] H := hP
        have hD : va_D A [(aZ, .inr (15, s116))] := hD
        have er123 := hw
        subst er123
        refine lv_iload hx hb dL_law_1155 (lv_at hl 1 rfl) ?_
        refine lv_icmp_eq (tgt := 1162) hx hb dL_law_1157 (by decide) (fun c124 => ?_) (fun c124 => absurd c124 (by decide))
        refine lv_iload hx hb dL_law_1162 (lv_at hl 1 rfl) ?_
        refine lv_if_ne (tgt := 1178) hx hb dL_law_1164 (by decide) (fun c125 => ?_) (fun c125 => absurd c125 (by decide))
        refine lv_goto (tgt := 3111) hx hb dL_law_1178 (by decide) ?_
        exact lw_end hst C0 hA hAf hZ hY (Nat.le_of_ble_eq_true rfl) (Nat.le_of_ble_eq_true rfl) dC dI P0k P0 D0 hS ls (lv_sub hl [2, 6] rfl)
      · exact (by exfalso; (try simp only [i_lt, i_le, i_eq, kc_0] at c106 c119 c120); omega)
    · skip
      subst er110
      refine lv_istore (lv' := [(5, .int 1), (0, .ref b), (1, .ref aX), (2, .ref aZ), (3, .ref qO), (4, .int 0)]) hx hb dL_law_1131 hl (by decide) rfl (fun ls hl => ?_)
      refine lv_aload_n hx hb dL_law_1133 rfl (lv_at hl 3 rfl) ?_
      refine lv_aload_n hx hb dL_law_1134 rfl (lv_at hl 1 rfl) ?_
      refine lv_iload hx hb dL_law_1135 (lv_at hl 5 rfl) ?_
      refine lv_iconst (v := 1) hx hb dL_law_1137 (by decide) ?_
      refine lv_iadd hx hb dL_law_1138  ?_
      refine lv_topi (fun x126 ex126 => ?_)
      obtain rfl : x126 = 1 := ex126.trans (by decide)
      refine va_sld hx hb hX hbl hbA hS (show vp_in 1 6 from by unfold vp_in; decide) dL_law_1139 ?_
      refine lv_topi (fun x127 ex127 => ?_)
      obtain rfl : w1 = x127 := hw1.trans ex127.symm
      refine lv_aload_n hx hb dL_law_1140 rfl (lv_at hl 1 rfl) ?_
      refine lv_iload hx hb dL_law_1141 (lv_at hl 5 rfl) ?_
      refine lv_iconst (v := 2) hx hb dL_law_1143 (by decide) ?_
      refine lv_iadd hx hb dL_law_1144  ?_
      refine lv_topi (fun x128 ex128 => ?_)
      obtain rfl : x128 = 2 := ex128.trans (by decide)
      refine va_sld hx hb hX hbl hbA hS (show vp_in 2 6 from by unfold vp_in; decide) dL_law_1145 ?_
      refine lv_topi (fun x129 ex129 => ?_)
      obtain rfl : w2 = x129 := hw2.trans ex129.symm
      have hPc := hP.sub (ws' := [(aZ, .inr (15, fsZ))]) [0] rfl
      have hDc := hD.sub (ws' := [(aZ, .inr (15, fsZ))]) [0] (by decide) rfl
      have hKc := hK.sub (tys' := []) [] rfl
      have hFc := va_free (wc := [(aZ, .inr (15, fsZ))]) hD hS hA [0] rfl
      refine va_calll (va_runV (As := [.int w1, .int w2]) (rest := []) ⟨hx, hb, hml, hown, hts⟩ (z_X12_getStatic l dC dI H.size aZ fsZ w1 w2 (fh_sub o_fsZ.2 [0, 1] rfl) ) (cwV 2 hts g_lk_14_z_X12_getStatic_185 rfl rfl rfl (by decide +kernel) ⟨Nat.le_of_ble_eq_true rfl, Nat.le_of_ble_eq_true rfl⟩) ⟨fun a U g mk q => by obtain ⟨q0, q1, qP, qK, qD⟩ := q; exact ⟨q0, q1, qP, va_K.moved (u := U) (U := U.calling g mk a) (Vm.Alike.refl U.vm) qK, qD⟩, va_recv hK hP (ci := 15) (q0 := 0) rfl rfl, fun U hU hW => ⟨rfl, by rw [hU], by rw [hU]; exact hPc, va_K.moved hW.alike hKc, hDc.weaken (fun _ _ _ _ => trivial)⟩⟩ rfl rfl hl.1 rfl (lv_room (Nat.le_of_ble_eq_true rfl)) dL_law_1146 ⟨Nat.le_of_ble_eq_true rfl, Nat.le_of_ble_eq_true rfl⟩) hS (fun q _ h => hFc q h) hFc (fun r130 u t H1 locs ht hvm hw hB hz1 hk1 hS => ?_)
      obtain ⟨s131, rfl⟩ : ∃ z, z = u := ⟨_, rfl⟩
      obtain ⟨hP1, hK1, hD1⟩ := hB
      rw [ht] at hP1
      try dsimp only at hw
      obtain ⟨hP, hD⟩ := va_join (wr := []) (w1 := [(aZ, .inr (15, s131))]) hP hD [0] [] rfl rfl (by decide) (by decide) hk1 hFc hP1 hD1
      have hK := hK.sub (tys' := []) [] rfl
      generalize H1 = H at hP hS ⊢
      have hP : va_P (dC, dI) vwCl [(aZ, .inr (15, s131))] H := hP
      have hD : va_D A [(aZ, .inr (15, s131))] := hD
      rcases hw with ⟨c132, er133, o_s131⟩ | ⟨c134, c135, er136, o_s131⟩
      · exact (by exfalso; (try simp only [i_lt, i_le, i_eq, kc_0] at c108 c109 c132); omega)
      · skip
        subst er136
        have o_s131 := ow_on o_fsZ o_s131 (l' := [(0, .int 1), (20, .int 0), (20, .int 0)]) (w' := [0]) rfl rfl
        refine lv_lstore (lv' := [(6, .long 0), (5, .int 1), (0, .ref b), (1, .ref aX), (2, .ref aZ), (3, .ref qO), (4, .int 0)]) hx hb dL_law_1149 hl (by decide) rfl (fun ls hl => ?_)
        refine lv_aload_n hx hb dL_law_1151 rfl (lv_at hl 4 rfl) ?_
        have hPc := hP.sub (ws' := [(aZ, .inr (15, s131))]) [0] rfl
        have hDc := hD.sub (ws' := [(aZ, .inr (15, s131))]) [0] (by decide) rfl
        have hKc := hK.sub (tys' := []) [] rfl
        have hFc := va_free (wc := [(aZ, .inr (15, s131))]) hD hS hA [0] rfl
        refine va_calli (va_runV (As := []) (rest := []) ⟨hx, hb, hml, hown, hts⟩ (z_X12_thrown l dC dI H.size aZ s131 (fh_sub o_s131.2 [0] rfl) ) (cwV 0 hts g_lk_14_z_X12_thrown_149 rfl rfl rfl (by decide +kernel) ⟨Nat.le_of_ble_eq_true rfl, Nat.le_of_ble_eq_true rfl⟩) ⟨fun a U g mk q => by obtain ⟨q0, q1, qP, qK, qD⟩ := q; exact ⟨q0, q1, qP, va_K.moved (u := U) (U := U.calling g mk a) (Vm.Alike.refl U.vm) qK, qD⟩, va_recv hK hP (ci := 15) (q0 := 0) rfl rfl, fun U hU hW => ⟨rfl, by rw [hU], by rw [hU]; exact hPc, va_K.moved hW.alike hKc, hDc.weaken (fun _ _ _ _ => trivial)⟩⟩ rfl rfl hl.1 rfl (lv_room (Nat.le_of_ble_eq_true rfl)) dL_law_1152 ⟨Nat.le_of_ble_eq_true rfl, Nat.le_of_ble_eq_true rfl⟩) hS (fun q _ h => hFc q h) hFc (fun r137 u t H1 locs ht hvm hw hB hz1 hk1 hS => ?_)
        obtain ⟨hP1, hK1, hD1⟩ := hB
        rw [ht] at hP1
        try dsimp only at hw
        obtain ⟨hP, hD⟩ := va_join (wr := []) (w1 := [(aZ, .inr (15, s131))]) hP hD [0] [] rfl rfl (by decide) (by decide) hk1 hFc hP1 hD1
        have hK := hK.sub (tys' := []) [] rfl
        generalize H1 = H at hP hS ⊢
        have hP : va_P (dC, dI) vwCl [(aZ, .inr (15, s131))] H := hP
        have hD : va_D A [(aZ, .inr (15, s131))] := hD
        have er138 := hw
        subst er138
        refine lv_iload hx hb dL_law_1155 (lv_at hl 1 rfl) ?_
        refine lv_icmp_eq (tgt := 1162) hx hb dL_law_1157 (by decide) (fun c139 => ?_) (fun c139 => absurd c139 (by decide))
        refine lv_iload hx hb dL_law_1162 (lv_at hl 1 rfl) ?_
        refine lv_if_ne (tgt := 1178) hx hb dL_law_1164 (by decide) (fun c140 => ?_) (fun c140 => absurd c140 (by decide))
        refine lv_goto (tgt := 3111) hx hb dL_law_1178 (by decide) ?_
        exact lw_end hst C0 hA hAf hZ hY (Nat.le_of_ble_eq_true rfl) (Nat.le_of_ble_eq_true rfl) dC dI P0k P0 D0 hS ls (lv_sub hl [2, 6] rfl)

set_option maxRecDepth 20000 in
theorem g_lk_15_z_X11_object_186 : GoodIn lwW (wsV RL 186 RX11 yX11_object w_z_X11_object) := goodIn_app (goodIn_sub (ws := ([.methodLink RL 186 yX11_object, .instanceMethod yX11_object, .selects RX11 yX11_object yX11_object, .initialized RX11] : List Cond)) (gm_c (gm_at lwV_25_in 10 rfl) (gm_c (gm_at lwV_25_in 11 rfl) (gm_c (gm_at lwV_26_in 0 rfl) (gm_c (gm_at lwV_0_in 3 rfl) gm_nil)))) (by decide +kernel)) (goodIn_ca (goodIn_sub (ws := .code yX11_object cX11_object 3 (some .int) :: l_z_X11_object) (gm_c (gm_at lwV_26_in 4 rfl) (gm_c (gm_at lwV_13_in 9 rfl) (gm_c (gm_at lwV_20_in 1 rfl) (gm_c (gm_at lwV_20_in 2 rfl) (gm_c (gm_at lwV_20_in 3 rfl) (gm_c (gm_at lwV_14_in 4 rfl) (gm_c (gm_at lwV_20_in 6 rfl) (gm_c (gm_at lwV_15_in 1 rfl) gm_nil)))))))) (by decide +kernel)) (goodIn_app (goodIn_in il_X11 gd_X11) (goodIn_in il_X2 gd_X2)))
set_option maxRecDepth 20000 in
theorem g_lk_15_z_X12_object_189 : GoodIn lwW (wsV RL 189 RX12 yX12_object w_z_X12_object) := goodIn_app (goodIn_sub (ws := ([.methodLink RL 189 yX12_object, .instanceMethod yX12_object, .selects RX12 yX12_object yX12_object, .initialized RX12] : List Cond)) (gm_c (gm_at lwV_26_in 1 rfl) (gm_c (gm_at lwV_26_in 2 rfl) (gm_c (gm_at lwV_26_in 3 rfl) (gm_c (gm_at lwV_0_in 7 rfl) gm_nil)))) (by decide +kernel)) (goodIn_ca (goodIn_sub (ws := .code yX12_object cX12_object 3 (some .int) :: l_z_X12_object) (gm_c (gm_at lwV_26_in 5 rfl) (gm_c (gm_at lwV_1_in 5 rfl) (gm_c (gm_at lwV_20_in 8 rfl) (gm_c (gm_at lwV_20_in 9 rfl) (gm_c (gm_at lwV_20_in 10 rfl) (gm_c (gm_at lwV_0_in 7 rfl) (gm_c (gm_at lwV_20_in 11 rfl) (gm_c (gm_at lwV_17_in 4 rfl) gm_nil)))))))) (by decide +kernel)) (goodIn_in il_X12 gd_X12))
set_option maxHeartbeats 4000000 in
set_option maxRecDepth 100000 in
/-- the law, one call: object -/
theorem lk_15 {p : Program} {l : Launch} {e : Env} {s : State} {m : MethodId} {below : List Frame} {meth : Method} {c : Code} {b : Nat} {xs : Nat → Int32} (hst : l.stackTraces = false) (C0 : lw_At p s m meth c b 6 xs) {A : Nat → Prop} (hA : ∀ q : Nat, s.heap.size ≤ q → A q) (hAf : ∀ q : Nat, A q → s.heap.size ≤ q) (hZ : Zz A s) (hY : Yy s) (dC : Nat → ClassId) (dI : Nat → Nat → Nat) (aX : Nat) (fsX : List Value) (aH : Nat) (fsHe : List Value) (aZ : Nat) (fsZ : List Value) (qO : Nat) (w1 : Int32) (hw1 : w1 = xs (1 : Int32).toNatClampNeg) (w2 : Int32) (hw2 : w2 = xs (2 : Int32).toNatClampNeg) (w3 : Int32) (hw3 : w3 = xs (3 : Int32).toNatClampNeg) (w4 : Int32) (hw4 : w4 = xs (4 : Int32).toNatClampNeg) (w5 : Int32) (hw5 : w5 = xs (5 : Int32).toNatClampNeg) (k_fsX : fh fsX 18 [(2, .ref aH)]) (k_fsHe : fh fsHe 14 [(1, .int 0)]) (k_fsZ : fh fsZ 150 [(26, .int 0)])  {H : Heap} {locs : List Loc} (hK : va_K (dC, dI) vwCl [] s) (hP : va_P (dC, dI) vwCl [(aX, .inr (14, fsX)), (aH, .inr (5, fsHe)), (aZ, .inr (15, fsZ))] H) (hD : va_D A [(aX, .inr (14, fsX)), (aH, .inr (5, fsHe)), (aZ, .inr (15, fsZ))]) (hS : va_S A s.heap H locs) (ls : Array Slot) (hl : lv_has ls 8 [(0, .ref b), (1, .ref aX), (2, .ref aZ), (3, .ref qO), (4, .int 0)]) : W p l e room_1 s m #[Value.ref b] below meth c H locs 390 571359 (lw_Z below #[Value.ref b] s) (F0 m 1181 ls []) := by
  obtain ⟨hx, hb, hr, hml, hown0, hts0, hX, hbl, hlocks, hgv⟩ := id C0
  have hown : s.vm.findClass RL = some m.cls := hown0
  have hts : ∀ w ∈ lwW, w.before #[Value.ref b] s = true := fun w h => hts0 w (lwW_in w h)
  have hbA : ¬ A b := fun h => absurd (hAf b h) (Nat.not_le.mpr hbl)
  have o_fsX := ow_0 k_fsX
  have o_fsHe := ow_0 k_fsHe
  have o_fsZ := ow_0 k_fsZ
  refine lv_aload_n hx hb dL_law_1181 rfl (lv_at hl 1 rfl) ?_
  refine lv_aload_n hx hb dL_law_1182 rfl (lv_at hl 0 rfl) ?_
  refine lv_iload hx hb dL_law_1183 (lv_at hl 4 rfl) ?_
  refine lv_iconst (v := 1) hx hb dL_law_1185 (by decide) ?_
  refine lv_iadd hx hb dL_law_1186  ?_
  refine lv_topi (fun x101 ex101 => ?_)
  obtain rfl : x101 = 1 := ex101.trans (by decide)
  refine va_sld hx hb hX hbl hbA hS (show vp_in 1 6 from by unfold vp_in; decide) dL_law_1187 ?_
  refine lv_topi (fun x102 ex102 => ?_)
  obtain rfl : w1 = x102 := hw1.trans ex102.symm
  refine lv_aload_n hx hb dL_law_1188 rfl (lv_at hl 0 rfl) ?_
  refine lv_iload hx hb dL_law_1189 (lv_at hl 4 rfl) ?_
  refine lv_iconst (v := 2) hx hb dL_law_1191 (by decide) ?_
  refine lv_iadd hx hb dL_law_1192  ?_
  refine lv_topi (fun x103 ex103 => ?_)
  obtain rfl : x103 = 2 := ex103.trans (by decide)
  refine va_sld hx hb hX hbl hbA hS (show vp_in 2 6 from by unfold vp_in; decide) dL_law_1193 ?_
  refine lv_topi (fun x104 ex104 => ?_)
  obtain rfl : w2 = x104 := hw2.trans ex104.symm
  have hPc := hP.sub (ws' := [(aX, .inr (14, fsX)), (aH, .inr (5, fsHe))]) [0, 1] rfl
  have hDc := hD.sub (ws' := [(aX, .inr (14, fsX)), (aH, .inr (5, fsHe))]) [0, 1] (by decide) rfl
  have hKc := hK.sub (tys' := []) [] rfl
  have hFc := va_free (wc := [(aX, .inr (14, fsX)), (aH, .inr (5, fsHe))]) hD hS hA [0, 1] rfl
  refine va_calli (va_runV (As := [.int w1, .int w2]) (rest := []) ⟨hx, hb, hml, hown, hts⟩ (z_X11_object l dC dI H.size aX fsX aH fsHe w1 w2 (fh_sub o_fsX.2 [0] rfl) (fh_sub o_fsHe.2 [0] rfl) ) (cwV 2 hts g_lk_15_z_X11_object_186 rfl rfl rfl (by decide +kernel) ⟨Nat.le_of_ble_eq_true rfl, Nat.le_of_ble_eq_true rfl⟩) ⟨fun a U g mk q => by obtain ⟨q0, q1, qP, qK, qD⟩ := q; exact ⟨q0, q1, qP, va_K.moved (u := U) (U := U.calling g mk a) (Vm.Alike.refl U.vm) qK, qD⟩, va_recv hK hP (ci := 14) (q0 := 0) rfl rfl, fun U hU hW => ⟨rfl, by rw [hU], by rw [hU]; exact hPc, va_K.moved hW.alike hKc, hDc.weaken (fun _ _ _ _ => trivial)⟩⟩ rfl rfl hl.1 rfl (lv_room (Nat.le_of_ble_eq_true rfl)) dL_law_1194 ⟨Nat.le_of_ble_eq_true rfl, Nat.le_of_ble_eq_true rfl⟩) hS (fun q _ h => hFc q h) hFc (fun r105 u t H1 locs ht hvm hw hB hz1 hk1 hS => ?_)
  obtain ⟨hP1, hK1, hD1⟩ := hB
  rw [ht] at hP1
  try dsimp only at hw
  obtain ⟨hP, hD⟩ := va_join (wr := [(aZ, .inr (15, fsZ))]) (w1 := [(aX, .inr (14, fsX)), (aH, .inr (5, fsHe))]) hP hD [0, 1] [2] rfl rfl (by decide) (by decide) hk1 hFc hP1 hD1
  have hK := hK.sub (tys' := []) [] rfl
  generalize H1 = H at hP hS ⊢
  have hP : va_P (dC, dI) vwCl [(aZ, .inr (15, fsZ)), (aX, .inr (14, fsX)), (aH, .inr (5, fsHe))] H := hP
  have hD : va_D A [(aZ, .inr (15, fsZ)), (aX, .inr (14, fsX)), (aH, .inr (5, fsHe))] := hD
  rcases hw with ⟨c106, er107⟩ | ⟨c108, c109, er110⟩
  · skip
    subst er107
    refine lv_aload_n hx hb dL_law_1197 rfl (lv_at hl 2 rfl) ?_
    refine lv_aload_n hx hb dL_law_1198 rfl (lv_at hl 0 rfl) ?_
    refine lv_iload hx hb dL_law_1199 (lv_at hl 4 rfl) ?_
    refine lv_iconst (v := 1) hx hb dL_law_1201 (by decide) ?_
    refine lv_iadd hx hb dL_law_1202  ?_
    refine lv_topi (fun x111 ex111 => ?_)
    obtain rfl : x111 = 1 := ex111.trans (by decide)
    refine va_sld hx hb hX hbl hbA hS (show vp_in 1 6 from by unfold vp_in; decide) dL_law_1203 ?_
    refine lv_topi (fun x112 ex112 => ?_)
    obtain rfl : w1 = x112 := hw1.trans ex112.symm
    refine lv_aload_n hx hb dL_law_1204 rfl (lv_at hl 0 rfl) ?_
    refine lv_iload hx hb dL_law_1205 (lv_at hl 4 rfl) ?_
    refine lv_iconst (v := 2) hx hb dL_law_1207 (by decide) ?_
    refine lv_iadd hx hb dL_law_1208  ?_
    refine lv_topi (fun x113 ex113 => ?_)
    obtain rfl : x113 = 2 := ex113.trans (by decide)
    refine va_sld hx hb hX hbl hbA hS (show vp_in 2 6 from by unfold vp_in; decide) dL_law_1209 ?_
    refine lv_topi (fun x114 ex114 => ?_)
    obtain rfl : w2 = x114 := hw2.trans ex114.symm
    have hPc := hP.sub (ws' := [(aZ, .inr (15, fsZ))]) [0] rfl
    have hDc := hD.sub (ws' := [(aZ, .inr (15, fsZ))]) [0] (by decide) rfl
    have hKc := hK.sub (tys' := []) [] rfl
    have hFc := va_free (wc := [(aZ, .inr (15, fsZ))]) hD hS hA [0] rfl
    refine va_calli (va_runV (As := [.int w1, .int w2]) (rest := [.int (-1)]) ⟨hx, hb, hml, hown, hts⟩ (z_X12_object l dC dI H.size aZ fsZ w1 w2 (fh_sub o_fsZ.2 [0] rfl) ) (cwV 2 hts g_lk_15_z_X12_object_189 rfl rfl rfl (by decide +kernel) ⟨Nat.le_of_ble_eq_true rfl, Nat.le_of_ble_eq_true rfl⟩) ⟨fun a U g mk q => by obtain ⟨q0, q1, qP, qK, qD⟩ := q; exact ⟨q0, q1, qP, va_K.moved (u := U) (U := U.calling g mk a) (Vm.Alike.refl U.vm) qK, qD⟩, va_recv hK hP (ci := 15) (q0 := 0) rfl rfl, fun U hU hW => ⟨rfl, by rw [hU], by rw [hU]; exact hPc, va_K.moved hW.alike hKc, hDc.weaken (fun _ _ _ _ => trivial)⟩⟩ rfl rfl hl.1 rfl (lv_room (Nat.le_of_ble_eq_true rfl)) dL_law_1210 ⟨Nat.le_of_ble_eq_true rfl, Nat.le_of_ble_eq_true rfl⟩) hS (fun q _ h => hFc q h) hFc (fun r115 u t H1 locs ht hvm hw hB hz1 hk1 hS => ?_)
    obtain ⟨s116, rfl⟩ : ∃ z, z = u := ⟨_, rfl⟩
    obtain ⟨hP1, hK1, hD1⟩ := hB
    rw [ht] at hP1
    try dsimp only at hw
    obtain ⟨hP, hD⟩ := va_join (wr := [(aX, .inr (14, fsX)), (aH, .inr (5, fsHe))]) (w1 := [(aZ, .inr (15, s116))]) hP hD [0] [1, 2] rfl rfl (by decide) (by decide) hk1 hFc hP1 hD1
    have hK := hK.sub (tys' := []) [] rfl
    generalize H1 = H at hP hS ⊢
    have hP : va_P (dC, dI) vwCl [(aX, .inr (14, fsX)), (aH, .inr (5, fsHe)), (aZ, .inr (15, s116))] H := hP
    have hD : va_D A [(aX, .inr (14, fsX)), (aH, .inr (5, fsHe)), (aZ, .inr (15, s116))] := hD
    rcases hw with ⟨c117, er118, o_s116⟩ | ⟨c119, c120, er121, o_s116⟩
    · skip
      subst er118
      have o_s116 := ow_on o_fsZ o_s116 (l' := [(0, .int 0), (26, .int 0), (26, .int 0)]) (w' := [0]) rfl rfl
      refine lv_icmp_eq (tgt := 3111) hx hb dL_law_1213 (by decide) (fun c122 => ?_) (fun c122 => absurd c122 (by decide))
      exact lw_end hst C0 hA hAf hZ hY (Nat.le_of_ble_eq_true rfl) (Nat.le_of_ble_eq_true rfl) dC dI P0k P0 D0 hS ls (lv_sub hl [0, 4] rfl)
    · exact (by exfalso; (try simp only [i_lt, i_le, i_eq, kc_0] at c106 c119 c120); omega)
  · skip
    subst er110
    refine lv_aload_n hx hb dL_law_1197 rfl (lv_at hl 2 rfl) ?_
    refine lv_aload_n hx hb dL_law_1198 rfl (lv_at hl 0 rfl) ?_
    refine lv_iload hx hb dL_law_1199 (lv_at hl 4 rfl) ?_
    refine lv_iconst (v := 1) hx hb dL_law_1201 (by decide) ?_
    refine lv_iadd hx hb dL_law_1202  ?_
    refine lv_topi (fun x123 ex123 => ?_)
    obtain rfl : x123 = 1 := ex123.trans (by decide)
    refine va_sld hx hb hX hbl hbA hS (show vp_in 1 6 from by unfold vp_in; decide) dL_law_1203 ?_
    refine lv_topi (fun x124 ex124 => ?_)
    obtain rfl : w1 = x124 := hw1.trans ex124.symm
    refine lv_aload_n hx hb dL_law_1204 rfl (lv_at hl 0 rfl) ?_
    refine lv_iload hx hb dL_law_1205 (lv_at hl 4 rfl) ?_
    refine lv_iconst (v := 2) hx hb dL_law_1207 (by decide) ?_
    refine lv_iadd hx hb dL_law_1208  ?_
    refine lv_topi (fun x125 ex125 => ?_)
    obtain rfl : x125 = 2 := ex125.trans (by decide)
    refine va_sld hx hb hX hbl hbA hS (show vp_in 2 6 from by unfold vp_in; decide) dL_law_1209 ?_
    refine lv_topi (fun x126 ex126 => ?_)
    obtain rfl : w2 = x126 := hw2.trans ex126.symm
    have hPc := hP.sub (ws' := [(aZ, .inr (15, fsZ))]) [0] rfl
    have hDc := hD.sub (ws' := [(aZ, .inr (15, fsZ))]) [0] (by decide) rfl
    have hKc := hK.sub (tys' := []) [] rfl
    have hFc := va_free (wc := [(aZ, .inr (15, fsZ))]) hD hS hA [0] rfl
    refine va_calli (va_runV (As := [.int w1, .int w2]) (rest := [.int (-1)]) ⟨hx, hb, hml, hown, hts⟩ (z_X12_object l dC dI H.size aZ fsZ w1 w2 (fh_sub o_fsZ.2 [0] rfl) ) (cwV 2 hts g_lk_15_z_X12_object_189 rfl rfl rfl (by decide +kernel) ⟨Nat.le_of_ble_eq_true rfl, Nat.le_of_ble_eq_true rfl⟩) ⟨fun a U g mk q => by obtain ⟨q0, q1, qP, qK, qD⟩ := q; exact ⟨q0, q1, qP, va_K.moved (u := U) (U := U.calling g mk a) (Vm.Alike.refl U.vm) qK, qD⟩, va_recv hK hP (ci := 15) (q0 := 0) rfl rfl, fun U hU hW => ⟨rfl, by rw [hU], by rw [hU]; exact hPc, va_K.moved hW.alike hKc, hDc.weaken (fun _ _ _ _ => trivial)⟩⟩ rfl rfl hl.1 rfl (lv_room (Nat.le_of_ble_eq_true rfl)) dL_law_1210 ⟨Nat.le_of_ble_eq_true rfl, Nat.le_of_ble_eq_true rfl⟩) hS (fun q _ h => hFc q h) hFc (fun r127 u t H1 locs ht hvm hw hB hz1 hk1 hS => ?_)
    obtain ⟨s128, rfl⟩ : ∃ z, z = u := ⟨_, rfl⟩
    obtain ⟨hP1, hK1, hD1⟩ := hB
    rw [ht] at hP1
    try dsimp only at hw
    obtain ⟨hP, hD⟩ := va_join (wr := [(aX, .inr (14, fsX)), (aH, .inr (5, fsHe))]) (w1 := [(aZ, .inr (15, s128))]) hP hD [0] [1, 2] rfl rfl (by decide) (by decide) hk1 hFc hP1 hD1
    have hK := hK.sub (tys' := []) [] rfl
    generalize H1 = H at hP hS ⊢
    have hP : va_P (dC, dI) vwCl [(aX, .inr (14, fsX)), (aH, .inr (5, fsHe)), (aZ, .inr (15, s128))] H := hP
    have hD : va_D A [(aX, .inr (14, fsX)), (aH, .inr (5, fsHe)), (aZ, .inr (15, s128))] := hD
    rcases hw with ⟨c129, er130, o_s128⟩ | ⟨c131, c132, er133, o_s128⟩
    · exact (by exfalso; (try simp only [i_lt, i_le, i_eq, kc_0] at c108 c109 c129); omega)
    · skip
      subst er133
      have o_s128 := ow_on o_fsZ o_s128 (l' := [(0, .int 0), (26, .int 0), (26, .int 0)]) (w' := [0]) rfl rfl
      refine lv_icmp_eq (tgt := 3111) hx hb dL_law_1213 (by decide) (fun c134 => ?_) (fun c134 => absurd c134 (by decide))
      exact lw_end hst C0 hA hAf hZ hY (Nat.le_of_ble_eq_true rfl) (Nat.le_of_ble_eq_true rfl) dC dI P0k P0 D0 hS ls (lv_sub hl [0, 4] rfl)

set_option maxRecDepth 20000 in
theorem g_lk_16_z_X11_collect_190 : GoodIn lwW (wsV RL 190 RX11 yX11_collect w_z_X11_collect) := goodIn_app (goodIn_sub (ws := ([.methodLink RL 190 yX11_collect, .instanceMethod yX11_collect, .selects RX11 yX11_collect yX11_collect, .initialized RX11] : List Cond)) (gm_c (gm_at lwV_26_in 6 rfl) (gm_c (gm_at lwV_26_in 7 rfl) (gm_c (gm_at lwV_26_in 8 rfl) (gm_c (gm_at lwV_0_in 3 rfl) gm_nil)))) (by decide +kernel)) (goodIn_ca (goodIn_sub (ws := .code yX11_collect cX11_collect 1 (some .int) :: l_z_X11_collect) (gm_c (gm_at lwV_27_in 0 rfl) (gm_c (gm_at lwV_27_in 1 rfl) (gm_c (gm_at lwV_27_in 2 rfl) (gm_c (gm_at lwV_27_in 3 rfl) (gm_c (gm_at lwV_27_in 4 rfl) (gm_c (gm_at lwV_27_in 5 rfl) (gm_c (gm_at lwV_13_in 9 rfl) (gm_c (gm_at lwV_27_in 6 rfl) (gm_c (gm_at lwV_27_in 7 rfl) (gm_c (gm_at lwV_27_in 8 rfl) (gm_c (gm_at lwV_14_in 4 rfl) (gm_c (gm_at lwV_27_in 9 rfl) (gm_c (gm_at lwV_27_in 10 rfl) (gm_c (gm_at lwV_27_in 11 rfl) (gm_c (gm_at lwV_28_in 0 rfl) (gm_c (gm_at lwV_28_in 1 rfl) (gm_c (gm_at lwV_28_in 2 rfl) (gm_c (gm_at lwV_28_in 3 rfl) (gm_c (gm_at lwV_28_in 4 rfl) (gm_c (gm_at lwV_28_in 5 rfl) (gm_c (gm_at lwV_15_in 4 rfl) (gm_c (gm_at lwV_15_in 1 rfl) (gm_c (gm_at lwV_15_in 2 rfl) (gm_c (gm_at lwV_28_in 6 rfl) (gm_c (gm_at lwV_28_in 7 rfl) (gm_c (gm_at lwV_28_in 8 rfl) (gm_c (gm_at lwV_28_in 9 rfl) (gm_c (gm_at lwV_3_in 2 rfl) (gm_c (gm_at lwV_28_in 10 rfl) (gm_c (gm_at lwV_28_in 11 rfl) (gm_c (gm_at lwV_29_in 0 rfl) (gm_c (gm_at lwV_29_in 1 rfl) (gm_c (gm_at lwV_29_in 2 rfl) (gm_c (gm_at lwV_29_in 3 rfl) (gm_c (gm_at lwV_15_in 8 rfl) (gm_c (gm_at lwV_29_in 4 rfl) (gm_c (gm_at lwV_29_in 5 rfl) (gm_c (gm_at lwV_29_in 6 rfl) (gm_c (gm_at lwV_7_in 11 rfl) (gm_c (gm_at lwV_29_in 7 rfl) (gm_c (gm_at lwV_8_in 10 rfl) gm_nil))))))))))))))))))))))))))))))))))))))))) (by decide +kernel)) (goodIn_app (goodIn_in il_X11 gd_X11) (goodIn_app (goodIn_in il_X3 gd_X3) (goodIn_app (goodIn_in il_X2 gd_X2) (goodIn_in il_X10 gd_X10)))))
set_option maxRecDepth 20000 in
theorem g_lk_16_z_X12_collect_193 : GoodIn lwW (wsV RL 193 RX12 yX12_collect w_z_X12_collect) := goodIn_app (goodIn_sub (ws := ([.methodLink RL 193 yX12_collect, .instanceMethod yX12_collect, .selects RX12 yX12_collect yX12_collect, .initialized RX12] : List Cond)) (gm_c (gm_at lwV_26_in 9 rfl) (gm_c (gm_at lwV_26_in 10 rfl) (gm_c (gm_at lwV_26_in 11 rfl) (gm_c (gm_at lwV_0_in 7 rfl) gm_nil)))) (by decide +kernel)) (goodIn_ca (goodIn_sub (ws := .code yX12_collect cX12_collect 3 (some .int) :: l_z_X12_collect) (gm_c (gm_at lwV_29_in 8 rfl) (gm_c (gm_at lwV_1_in 5 rfl) (gm_c (gm_at lwV_29_in 9 rfl) (gm_c (gm_at lwV_29_in 10 rfl) (gm_c (gm_at lwV_29_in 11 rfl) (gm_c (gm_at lwV_0_in 7 rfl) (gm_c (gm_at lwV_17_in 4 rfl) (gm_c (gm_at lwV_30_in 0 rfl) (gm_c (gm_at lwV_30_in 1 rfl) (gm_c (gm_at lwV_30_in 2 rfl) (gm_c (gm_at lwV_30_in 3 rfl) (gm_c (gm_at lwV_30_in 4 rfl) (gm_c (gm_at lwV_30_in 5 rfl) (gm_c (gm_at lwV_9_in 8 rfl) (gm_c (gm_at lwV_30_in 6 rfl) (gm_c (gm_at lwV_30_in 7 rfl) (gm_c (gm_at lwV_30_in 8 rfl) gm_nil))))))))))))))))) (by decide +kernel)) (goodIn_in il_X12 gd_X12))
set_option maxHeartbeats 4000000 in
set_option maxRecDepth 100000 in
/-- the law, one call: collect -/
theorem lk_16 {p : Program} {l : Launch} {e : Env} {s : State} {m : MethodId} {below : List Frame} {meth : Method} {c : Code} {b : Nat} {xs : Nat → Int32} (hst : l.stackTraces = false) (C0 : lw_At p s m meth c b 6 xs) {A : Nat → Prop} (hA : ∀ q : Nat, s.heap.size ≤ q → A q) (hAf : ∀ q : Nat, A q → s.heap.size ≤ q) (hZ : Zz A s) (hY : Yy s) (dC : Nat → ClassId) (dI : Nat → Nat → Nat) (aX : Nat) (fsX : List Value) (aY : Nat) (fsY : List Value) (aH : Nat) (fsHe : List Value) (q6 : Nat) (f6 : Nat → Int32) (k6 : ClassId) (aJ : Nat) (fsJ : List Value) (aZ : Nat) (fsZ : List Value) (q_placeIn : Nat) (f_placeIn : Nat → Int32) (k_placeIn : ClassId) (qO : Nat) (w1 : Int32) (hw1 : w1 = xs (1 : Int32).toNatClampNeg) (w2 : Int32) (hw2 : w2 = xs (2 : Int32).toNatClampNeg) (w3 : Int32) (hw3 : w3 = xs (3 : Int32).toNatClampNeg) (w4 : Int32) (hw4 : w4 = xs (4 : Int32).toNatClampNeg) (w5 : Int32) (hw5 : w5 = xs (5 : Int32).toNatClampNeg) (k_fsX : fh fsX 18 [(2, .ref aH), (3, .ref aJ)]) (k_fsY : fh fsY 18 [(0, .int 0)]) (k_fsHe : fh fsHe 14 [(0, .ref aY), (1, .int 0), (2, .int 0), (11, .int 0), (13, .ref q6)]) (k_fsJ : fh fsJ 13 []) (k_fsZ : fh fsZ 150 [(20, .int 0), (26, .int 0), (31, .int 0), (46, .ref q_placeIn), (47, .int 0)])  {H : Heap} {locs : List Loc} (hK : va_K (dC, dI) vwCl [(k6, .int), (k_placeIn, .int)] s) (hP : va_P (dC, dI) vwCl [(aX, .inr (14, fsX)), (aY, .inr (13, fsY)), (aH, .inr (5, fsHe)), (q6, .inl (k6, 400, .inl f6)), (aJ, .inr (6, fsJ)), (aZ, .inr (15, fsZ)), (q_placeIn, .inl (k_placeIn, 400, .inl f_placeIn))] H) (hD : va_D A [(aX, .inr (14, fsX)), (aY, .inr (13, fsY)), (aH, .inr (5, fsHe)), (q6, .inl (k6, 400, .inl f6)), (aJ, .inr (6, fsJ)), (aZ, .inr (15, fsZ)), (q_placeIn, .inl (k_placeIn, 400, .inl f_placeIn))]) (hS : va_S A s.heap H locs) (ls : Array Slot) (hl : lv_has ls 8 [(0, .ref b), (1, .ref aX), (2, .ref aZ), (3, .ref qO), (4, .int 0)]) : W p l e room_1 s m #[Value.ref b] below meth c H locs 390 571359 (lw_Z below #[Value.ref b] s) (F0 m 1218 ls []) := by
  obtain ⟨hx, hb, hr, hml, hown0, hts0, hX, hbl, hlocks, hgv⟩ := id C0
  have hown : s.vm.findClass RL = some m.cls := hown0
  have hts : ∀ w ∈ lwW, w.before #[Value.ref b] s = true := fun w h => hts0 w (lwW_in w h)
  have hbA : ¬ A b := fun h => absurd (hAf b h) (Nat.not_le.mpr hbl)
  have o_fsX := ow_0 k_fsX
  have o_fsY := ow_0 k_fsY
  have o_fsHe := ow_0 k_fsHe
  have o_fsJ := ow_0 k_fsJ
  have o_fsZ := ow_0 k_fsZ
  refine lv_aload_n hx hb dL_law_1218 rfl (lv_at hl 1 rfl) ?_
  have hPc := hP.sub (ws' := [(aX, .inr (14, fsX)), (aY, .inr (13, fsY)), (aH, .inr (5, fsHe)), (q6, .inl (k6, 400, .inl f6)), (aJ, .inr (6, fsJ))]) [0, 1, 2, 3, 4] rfl
  have hDc := hD.sub (ws' := [(aX, .inr (14, fsX)), (aY, .inr (13, fsY)), (aH, .inr (5, fsHe)), (q6, .inl (k6, 400, .inl f6)), (aJ, .inr (6, fsJ))]) [0, 1, 2, 3, 4] (by decide) rfl
  have hKc := hK.sub (tys' := [(k6, .int)]) [0] rfl
  have hFc := va_free (wc := [(aX, .inr (14, fsX)), (aY, .inr (13, fsY)), (aH, .inr (5, fsHe)), (q6, .inl (k6, 400, .inl f6)), (aJ, .inr (6, fsJ))]) hD hS hA [0, 1, 2, 3, 4] rfl
  refine va_calli (va_runV (As := []) (rest := []) ⟨hx, hb, hml, hown, hts⟩ (z_X11_collect l dC dI H.size aX fsX aY fsY aH fsHe q6 f6 k6 aJ fsJ (fh_sub o_fsX.2 [0, 1] rfl) (fh_sub o_fsY.2 [0] rfl) (fh_sub o_fsHe.2 [0, 1, 2, 3, 4] rfl) (fh_sub o_fsJ.2 [] rfl) ) (cwV 0 hts g_lk_16_z_X11_collect_190 rfl rfl rfl (by decide +kernel) ⟨Nat.le_of_ble_eq_true rfl, Nat.le_of_ble_eq_true rfl⟩) ⟨fun a U g mk q => by obtain ⟨q0, q1, qP, qK, qD⟩ := q; exact ⟨q0, q1, qP, va_K.moved (u := U) (U := U.calling g mk a) (Vm.Alike.refl U.vm) qK, qD⟩, va_recv hK hP (ci := 14) (q0 := 0) rfl rfl, fun U hU hW => ⟨rfl, by rw [hU], by rw [hU]; exact hPc, va_K.moved hW.alike hKc, hDc.weaken (fun _ _ _ _ => trivial)⟩⟩ rfl rfl hl.1 rfl (lv_room (Nat.le_of_ble_eq_true rfl)) dL_law_1219 ⟨Nat.le_of_ble_eq_true rfl, Nat.le_of_ble_eq_true rfl⟩) hS (fun q _ h => hFc q h) hFc (fun r101 u t H1 locs ht hvm hw hB hz1 hk1 hS => ?_)
  obtain ⟨s102, s103⟩ := u
  obtain ⟨hP1, hK1, hD1⟩ := hB
  rw [ht] at hP1
  try dsimp only at hw
  obtain ⟨hP, hD⟩ := va_join (wr := [(aZ, .inr (15, fsZ)), (q_placeIn, .inl (k_placeIn, 400, .inl f_placeIn))]) (w1 := [(aX, .inr (14, fsX)), (aY, .inr (13, fsY)), (aH, .inr (5, s102)), (q6, .inl (k6, 400, .inl f6)), (aJ, .inr (6, s103))]) hP hD [0, 1, 2, 3, 4] [5, 6] rfl rfl (by decide) (by decide) hk1 hFc hP1 hD1
  have hK := hK.sub (tys' := [(k_placeIn, .int), (k6, .int)]) [1, 0] rfl
  generalize H1 = H at hP hS ⊢
  have hP : va_P (dC, dI) vwCl [(aZ, .inr (15, fsZ)), (q_placeIn, .inl (k_placeIn, 400, .inl f_placeIn)), (aX, .inr (14, fsX)), (aY, .inr (13, fsY)), (aH, .inr (5, s102)), (q6, .inl (k6, 400, .inl f6)), (aJ, .inr (6, s103))] H := hP
  have hD : va_D A [(aZ, .inr (15, fsZ)), (q_placeIn, .inl (k_placeIn, 400, .inl f_placeIn)), (aX, .inr (14, fsX)), (aY, .inr (13, fsY)), (aH, .inr (5, s102)), (q6, .inl (k6, 400, .inl f6)), (aJ, .inr (6, s103))] := hD
  obtain ⟨er104, o_s102, o_s103⟩ := hw
  subst er104
  have o_s102 := ow_on o_fsHe o_s102 (l' := [(2, .int 0), (3, .int 0), (0, .ref aY), (1, .int 0), (11, .int 0), (13, .ref q6), (0, .ref aY), (1, .int 0), (11, .int 0), (13, .ref q6), (0, .ref aY), (1, .int 0), (11, .int 0), (13, .ref q6)]) (w' := [2, 3]) rfl rfl
  have o_s103 := ow_on o_fsJ o_s103 (l' := [(6, .int 0)]) (w' := [6]) rfl rfl
  refine lv_aload_n hx hb dL_law_1222 rfl (lv_at hl 2 rfl) ?_
  have hPc := hP.sub (ws' := [(aZ, .inr (15, fsZ)), (q_placeIn, .inl (k_placeIn, 400, .inl f_placeIn))]) [0, 1] rfl
  have hDc := hD.sub (ws' := [(aZ, .inr (15, fsZ)), (q_placeIn, .inl (k_placeIn, 400, .inl f_placeIn))]) [0, 1] (by decide) rfl
  have hKc := hK.sub (tys' := [(k_placeIn, .int)]) [0] rfl
  have hFc := va_free (wc := [(aZ, .inr (15, fsZ)), (q_placeIn, .inl (k_placeIn, 400, .inl f_placeIn))]) hD hS hA [0, 1] rfl
  refine va_calli (va_runV (As := []) (rest := [.int 0]) ⟨hx, hb, hml, hown, hts⟩ (z_X12_collect l dC dI H.size aZ fsZ q_placeIn f_placeIn k_placeIn (fh_sub o_fsZ.2 [0, 1, 2, 3, 4] rfl) ) (cwV 0 hts g_lk_16_z_X12_collect_193 rfl rfl rfl (by decide +kernel) ⟨Nat.le_of_ble_eq_true rfl, Nat.le_of_ble_eq_true rfl⟩) ⟨fun a U g mk q => by obtain ⟨q0, q1, qP, qK, qD⟩ := q; exact ⟨q0, q1, qP, va_K.moved (u := U) (U := U.calling g mk a) (Vm.Alike.refl U.vm) qK, qD⟩, va_recv hK hP (ci := 15) (q0 := 0) rfl rfl, fun U hU hW => ⟨rfl, by rw [hU], by rw [hU]; exact hPc, va_K.moved hW.alike hKc, hDc.weaken (fun _ _ _ _ => trivial)⟩⟩ rfl rfl hl.1 rfl (lv_room (Nat.le_of_ble_eq_true rfl)) dL_law_1223 ⟨Nat.le_of_ble_eq_true rfl, Nat.le_of_ble_eq_true rfl⟩) hS (fun q _ h => hFc q h) hFc (fun r105 u t H1 locs ht hvm hw hB hz1 hk1 hS => ?_)
  obtain ⟨s106, f107⟩ := u
  obtain ⟨hP1, hK1, hD1⟩ := hB
  rw [ht] at hP1
  try dsimp only at hw
  obtain ⟨hP, hD⟩ := va_join (wr := [(aX, .inr (14, fsX)), (aY, .inr (13, fsY)), (aH, .inr (5, s102)), (q6, .inl (k6, 400, .inl f6)), (aJ, .inr (6, s103))]) (w1 := [(aZ, .inr (15, s106)), (q_placeIn, .inl (k_placeIn, 400, .inl f107))]) hP hD [0, 1] [2, 3, 4, 5, 6] rfl rfl (by decide) (by decide) hk1 hFc hP1 hD1
  have hK := hK.sub (tys' := [(k6, .int), (k_placeIn, .int)]) [1, 0] rfl
  generalize H1 = H at hP hS ⊢
  have hP : va_P (dC, dI) vwCl [(aX, .inr (14, fsX)), (aY, .inr (13, fsY)), (aH, .inr (5, s102)), (q6, .inl (k6, 400, .inl f6)), (aJ, .inr (6, s103)), (aZ, .inr (15, s106)), (q_placeIn, .inl (k_placeIn, 400, .inl f107))] H := hP
  have hD : va_D A [(aX, .inr (14, fsX)), (aY, .inr (13, fsY)), (aH, .inr (5, s102)), (q6, .inl (k6, 400, .inl f6)), (aJ, .inr (6, s103)), (aZ, .inr (15, s106)), (q_placeIn, .inl (k_placeIn, 400, .inl f107))] := hD
  obtain ⟨er108, o_s106⟩ := hw
  subst er108
  have o_s106 := ow_on o_fsZ o_s106 (l' := [(36, .int 0), (47, .int 0), (46, .ref q_placeIn), (20, .int 0), (31, .int 0), (46, .ref q_placeIn), (0, .int 0), (20, .int 0), (26, .int 0), (31, .int 0), (46, .ref q_placeIn), (20, .int 0), (26, .int 0), (31, .int 0), (46, .ref q_placeIn)]) (w' := [36, 47, 0]) rfl rfl
  refine lv_icmp_eq (tgt := 3111) hx hb dL_law_1226 (by decide) (fun c109 => ?_) (fun c109 => absurd c109 (by decide))
  exact lw_end hst C0 hA hAf hZ hY (Nat.le_of_ble_eq_true rfl) (Nat.le_of_ble_eq_true rfl) dC dI P0k P0 D0 hS ls (lv_sub hl [0, 4] rfl)

set_option maxRecDepth 20000 in
theorem g_lk_17_z_X11_undo_194 : GoodIn lwW (wsV RL 194 RX11 yX11_undo w_z_X11_undo) := goodIn_app (goodIn_sub (ws := ([.methodLink RL 194 yX11_undo, .instanceMethod yX11_undo, .selects RX11 yX11_undo yX11_undo, .initialized RX11] : List Cond)) (gm_c (gm_at lwV_30_in 9 rfl) (gm_c (gm_at lwV_30_in 10 rfl) (gm_c (gm_at lwV_30_in 11 rfl) (gm_c (gm_at lwV_0_in 3 rfl) gm_nil)))) (by decide +kernel)) (goodIn_ca (goodIn_sub (ws := .code yX11_undo cX11_undo 1 (some .int) :: l_z_X11_undo) (gm_c (gm_at lwV_31_in 3 rfl) (gm_c (gm_at lwV_27_in 1 rfl) (gm_c (gm_at lwV_13_in 9 rfl) (gm_c (gm_at lwV_31_in 4 rfl) (gm_c (gm_at lwV_31_in 5 rfl) (gm_c (gm_at lwV_31_in 6 rfl) (gm_c (gm_at lwV_27_in 5 rfl) (gm_c (gm_at lwV_31_in 7 rfl) (gm_c (gm_at lwV_27_in 10 rfl) gm_nil))))))))) (by decide +kernel)) (goodIn_app (goodIn_in il_X11 gd_X11) (goodIn_in il_X3 gd_X3)))
set_option maxRecDepth 20000 in
theorem g_lk_17_z_X12_undo_197 : GoodIn lwW (wsV RL 197 RX12 yX12_undo w_z_X12_undo) := goodIn_app (goodIn_sub (ws := ([.methodLink RL 197 yX12_undo, .instanceMethod yX12_undo, .selects RX12 yX12_undo yX12_undo, .initialized RX12] : List Cond)) (gm_c (gm_at lwV_31_in 0 rfl) (gm_c (gm_at lwV_31_in 1 rfl) (gm_c (gm_at lwV_31_in 2 rfl) (gm_c (gm_at lwV_0_in 7 rfl) gm_nil)))) (by decide +kernel)) (goodIn_ca (goodIn_sub (ws := .code yX12_undo cX12_undo 2 (some .int) :: l_z_X12_undo) (gm_c (gm_at lwV_31_in 8 rfl) (gm_c (gm_at lwV_1_in 5 rfl) (gm_c (gm_at lwV_30_in 0 rfl) gm_nil))) (by decide +kernel)) (goodIn_in il_X12 gd_X12))
set_option maxHeartbeats 4000000 in
set_option maxRecDepth 100000 in
/-- the law, one call: undo -/
theorem lk_17 {p : Program} {l : Launch} {e : Env} {s : State} {m : MethodId} {below : List Frame} {meth : Method} {c : Code} {b : Nat} {xs : Nat → Int32} (hst : l.stackTraces = false) (C0 : lw_At p s m meth c b 6 xs) {A : Nat → Prop} (hA : ∀ q : Nat, s.heap.size ≤ q → A q) (hAf : ∀ q : Nat, A q → s.heap.size ≤ q) (hZ : Zz A s) (hY : Yy s) (dC : Nat → ClassId) (dI : Nat → Nat → Nat) (aX : Nat) (fsX : List Value) (aJ : Nat) (fsJ : List Value) (aZ : Nat) (fsZ : List Value) (qO : Nat) (aH : Nat) (w1 : Int32) (hw1 : w1 = xs (1 : Int32).toNatClampNeg) (w2 : Int32) (hw2 : w2 = xs (2 : Int32).toNatClampNeg) (w3 : Int32) (hw3 : w3 = xs (3 : Int32).toNatClampNeg) (w4 : Int32) (hw4 : w4 = xs (4 : Int32).toNatClampNeg) (w5 : Int32) (hw5 : w5 = xs (5 : Int32).toNatClampNeg) (k_fsX : fh fsX 18 [(2, .ref aH), (3, .ref aJ)]) (k_fsJ : fh fsJ 13 [(6, .int 0)]) (k_fsZ : fh fsZ 150 [(36, .int 0)])  {H : Heap} {locs : List Loc} (hK : va_K (dC, dI) vwCl [] s) (hP : va_P (dC, dI) vwCl [(aX, .inr (14, fsX)), (aJ, .inr (6, fsJ)), (aZ, .inr (15, fsZ))] H) (hD : va_D A [(aX, .inr (14, fsX)), (aJ, .inr (6, fsJ)), (aZ, .inr (15, fsZ))]) (hS : va_S A s.heap H locs) (ls : Array Slot) (hl : lv_has ls 8 [(0, .ref b), (1, .ref aX), (2, .ref aZ), (3, .ref qO), (4, .int 0)]) : W p l e room_1 s m #[Value.ref b] below meth c H locs 390 571359 (lw_Z below #[Value.ref b] s) (F0 m 1231 ls []) := by
  obtain ⟨hx, hb, hr, hml, hown0, hts0, hX, hbl, hlocks, hgv⟩ := id C0
  have hown : s.vm.findClass RL = some m.cls := hown0
  have hts : ∀ w ∈ lwW, w.before #[Value.ref b] s = true := fun w h => hts0 w (lwW_in w h)
  have hbA : ¬ A b := fun h => absurd (hAf b h) (Nat.not_le.mpr hbl)
  have o_fsX := ow_0 k_fsX
  have o_fsJ := ow_0 k_fsJ
  have o_fsZ := ow_0 k_fsZ
  refine lv_aload_n hx hb dL_law_1231 rfl (lv_at hl 1 rfl) ?_
  have hPc := hP.sub (ws' := [(aX, .inr (14, fsX)), (aJ, .inr (6, fsJ))]) [0, 1] rfl
  have hDc := hD.sub (ws' := [(aX, .inr (14, fsX)), (aJ, .inr (6, fsJ))]) [0, 1] (by decide) rfl
  have hKc := hK.sub (tys' := []) [] rfl
  have hFc := va_free (wc := [(aX, .inr (14, fsX)), (aJ, .inr (6, fsJ))]) hD hS hA [0, 1] rfl
  refine va_calli (va_runV (As := []) (rest := []) ⟨hx, hb, hml, hown, hts⟩ (z_X11_undo l dC dI H.size aX fsX aJ fsJ aH (fh_sub o_fsX.2 [0, 1] rfl) (fh_sub o_fsJ.2 [0] rfl) ) (cwV 0 hts g_lk_17_z_X11_undo_194 rfl rfl rfl (by decide +kernel) ⟨Nat.le_of_ble_eq_true rfl, Nat.le_of_ble_eq_true rfl⟩) ⟨fun a U g mk q => by obtain ⟨q0, q1, qP, qK, qD⟩ := q; exact ⟨q0, q1, qP, va_K.moved (u := U) (U := U.calling g mk a) (Vm.Alike.refl U.vm) qK, qD⟩, va_recv hK hP (ci := 14) (q0 := 0) rfl rfl, fun U hU hW => ⟨rfl, by rw [hU], by rw [hU]; exact hPc, va_K.moved hW.alike hKc, hDc.weaken (fun _ _ _ _ => trivial)⟩⟩ rfl rfl hl.1 rfl (lv_room (Nat.le_of_ble_eq_true rfl)) dL_law_1232 ⟨Nat.le_of_ble_eq_true rfl, Nat.le_of_ble_eq_true rfl⟩) hS (fun q _ h => hFc q h) hFc (fun r101 u t H1 locs ht hvm hw hB hz1 hk1 hS => ?_)
  obtain ⟨hP1, hK1, hD1⟩ := hB
  rw [ht] at hP1
  try dsimp only at hw
  obtain ⟨hP, hD⟩ := va_join (wr := [(aZ, .inr (15, fsZ))]) (w1 := [(aX, .inr (14, fsX)), (aJ, .inr (6, fsJ))]) hP hD [0, 1] [2] rfl rfl (by decide) (by decide) hk1 hFc hP1 hD1
  have hK := hK.sub (tys' := []) [] rfl
  generalize H1 = H at hP hS ⊢
  have hP : va_P (dC, dI) vwCl [(aZ, .inr (15, fsZ)), (aX, .inr (14, fsX)), (aJ, .inr (6, fsJ))] H := hP
  have hD : va_D A [(aZ, .inr (15, fsZ)), (aX, .inr (14, fsX)), (aJ, .inr (6, fsJ))] := hD
  have er102 := hw
  subst er102
  refine lv_aload_n hx hb dL_law_1235 rfl (lv_at hl 2 rfl) ?_
  have hPc := hP.sub (ws' := [(aZ, .inr (15, fsZ))]) [0] rfl
  have hDc := hD.sub (ws' := [(aZ, .inr (15, fsZ))]) [0] (by decide) rfl
  have hKc := hK.sub (tys' := []) [] rfl
  have hFc := va_free (wc := [(aZ, .inr (15, fsZ))]) hD hS hA [0] rfl
  refine va_calli (va_runV (As := []) (rest := [.int (-1)]) ⟨hx, hb, hml, hown, hts⟩ (z_X12_undo l dC dI H.size aZ fsZ (fh_sub o_fsZ.2 [0] rfl) ) (cwV 0 hts g_lk_17_z_X12_undo_197 rfl rfl rfl (by decide +kernel) ⟨Nat.le_of_ble_eq_true rfl, Nat.le_of_ble_eq_true rfl⟩) ⟨fun a U g mk q => by obtain ⟨q0, q1, qP, qK, qD⟩ := q; exact ⟨q0, q1, qP, va_K.moved (u := U) (U := U.calling g mk a) (Vm.Alike.refl U.vm) qK, qD⟩, va_recv hK hP (ci := 15) (q0 := 0) rfl rfl, fun U hU hW => ⟨rfl, by rw [hU], by rw [hU]; exact hPc, va_K.moved hW.alike hKc, hDc.weaken (fun _ _ _ _ => trivial)⟩⟩ rfl rfl hl.1 rfl (lv_room (Nat.le_of_ble_eq_true rfl)) dL_law_1236 ⟨Nat.le_of_ble_eq_true rfl, Nat.le_of_ble_eq_true rfl⟩) hS (fun q _ h => hFc q h) hFc (fun r103 u t H1 locs ht hvm hw hB hz1 hk1 hS => ?_)
  obtain ⟨s104, rfl⟩ : ∃ z, z = u := ⟨_, rfl⟩
  obtain ⟨hP1, hK1, hD1⟩ := hB
  rw [ht] at hP1
  try dsimp only at hw
  obtain ⟨hP, hD⟩ := va_join (wr := [(aX, .inr (14, fsX)), (aJ, .inr (6, fsJ))]) (w1 := [(aZ, .inr (15, s104))]) hP hD [0] [1, 2] rfl rfl (by decide) (by decide) hk1 hFc hP1 hD1
  have hK := hK.sub (tys' := []) [] rfl
  generalize H1 = H at hP hS ⊢
  have hP : va_P (dC, dI) vwCl [(aX, .inr (14, fsX)), (aJ, .inr (6, fsJ)), (aZ, .inr (15, s104))] H := hP
  have hD : va_D A [(aX, .inr (14, fsX)), (aJ, .inr (6, fsJ)), (aZ, .inr (15, s104))] := hD
  obtain ⟨er105, o_s104⟩ := hw
  subst er105
  have o_s104 := ow_on o_fsZ o_s104 (l' := [(0, .int 0), (36, .int 0), (36, .int 0)]) (w' := [0]) rfl rfl
  refine lv_icmp_eq (tgt := 3111) hx hb dL_law_1239 (by decide) (fun c106 => ?_) (fun c106 => absurd c106 (by decide))
  exact lw_end hst C0 hA hAf hZ hY (Nat.le_of_ble_eq_true rfl) (Nat.le_of_ble_eq_true rfl) dC dI P0k P0 D0 hS ls (lv_sub hl [0, 4] rfl)

set_option maxRecDepth 20000 in
theorem g_lk_18_z_L_swap_198 : GoodIn lwW (va_wsS RL 198 yL_swap w_z_L_swap) := goodIn_app (goodIn_sub (ws := ([.methodLink RL 198 yL_swap, .static yL_swap, .initialized RL] : List Cond)) (gm_c (gm_at lwV_31_in 9 rfl) (gm_c (gm_at lwV_31_in 10 rfl) (gm_c (gm_at lwV_5_in 10 rfl) gm_nil))) (by decide +kernel)) (goodIn_ca (goodIn_sub (ws := .codeWith yL_swap cL_swap 5 (some .int) [(0, 10, 13, 30), (0, 10, 17, 15)] :: l_z_L_swap) (gm_c (gm_at lwV_32_in 2 rfl) (gm_c (gm_at lwV_32_in 3 rfl) (gm_c (gm_at lwV_32_in 4 rfl) (gm_c (gm_at lwV_32_in 5 rfl) (gm_c (gm_at lwV_0_in 3 rfl) (gm_c (gm_at lwV_19_in 11 rfl) (gm_c (gm_at lwV_32_in 6 rfl) (gm_c (gm_at lwV_13_in 9 rfl) (gm_c (gm_at lwV_20_in 1 rfl) (gm_c (gm_at lwV_20_in 2 rfl) (gm_c (gm_at lwV_20_in 3 rfl) (gm_c (gm_at lwV_14_in 4 rfl) (gm_c (gm_at lwV_20_in 4 rfl) (gm_c (gm_at lwV_20_in 5 rfl) (gm_c (gm_at lwV_20_in 6 rfl) (gm_c (gm_at lwV_15_in 1 rfl) gm_nil)))))))))))))))) (by decide +kernel)) (goodIn_app (goodIn_in il_X11 gd_X11) (goodIn_app (goodIn_in il_at0_X11_223 gd_at0_X11_223) (goodIn_in il_X2 gd_X2))))
set_option maxRecDepth 20000 in
theorem g_lk_18_z_X12_swap_200 : GoodIn lwW (wsV RL 200 RX12 yX12_swap w_z_X12_swap) := goodIn_app (goodIn_sub (ws := ([.methodLink RL 200 yX12_swap, .instanceMethod yX12_swap, .selects RX12 yX12_swap yX12_swap, .initialized RX12] : List Cond)) (gm_c (gm_at lwV_31_in 11 rfl) (gm_c (gm_at lwV_32_in 0 rfl) (gm_c (gm_at lwV_32_in 1 rfl) (gm_c (gm_at lwV_0_in 7 rfl) gm_nil)))) (by decide +kernel)) (goodIn_ca (goodIn_sub (ws := .code yX12_swap cX12_swap 9 (some .int) :: l_z_X12_swap) (gm_c (gm_at lwV_32_in 7 rfl) (gm_c (gm_at lwV_20_in 8 rfl) (gm_c (gm_at lwV_20_in 9 rfl) (gm_c (gm_at lwV_20_in 10 rfl) (gm_c (gm_at lwV_0_in 7 rfl) (gm_c (gm_at lwV_1_in 5 rfl) (gm_c (gm_at lwV_20_in 11 rfl) (gm_c (gm_at lwV_17_in 4 rfl) gm_nil)))))))) (by decide +kernel)) (goodIn_in il_X12 gd_X12))
set_option maxRecDepth 20000 in
theorem g_lk_18_z_X12_thrown_149 : GoodIn lwW (wsV RL 149 RX12 yX12_thrown w_z_X12_thrown) := goodIn_app (goodIn_sub (ws := ([.methodLink RL 149 yX12_thrown, .instanceMethod yX12_thrown, .selects RX12 yX12_thrown yX12_thrown, .initialized RX12] : List Cond)) (gm_c (gm_at lwV_6_in 2 rfl) (gm_c (gm_at lwV_6_in 3 rfl) (gm_c (gm_at lwV_6_in 4 rfl) (gm_c (gm_at lwV_0_in 7 rfl) gm_nil)))) (by decide +kernel)) (goodIn_ca (goodIn_sub (ws := .code yX12_thrown cX12_thrown 1 (some .int) :: l_z_X12_thrown) (gm_c (gm_at lwV_9_in 9 rfl) (gm_c (gm_at lwV_1_in 5 rfl) gm_nil)) (by decide +kernel)) (goodIn_in il_X12 gd_X12))
set_option maxHeartbeats 4000000 in
set_option maxRecDepth 100000 in
/-- the law, one call: swap -/
theorem lk_18 {p : Program} {l : Launch} {e : Env} {s : State} {m : MethodId} {below : List Frame} {meth : Method} {c : Code} {b : Nat} {xs : Nat → Int32} (hst : l.stackTraces = false) (C0 : lw_At p s m meth c b 6 xs) {A : Nat → Prop} (hA : ∀ q : Nat, s.heap.size ≤ q → A q) (hAf : ∀ q : Nat, A q → s.heap.size ≤ q) (hZ : Zz A s) (hY : Yy s) (dC : Nat → ClassId) (dI : Nat → Nat → Nat) (aX : Nat) (fsX : List Value) (aH : Nat) (fsHe : List Value) (aZ : Nat) (fsZ : List Value) (qO : Nat) (w1 : Int32) (hw1 : w1 = xs (1 : Int32).toNatClampNeg) (w2 : Int32) (hw2 : w2 = xs (2 : Int32).toNatClampNeg) (w3 : Int32) (hw3 : w3 = xs (3 : Int32).toNatClampNeg) (w4 : Int32) (hw4 : w4 = xs (4 : Int32).toNatClampNeg) (w5 : Int32) (hw5 : w5 = xs (5 : Int32).toNatClampNeg) (k_fsX : fh fsX 18 [(2, .ref aH)]) (k_fsHe : fh fsHe 14 [(1, .int 0)]) (k_fsZ : fh fsZ 150 [(0, .int 0), (26, .int 0)])  {H : Heap} {locs : List Loc} (hK : va_K (dC, dI) vwCl [] s) (hP : va_P (dC, dI) vwCl [(aX, .inr (14, fsX)), (aH, .inr (5, fsHe)), (aZ, .inr (15, fsZ))] H) (hD : va_D A [(aX, .inr (14, fsX)), (aH, .inr (5, fsHe)), (aZ, .inr (15, fsZ))]) (hS : va_S A s.heap H locs) (ls : Array Slot) (hl : lv_has ls 8 [(0, .ref b), (1, .ref aX), (2, .ref aZ), (3, .ref qO), (4, .int 0)]) : W p l e room_1 s m #[Value.ref b] below meth c H locs 390 571359 (lw_Z below #[Value.ref b] s) (F0 m 1244 ls []) := by
  obtain ⟨hx, hb, hr, hml, hown0, hts0, hX, hbl, hlocks, hgv⟩ := id C0
  have hown : s.vm.findClass RL = some m.cls := hown0
  have hts : ∀ w ∈ lwW, w.before #[Value.ref b] s = true := fun w h => hts0 w (lwW_in w h)
  have hbA : ¬ A b := fun h => absurd (hAf b h) (Nat.not_le.mpr hbl)
  have o_fsX := ow_0 k_fsX
  have o_fsHe := ow_0 k_fsHe
  have o_fsZ := ow_0 k_fsZ
  refine lv_aload_n hx hb dL_law_1244 rfl (lv_at hl 1 rfl) ?_
  refine lv_aload_n hx hb dL_law_1245 rfl (lv_at hl 0 rfl) ?_
  refine lv_iload hx hb dL_law_1246 (lv_at hl 4 rfl) ?_
  refine lv_iconst (v := 1) hx hb dL_law_1248 (by decide) ?_
  refine lv_iadd hx hb dL_law_1249  ?_
  refine lv_topi (fun x101 ex101 => ?_)
  obtain rfl : x101 = 1 := ex101.trans (by decide)
  refine va_sld hx hb hX hbl hbA hS (show vp_in 1 6 from by unfold vp_in; decide) dL_law_1250 ?_
  refine lv_topi (fun x102 ex102 => ?_)
  obtain rfl : w1 = x102 := hw1.trans ex102.symm
  refine lv_aload_n hx hb dL_law_1251 rfl (lv_at hl 0 rfl) ?_
  refine lv_iload hx hb dL_law_1252 (lv_at hl 4 rfl) ?_
  refine lv_iconst (v := 2) hx hb dL_law_1254 (by decide) ?_
  refine lv_iadd hx hb dL_law_1255  ?_
  refine lv_topi (fun x103 ex103 => ?_)
  obtain rfl : x103 = 2 := ex103.trans (by decide)
  refine va_sld hx hb hX hbl hbA hS (show vp_in 2 6 from by unfold vp_in; decide) dL_law_1256 ?_
  refine lv_topi (fun x104 ex104 => ?_)
  obtain rfl : w2 = x104 := hw2.trans ex104.symm
  refine lv_aload_n hx hb dL_law_1257 rfl (lv_at hl 3 rfl) ?_
  have hPc := hP.sub (ws' := [(aX, .inr (14, fsX)), (aH, .inr (5, fsHe))]) [0, 1] rfl
  have hDc := hD.sub (ws' := [(aX, .inr (14, fsX)), (aH, .inr (5, fsHe))]) [0, 1] (by decide) rfl
  have hKc := hK.sub (tys' := []) [] rfl
  have hFc := va_free (wc := [(aX, .inr (14, fsX)), (aH, .inr (5, fsHe))]) hD hS hA [0, 1] rfl
  refine vx_calli (vx_runSX (As := [.ref aX, .int w1, .int w2, .ref qO]) (rest := []) ⟨hx, hb, hml, hown, hts⟩ (z_L_swap l dC dI H.size aX fsX aH fsHe w1 w2 qO (fh_sub o_fsX.2 [0] rfl) (fh_sub o_fsHe.2 [0] rfl) hst ) (vx_cwSW 4 hts g_lk_18_z_L_swap_198 rfl rfl rfl (by decide +kernel) ⟨Nat.le_of_ble_eq_true rfl, Nat.le_of_ble_eq_true rfl⟩) ⟨fun a U g mk q => by obtain ⟨q0, q1, qZ, qY, qP, qK, qD⟩ := q; exact ⟨q0, q1, Zz_call qZ, Yy_call qY, qP, va_K.moved (u := U) (U := U.calling g mk a) (Vm.Alike.refl U.vm) qK, qD⟩, fun U hU hW => ⟨rfl, by rw [hU], Zz_go hZ hS hFc hU hW, Yy_go hY hW, by rw [hU]; exact hPc, va_K.moved hW.alike hKc, hDc.weaken (fun _ _ _ _ => trivial)⟩⟩ rfl rfl hl.1 rfl (lv_room (Nat.le_of_ble_eq_true rfl)) dL_law_1258 ⟨Nat.le_of_ble_eq_true rfl, Nat.le_of_ble_eq_true rfl⟩) hS (fun q _ h => hFc q h) hFc (fun q _ h => hFc q h) (fun E ce q9 u t H1 locs ht hvm hpx hBX hz1 hk1 hS hce hcv hcl => ?_) (fun r105 u t H1 locs ht hvm hw hB hz1 hk1 hS => ?_)
  · exact False.elim hBX
  · skip
    obtain ⟨hP1, hK1, hD1⟩ := hB
    rw [ht] at hP1
    try dsimp only at hw
    obtain ⟨hP, hD⟩ := va_join (wr := [(aZ, .inr (15, fsZ))]) (w1 := []) hP hD [0, 1] [2] rfl rfl (by decide) (by decide) hk1 hFc hP1 hD1
    have hK := hK.sub (tys' := []) [] rfl
    generalize H1 = H at hP hS ⊢
    refine W.widen (k := 391) (n := 571365) (by omega) (by omega) ?_
    have hP : va_P (dC, dI) vwCl [(aZ, .inr (15, fsZ))] H := hP
    have hD : va_D A [(aZ, .inr (15, fsZ))] := hD
    rcases hw with ⟨c106, er107⟩ | ⟨c108, c109, er110⟩
    · skip
      subst er107
      refine lv_istore (lv' := [(5, .int 1), (0, .ref b), (1, .ref aX), (2, .ref aZ), (3, .ref qO), (4, .int 0)]) hx hb dL_law_1261 hl (by decide) rfl (fun ls hl => ?_)
      refine lv_aload_n hx hb dL_law_1263 rfl (lv_at hl 3 rfl) ?_
      refine lv_aload_n hx hb dL_law_1264 rfl (lv_at hl 1 rfl) ?_
      refine lv_iload hx hb dL_law_1265 (lv_at hl 5 rfl) ?_
      refine lv_iconst (v := 1) hx hb dL_law_1267 (by decide) ?_
      refine lv_iadd hx hb dL_law_1268  ?_
      refine lv_topi (fun x111 ex111 => ?_)
      obtain rfl : x111 = 1 := ex111.trans (by decide)
      refine va_sld hx hb hX hbl hbA hS (show vp_in 1 6 from by unfold vp_in; decide) dL_law_1269 ?_
      refine lv_topi (fun x112 ex112 => ?_)
      obtain rfl : w1 = x112 := hw1.trans ex112.symm
      refine lv_aload_n hx hb dL_law_1270 rfl (lv_at hl 1 rfl) ?_
      refine lv_iload hx hb dL_law_1271 (lv_at hl 5 rfl) ?_
      refine lv_iconst (v := 2) hx hb dL_law_1273 (by decide) ?_
      refine lv_iadd hx hb dL_law_1274  ?_
      refine lv_topi (fun x113 ex113 => ?_)
      obtain rfl : x113 = 2 := ex113.trans (by decide)
      refine va_sld hx hb hX hbl hbA hS (show vp_in 2 6 from by unfold vp_in; decide) dL_law_1275 ?_
      refine lv_topi (fun x114 ex114 => ?_)
      obtain rfl : w2 = x114 := hw2.trans ex114.symm
      have hPc := hP.sub (ws' := [(aZ, .inr (15, fsZ))]) [0] rfl
      have hDc := hD.sub (ws' := [(aZ, .inr (15, fsZ))]) [0] (by decide) rfl
      have hKc := hK.sub (tys' := []) [] rfl
      have hFc := va_free (wc := [(aZ, .inr (15, fsZ))]) hD hS hA [0] rfl
      refine va_calli (va_runV (As := [.int w1, .int w2]) (rest := []) ⟨hx, hb, hml, hown, hts⟩ (z_X12_swap l dC dI H.size aZ fsZ w1 w2 (fh_sub o_fsZ.2 [0, 1] rfl) ) (cwV 2 hts g_lk_18_z_X12_swap_200 rfl rfl rfl (by decide +kernel) ⟨Nat.le_of_ble_eq_true rfl, Nat.le_of_ble_eq_true rfl⟩) ⟨fun a U g mk q => by obtain ⟨q0, q1, qP, qK, qD⟩ := q; exact ⟨q0, q1, qP, va_K.moved (u := U) (U := U.calling g mk a) (Vm.Alike.refl U.vm) qK, qD⟩, va_recv hK hP (ci := 15) (q0 := 0) rfl rfl, fun U hU hW => ⟨rfl, by rw [hU], by rw [hU]; exact hPc, va_K.moved hW.alike hKc, hDc.weaken (fun _ _ _ _ => trivial)⟩⟩ rfl rfl hl.1 rfl (lv_room (Nat.le_of_ble_eq_true rfl)) dL_law_1276 ⟨Nat.le_of_ble_eq_true rfl, Nat.le_of_ble_eq_true rfl⟩) hS (fun q _ h => hFc q h) hFc (fun r115 u t H1 locs ht hvm hw hB hz1 hk1 hS => ?_)
      obtain ⟨s116, rfl⟩ : ∃ z, z = u := ⟨_, rfl⟩
      obtain ⟨hP1, hK1, hD1⟩ := hB
      rw [ht] at hP1
      try dsimp only at hw
      obtain ⟨hP, hD⟩ := va_join (wr := []) (w1 := [(aZ, .inr (15, s116))]) hP hD [0] [] rfl rfl (by decide) (by decide) hk1 hFc hP1 hD1
      have hK := hK.sub (tys' := []) [] rfl
      generalize H1 = H at hP hS ⊢
      have hP : va_P (dC, dI) vwCl [(aZ, .inr (15, s116))] H := hP
      have hD : va_D A [(aZ, .inr (15, s116))] := hD
      rcases hw with ⟨c117, er118, o_s116⟩ | ⟨c119, c120, er121, o_s116⟩
      · skip
        subst er118
        have o_s116 := ow_on o_fsZ o_s116 (l' := [(0, .int 1), (26, .int 0), (26, .int 0)]) (w' := [0]) rfl rfl
        refine lv_istore (lv' := [(6, .int 0), (5, .int 1), (0, .ref b), (1, .ref aX), (2, .ref aZ), (3, .ref qO), (4, .int 0)]) hx hb dL_law_1279 hl (by decide) rfl (fun ls hl => ?_)
        refine lv_aload_n hx hb dL_law_1281 rfl (lv_at hl 4 rfl) ?_
        have hPc := hP.sub (ws' := [(aZ, .inr (15, s116))]) [0] rfl
        have hDc := hD.sub (ws' := [(aZ, .inr (15, s116))]) [0] (by decide) rfl
        have hKc := hK.sub (tys' := []) [] rfl
        have hFc := va_free (wc := [(aZ, .inr (15, s116))]) hD hS hA [0] rfl
        refine va_calli (va_runV (As := []) (rest := []) ⟨hx, hb, hml, hown, hts⟩ (z_X12_thrown l dC dI H.size aZ s116 (fh_sub o_s116.2 [0] rfl) ) (cwV 0 hts g_lk_18_z_X12_thrown_149 rfl rfl rfl (by decide +kernel) ⟨Nat.le_of_ble_eq_true rfl, Nat.le_of_ble_eq_true rfl⟩) ⟨fun a U g mk q => by obtain ⟨q0, q1, qP, qK, qD⟩ := q; exact ⟨q0, q1, qP, va_K.moved (u := U) (U := U.calling g mk a) (Vm.Alike.refl U.vm) qK, qD⟩, va_recv hK hP (ci := 15) (q0 := 0) rfl rfl, fun U hU hW => ⟨rfl, by rw [hU], by rw [hU]; exact hPc, va_K.moved hW.alike hKc, hDc.weaken (fun _ _ _ _ => trivial)⟩⟩ rfl rfl hl.1 rfl (lv_room (Nat.le_of_ble_eq_true rfl)) dL_law_1282 ⟨Nat.le_of_ble_eq_true rfl, Nat.le_of_ble_eq_true rfl⟩) hS (fun q _ h => hFc q h) hFc (fun r122 u t H1 locs ht hvm hw hB hz1 hk1 hS => ?_)
        obtain ⟨hP1, hK1, hD1⟩ := hB
        rw [ht] at hP1
        try dsimp only at hw
        obtain ⟨hP, hD⟩ := va_join (wr := []) (w1 := [(aZ, .inr (15, s116))]) hP hD [0] [] rfl rfl (by decide) (by decide) hk1 hFc hP1 hD1
        have hK := hK.sub (tys' := []) [] rfl
        generalize H1 = H at hP hS ⊢
        have hP : va_P (dC, dI) vwCl [(aZ, .inr (15, s116))] H := hP
        have hD : va_D A [(aZ, .inr (15, s116))] := hD
        have er123 := hw
        subst er123
        refine lv_iload hx hb dL_law_1285 (lv_at hl 1 rfl) ?_
        refine lv_icmp_eq (tgt := 1292) hx hb dL_law_1287 (by decide) (fun c124 => ?_) (fun c124 => absurd c124 (by decide))
        refine lv_iload hx hb dL_law_1292 (lv_at hl 1 rfl) ?_
        refine lv_if_ne (tgt := 1309) hx hb dL_law_1294 (by decide) (fun c125 => ?_) (fun c125 => absurd c125 (by decide))
        refine lv_goto (tgt := 3111) hx hb dL_law_1309 (by decide) ?_
        exact lw_end hst C0 hA hAf hZ hY (Nat.le_of_ble_eq_true rfl) (Nat.le_of_ble_eq_true rfl) dC dI P0k P0 D0 hS ls (lv_sub hl [2, 6] rfl)
      · exact (by exfalso; (try simp only [i_lt, i_le, i_eq, kc_0] at c106 c119 c120); omega)
    · skip
      subst er110
      refine lv_istore (lv' := [(5, .int 1), (0, .ref b), (1, .ref aX), (2, .ref aZ), (3, .ref qO), (4, .int 0)]) hx hb dL_law_1261 hl (by decide) rfl (fun ls hl => ?_)
      refine lv_aload_n hx hb dL_law_1263 rfl (lv_at hl 3 rfl) ?_
      refine lv_aload_n hx hb dL_law_1264 rfl (lv_at hl 1 rfl) ?_
      refine lv_iload hx hb dL_law_1265 (lv_at hl 5 rfl) ?_
      refine lv_iconst (v := 1) hx hb dL_law_1267 (by decide) ?_
      refine lv_iadd hx hb dL_law_1268  ?_
      refine lv_topi (fun x126 ex126 => ?_)
      obtain rfl : x126 = 1 := ex126.trans (by decide)
      refine va_sld hx hb hX hbl hbA hS (show vp_in 1 6 from by unfold vp_in; decide) dL_law_1269 ?_
      refine lv_topi (fun x127 ex127 => ?_)
      obtain rfl : w1 = x127 := hw1.trans ex127.symm
      refine lv_aload_n hx hb dL_law_1270 rfl (lv_at hl 1 rfl) ?_
      refine lv_iload hx hb dL_law_1271 (lv_at hl 5 rfl) ?_
      refine lv_iconst (v := 2) hx hb dL_law_1273 (by decide) ?_
      refine lv_iadd hx hb dL_law_1274  ?_
      refine lv_topi (fun x128 ex128 => ?_)
      obtain rfl : x128 = 2 := ex128.trans (by decide)
      refine va_sld hx hb hX hbl hbA hS (show vp_in 2 6 from by unfold vp_in; decide) dL_law_1275 ?_
      refine lv_topi (fun x129 ex129 => ?_)
      obtain rfl : w2 = x129 := hw2.trans ex129.symm
      have hPc := hP.sub (ws' := [(aZ, .inr (15, fsZ))]) [0] rfl
      have hDc := hD.sub (ws' := [(aZ, .inr (15, fsZ))]) [0] (by decide) rfl
      have hKc := hK.sub (tys' := []) [] rfl
      have hFc := va_free (wc := [(aZ, .inr (15, fsZ))]) hD hS hA [0] rfl
      refine va_calli (va_runV (As := [.int w1, .int w2]) (rest := []) ⟨hx, hb, hml, hown, hts⟩ (z_X12_swap l dC dI H.size aZ fsZ w1 w2 (fh_sub o_fsZ.2 [0, 1] rfl) ) (cwV 2 hts g_lk_18_z_X12_swap_200 rfl rfl rfl (by decide +kernel) ⟨Nat.le_of_ble_eq_true rfl, Nat.le_of_ble_eq_true rfl⟩) ⟨fun a U g mk q => by obtain ⟨q0, q1, qP, qK, qD⟩ := q; exact ⟨q0, q1, qP, va_K.moved (u := U) (U := U.calling g mk a) (Vm.Alike.refl U.vm) qK, qD⟩, va_recv hK hP (ci := 15) (q0 := 0) rfl rfl, fun U hU hW => ⟨rfl, by rw [hU], by rw [hU]; exact hPc, va_K.moved hW.alike hKc, hDc.weaken (fun _ _ _ _ => trivial)⟩⟩ rfl rfl hl.1 rfl (lv_room (Nat.le_of_ble_eq_true rfl)) dL_law_1276 ⟨Nat.le_of_ble_eq_true rfl, Nat.le_of_ble_eq_true rfl⟩) hS (fun q _ h => hFc q h) hFc (fun r130 u t H1 locs ht hvm hw hB hz1 hk1 hS => ?_)
      obtain ⟨s131, rfl⟩ : ∃ z, z = u := ⟨_, rfl⟩
      obtain ⟨hP1, hK1, hD1⟩ := hB
      rw [ht] at hP1
      try dsimp only at hw
      obtain ⟨hP, hD⟩ := va_join (wr := []) (w1 := [(aZ, .inr (15, s131))]) hP hD [0] [] rfl rfl (by decide) (by decide) hk1 hFc hP1 hD1
      have hK := hK.sub (tys' := []) [] rfl
      generalize H1 = H at hP hS ⊢
      have hP : va_P (dC, dI) vwCl [(aZ, .inr (15, s131))] H := hP
      have hD : va_D A [(aZ, .inr (15, s131))] := hD
      rcases hw with ⟨c132, er133, o_s131⟩ | ⟨c134, c135, er136, o_s131⟩
      · exact (by exfalso; (try simp only [i_lt, i_le, i_eq, kc_0] at c108 c109 c132); omega)
      · skip
        subst er136
        have o_s131 := ow_on o_fsZ o_s131 (l' := [(0, .int 1), (26, .int 0), (26, .int 0)]) (w' := [0]) rfl rfl
        refine lv_istore (lv' := [(6, .int 0), (5, .int 1), (0, .ref b), (1, .ref aX), (2, .ref aZ), (3, .ref qO), (4, .int 0)]) hx hb dL_law_1279 hl (by decide) rfl (fun ls hl => ?_)
        refine lv_aload_n hx hb dL_law_1281 rfl (lv_at hl 4 rfl) ?_
        have hPc := hP.sub (ws' := [(aZ, .inr (15, s131))]) [0] rfl
        have hDc := hD.sub (ws' := [(aZ, .inr (15, s131))]) [0] (by decide) rfl
        have hKc := hK.sub (tys' := []) [] rfl
        have hFc := va_free (wc := [(aZ, .inr (15, s131))]) hD hS hA [0] rfl
        refine va_calli (va_runV (As := []) (rest := []) ⟨hx, hb, hml, hown, hts⟩ (z_X12_thrown l dC dI H.size aZ s131 (fh_sub o_s131.2 [0] rfl) ) (cwV 0 hts g_lk_18_z_X12_thrown_149 rfl rfl rfl (by decide +kernel) ⟨Nat.le_of_ble_eq_true rfl, Nat.le_of_ble_eq_true rfl⟩) ⟨fun a U g mk q => by obtain ⟨q0, q1, qP, qK, qD⟩ := q; exact ⟨q0, q1, qP, va_K.moved (u := U) (U := U.calling g mk a) (Vm.Alike.refl U.vm) qK, qD⟩, va_recv hK hP (ci := 15) (q0 := 0) rfl rfl, fun U hU hW => ⟨rfl, by rw [hU], by rw [hU]; exact hPc, va_K.moved hW.alike hKc, hDc.weaken (fun _ _ _ _ => trivial)⟩⟩ rfl rfl hl.1 rfl (lv_room (Nat.le_of_ble_eq_true rfl)) dL_law_1282 ⟨Nat.le_of_ble_eq_true rfl, Nat.le_of_ble_eq_true rfl⟩) hS (fun q _ h => hFc q h) hFc (fun r137 u t H1 locs ht hvm hw hB hz1 hk1 hS => ?_)
        obtain ⟨hP1, hK1, hD1⟩ := hB
        rw [ht] at hP1
        try dsimp only at hw
        obtain ⟨hP, hD⟩ := va_join (wr := []) (w1 := [(aZ, .inr (15, s131))]) hP hD [0] [] rfl rfl (by decide) (by decide) hk1 hFc hP1 hD1
        have hK := hK.sub (tys' := []) [] rfl
        generalize H1 = H at hP hS ⊢
        have hP : va_P (dC, dI) vwCl [(aZ, .inr (15, s131))] H := hP
        have hD : va_D A [(aZ, .inr (15, s131))] := hD
        have er138 := hw
        subst er138
        refine lv_iload hx hb dL_law_1285 (lv_at hl 1 rfl) ?_
        refine lv_icmp_eq (tgt := 1292) hx hb dL_law_1287 (by decide) (fun c139 => ?_) (fun c139 => absurd c139 (by decide))
        refine lv_iload hx hb dL_law_1292 (lv_at hl 1 rfl) ?_
        refine lv_if_ne (tgt := 1309) hx hb dL_law_1294 (by decide) (fun c140 => ?_) (fun c140 => absurd c140 (by decide))
        refine lv_goto (tgt := 3111) hx hb dL_law_1309 (by decide) ?_
        exact lw_end hst C0 hA hAf hZ hY (Nat.le_of_ble_eq_true rfl) (Nat.le_of_ble_eq_true rfl) dC dI P0k P0 D0 hS ls (lv_sub hl [2, 6] rfl)

set_option maxRecDepth 20000 in
theorem g_lk_19_z_L_copy_201 : GoodIn lwW (va_wsS RL 201 yL_copy w_z_L_copy) := goodIn_app (goodIn_sub (ws := ([.methodLink RL 201 yL_copy, .static yL_copy, .initialized RL] : List Cond)) (gm_c (gm_at lwV_32_in 8 rfl) (gm_c (gm_at lwV_32_in 9 rfl) (gm_c (gm_at lwV_5_in 10 rfl) gm_nil))) (by decide +kernel)) (goodIn_ca (goodIn_sub (ws := .codeWith yL_copy cL_copy 5 (some .int) [(0, 10, 13, 30), (0, 10, 17, 15), (0, 10, 21, 17)] :: l_z_L_copy) (gm_c (gm_at lwV_33_in 1 rfl) (gm_c (gm_at lwV_33_in 2 rfl) (gm_c (gm_at lwV_33_in 3 rfl) (gm_c (gm_at lwV_33_in 4 rfl) (gm_c (gm_at lwV_0_in 3 rfl) (gm_c (gm_at lwV_19_in 11 rfl) (gm_c (gm_at lwV_33_in 5 rfl) (gm_c (gm_at lwV_13_in 9 rfl) (gm_c (gm_at lwV_20_in 1 rfl) (gm_c (gm_at lwV_20_in 2 rfl) (gm_c (gm_at lwV_20_in 3 rfl) (gm_c (gm_at lwV_14_in 4 rfl) (gm_c (gm_at lwV_20_in 4 rfl) (gm_c (gm_at lwV_20_in 5 rfl) (gm_c (gm_at lwV_20_in 6 rfl) (gm_c (gm_at lwV_15_in 1 rfl) gm_nil)))))))))))))))) (by decide +kernel)) (goodIn_app (goodIn_in il_X11 gd_X11) (goodIn_app (goodIn_in il_at0_X11_223 gd_at0_X11_223) (goodIn_in il_X2 gd_X2))))
set_option maxRecDepth 20000 in
theorem g_lk_19_z_X12_copy_203 : GoodIn lwW (wsV RL 203 RX12 yX12_copy w_z_X12_copy) := goodIn_app (goodIn_sub (ws := ([.methodLink RL 203 yX12_copy, .instanceMethod yX12_copy, .selects RX12 yX12_copy yX12_copy, .initialized RX12] : List Cond)) (gm_c (gm_at lwV_32_in 10 rfl) (gm_c (gm_at lwV_32_in 11 rfl) (gm_c (gm_at lwV_33_in 0 rfl) (gm_c (gm_at lwV_0_in 7 rfl) gm_nil)))) (by decide +kernel)) (goodIn_ca (goodIn_sub (ws := .code yX12_copy cX12_copy 11 (some .int) :: l_z_X12_copy) (gm_c (gm_at lwV_33_in 6 rfl) (gm_c (gm_at lwV_20_in 8 rfl) (gm_c (gm_at lwV_20_in 9 rfl) (gm_c (gm_at lwV_20_in 10 rfl) (gm_c (gm_at lwV_0_in 7 rfl) (gm_c (gm_at lwV_1_in 5 rfl) (gm_c (gm_at lwV_20_in 11 rfl) (gm_c (gm_at lwV_17_in 4 rfl) gm_nil)))))))) (by decide +kernel)) (goodIn_in il_X12 gd_X12))
set_option maxRecDepth 20000 in
theorem g_lk_19_z_X12_thrown_149 : GoodIn lwW (wsV RL 149 RX12 yX12_thrown w_z_X12_thrown) := goodIn_app (goodIn_sub (ws := ([.methodLink RL 149 yX12_thrown, .instanceMethod yX12_thrown, .selects RX12 yX12_thrown yX12_thrown, .initialized RX12] : List Cond)) (gm_c (gm_at lwV_6_in 2 rfl) (gm_c (gm_at lwV_6_in 3 rfl) (gm_c (gm_at lwV_6_in 4 rfl) (gm_c (gm_at lwV_0_in 7 rfl) gm_nil)))) (by decide +kernel)) (goodIn_ca (goodIn_sub (ws := .code yX12_thrown cX12_thrown 1 (some .int) :: l_z_X12_thrown) (gm_c (gm_at lwV_9_in 9 rfl) (gm_c (gm_at lwV_1_in 5 rfl) gm_nil)) (by decide +kernel)) (goodIn_in il_X12 gd_X12))
set_option maxHeartbeats 4000000 in
set_option maxRecDepth 100000 in
/-- the law, one call: copy -/
theorem lk_19 {p : Program} {l : Launch} {e : Env} {s : State} {m : MethodId} {below : List Frame} {meth : Method} {c : Code} {b : Nat} {xs : Nat → Int32} (hst : l.stackTraces = false) (C0 : lw_At p s m meth c b 6 xs) {A : Nat → Prop} (hA : ∀ q : Nat, s.heap.size ≤ q → A q) (hAf : ∀ q : Nat, A q → s.heap.size ≤ q) (hZ : Zz A s) (hY : Yy s) (dC : Nat → ClassId) (dI : Nat → Nat → Nat) (aX : Nat) (fsX : List Value) (aH : Nat) (fsHe : List Value) (aZ : Nat) (fsZ : List Value) (qO : Nat) (w1 : Int32) (hw1 : w1 = xs (1 : Int32).toNatClampNeg) (w2 : Int32) (hw2 : w2 = xs (2 : Int32).toNatClampNeg) (w3 : Int32) (hw3 : w3 = xs (3 : Int32).toNatClampNeg) (w4 : Int32) (hw4 : w4 = xs (4 : Int32).toNatClampNeg) (w5 : Int32) (hw5 : w5 = xs (5 : Int32).toNatClampNeg) (k_fsX : fh fsX 18 [(2, .ref aH)]) (k_fsHe : fh fsHe 14 [(1, .int 0)]) (k_fsZ : fh fsZ 150 [(0, .int 0), (26, .int 0)])  {H : Heap} {locs : List Loc} (hK : va_K (dC, dI) vwCl [] s) (hP : va_P (dC, dI) vwCl [(aX, .inr (14, fsX)), (aH, .inr (5, fsHe)), (aZ, .inr (15, fsZ))] H) (hD : va_D A [(aX, .inr (14, fsX)), (aH, .inr (5, fsHe)), (aZ, .inr (15, fsZ))]) (hS : va_S A s.heap H locs) (ls : Array Slot) (hl : lv_has ls 8 [(0, .ref b), (1, .ref aX), (2, .ref aZ), (3, .ref qO), (4, .int 0)]) : W p l e room_1 s m #[Value.ref b] below meth c H locs 390 571359 (lw_Z below #[Value.ref b] s) (F0 m 1312 ls []) := by
  obtain ⟨hx, hb, hr, hml, hown0, hts0, hX, hbl, hlocks, hgv⟩ := id C0
  have hown : s.vm.findClass RL = some m.cls := hown0
  have hts : ∀ w ∈ lwW, w.before #[Value.ref b] s = true := fun w h => hts0 w (lwW_in w h)
  have hbA : ¬ A b := fun h => absurd (hAf b h) (Nat.not_le.mpr hbl)
  have o_fsX := ow_0 k_fsX
  have o_fsHe := ow_0 k_fsHe
  have o_fsZ := ow_0 k_fsZ
  refine lv_aload_n hx hb dL_law_1312 rfl (lv_at hl 1 rfl) ?_
  refine lv_aload_n hx hb dL_law_1313 rfl (lv_at hl 0 rfl) ?_
  refine lv_iload hx hb dL_law_1314 (lv_at hl 4 rfl) ?_
  refine lv_iconst (v := 1) hx hb dL_law_1316 (by decide) ?_
  refine lv_iadd hx hb dL_law_1317  ?_
  refine lv_topi (fun x101 ex101 => ?_)
  obtain rfl : x101 = 1 := ex101.trans (by decide)
  refine va_sld hx hb hX hbl hbA hS (show vp_in 1 6 from by unfold vp_in; decide) dL_law_1318 ?_
  refine lv_topi (fun x102 ex102 => ?_)
  obtain rfl : w1 = x102 := hw1.trans ex102.symm
  refine lv_aload_n hx hb dL_law_1319 rfl (lv_at hl 0 rfl) ?_
  refine lv_iload hx hb dL_law_1320 (lv_at hl 4 rfl) ?_
  refine lv_iconst (v := 2) hx hb dL_law_1322 (by decide) ?_
  refine lv_iadd hx hb dL_law_1323  ?_
  refine lv_topi (fun x103 ex103 => ?_)
  obtain rfl : x103 = 2 := ex103.trans (by decide)
  refine va_sld hx hb hX hbl hbA hS (show vp_in 2 6 from by unfold vp_in; decide) dL_law_1324 ?_
  refine lv_topi (fun x104 ex104 => ?_)
  obtain rfl : w2 = x104 := hw2.trans ex104.symm
  refine lv_aload_n hx hb dL_law_1325 rfl (lv_at hl 3 rfl) ?_
  have hPc := hP.sub (ws' := [(aX, .inr (14, fsX)), (aH, .inr (5, fsHe))]) [0, 1] rfl
  have hDc := hD.sub (ws' := [(aX, .inr (14, fsX)), (aH, .inr (5, fsHe))]) [0, 1] (by decide) rfl
  have hKc := hK.sub (tys' := []) [] rfl
  have hFc := va_free (wc := [(aX, .inr (14, fsX)), (aH, .inr (5, fsHe))]) hD hS hA [0, 1] rfl
  refine vx_calli (vx_runSX (As := [.ref aX, .int w1, .int w2, .ref qO]) (rest := []) ⟨hx, hb, hml, hown, hts⟩ (z_L_copy l dC dI H.size aX fsX aH fsHe w1 w2 qO (fh_sub o_fsX.2 [0] rfl) (fh_sub o_fsHe.2 [0] rfl) hst ) (vx_cwSW 4 hts g_lk_19_z_L_copy_201 rfl rfl rfl (by decide +kernel) ⟨Nat.le_of_ble_eq_true rfl, Nat.le_of_ble_eq_true rfl⟩) ⟨fun a U g mk q => by obtain ⟨q0, q1, qZ, qY, qP, qK, qD⟩ := q; exact ⟨q0, q1, Zz_call qZ, Yy_call qY, qP, va_K.moved (u := U) (U := U.calling g mk a) (Vm.Alike.refl U.vm) qK, qD⟩, fun U hU hW => ⟨rfl, by rw [hU], Zz_go hZ hS hFc hU hW, Yy_go hY hW, by rw [hU]; exact hPc, va_K.moved hW.alike hKc, hDc.weaken (fun _ _ _ _ => trivial)⟩⟩ rfl rfl hl.1 rfl (lv_room (Nat.le_of_ble_eq_true rfl)) dL_law_1326 ⟨Nat.le_of_ble_eq_true rfl, Nat.le_of_ble_eq_true rfl⟩) hS (fun q _ h => hFc q h) hFc (fun q _ h => hFc q h) (fun E ce q9 u t H1 locs ht hvm hpx hBX hz1 hk1 hS hce hcv hcl => ?_) (fun r105 u t H1 locs ht hvm hw hB hz1 hk1 hS => ?_)
  · exact False.elim hBX
  · skip
    obtain ⟨hP1, hK1, hD1⟩ := hB
    rw [ht] at hP1
    try dsimp only at hw
    obtain ⟨hP, hD⟩ := va_join (wr := [(aZ, .inr (15, fsZ))]) (w1 := []) hP hD [0, 1] [2] rfl rfl (by decide) (by decide) hk1 hFc hP1 hD1
    have hK := hK.sub (tys' := []) [] rfl
    generalize H1 = H at hP hS ⊢
    refine W.widen (k := 391) (n := 571365) (by omega) (by omega) ?_
    have hP : va_P (dC, dI) vwCl [(aZ, .inr (15, fsZ))] H := hP
    have hD : va_D A [(aZ, .inr (15, fsZ))] := hD
    rcases hw with ⟨c106, er107⟩ | ⟨c108, c109, er110⟩
    · skip
      subst er107
      refine lv_istore (lv' := [(5, .int 1), (0, .ref b), (1, .ref aX), (2, .ref aZ), (3, .ref qO), (4, .int 0)]) hx hb dL_law_1329 hl (by decide) rfl (fun ls hl => ?_)
      refine lv_aload_n hx hb dL_law_1331 rfl (lv_at hl 3 rfl) ?_
      refine lv_aload_n hx hb dL_law_1332 rfl (lv_at hl 1 rfl) ?_
      refine lv_iload hx hb dL_law_1333 (lv_at hl 5 rfl) ?_
      refine lv_iconst (v := 1) hx hb dL_law_1335 (by decide) ?_
      refine lv_iadd hx hb dL_law_1336  ?_
      refine lv_topi (fun x111 ex111 => ?_)
      obtain rfl : x111 = 1 := ex111.trans (by decide)
      refine va_sld hx hb hX hbl hbA hS (show vp_in 1 6 from by unfold vp_in; decide) dL_law_1337 ?_
      refine lv_topi (fun x112 ex112 => ?_)
      obtain rfl : w1 = x112 := hw1.trans ex112.symm
      refine lv_aload_n hx hb dL_law_1338 rfl (lv_at hl 1 rfl) ?_
      refine lv_iload hx hb dL_law_1339 (lv_at hl 5 rfl) ?_
      refine lv_iconst (v := 2) hx hb dL_law_1341 (by decide) ?_
      refine lv_iadd hx hb dL_law_1342  ?_
      refine lv_topi (fun x113 ex113 => ?_)
      obtain rfl : x113 = 2 := ex113.trans (by decide)
      refine va_sld hx hb hX hbl hbA hS (show vp_in 2 6 from by unfold vp_in; decide) dL_law_1343 ?_
      refine lv_topi (fun x114 ex114 => ?_)
      obtain rfl : w2 = x114 := hw2.trans ex114.symm
      have hPc := hP.sub (ws' := [(aZ, .inr (15, fsZ))]) [0] rfl
      have hDc := hD.sub (ws' := [(aZ, .inr (15, fsZ))]) [0] (by decide) rfl
      have hKc := hK.sub (tys' := []) [] rfl
      have hFc := va_free (wc := [(aZ, .inr (15, fsZ))]) hD hS hA [0] rfl
      refine va_calli (va_runV (As := [.int w1, .int w2]) (rest := []) ⟨hx, hb, hml, hown, hts⟩ (z_X12_copy l dC dI H.size aZ fsZ w1 w2 (fh_sub o_fsZ.2 [0, 1] rfl) ) (cwV 2 hts g_lk_19_z_X12_copy_203 rfl rfl rfl (by decide +kernel) ⟨Nat.le_of_ble_eq_true rfl, Nat.le_of_ble_eq_true rfl⟩) ⟨fun a U g mk q => by obtain ⟨q0, q1, qP, qK, qD⟩ := q; exact ⟨q0, q1, qP, va_K.moved (u := U) (U := U.calling g mk a) (Vm.Alike.refl U.vm) qK, qD⟩, va_recv hK hP (ci := 15) (q0 := 0) rfl rfl, fun U hU hW => ⟨rfl, by rw [hU], by rw [hU]; exact hPc, va_K.moved hW.alike hKc, hDc.weaken (fun _ _ _ _ => trivial)⟩⟩ rfl rfl hl.1 rfl (lv_room (Nat.le_of_ble_eq_true rfl)) dL_law_1344 ⟨Nat.le_of_ble_eq_true rfl, Nat.le_of_ble_eq_true rfl⟩) hS (fun q _ h => hFc q h) hFc (fun r115 u t H1 locs ht hvm hw hB hz1 hk1 hS => ?_)
      obtain ⟨s116, rfl⟩ : ∃ z, z = u := ⟨_, rfl⟩
      obtain ⟨hP1, hK1, hD1⟩ := hB
      rw [ht] at hP1
      try dsimp only at hw
      obtain ⟨hP, hD⟩ := va_join (wr := []) (w1 := [(aZ, .inr (15, s116))]) hP hD [0] [] rfl rfl (by decide) (by decide) hk1 hFc hP1 hD1
      have hK := hK.sub (tys' := []) [] rfl
      generalize H1 = H at hP hS ⊢
      have hP : va_P (dC, dI) vwCl [(aZ, .inr (15, s116))] H := hP
      have hD : va_D A [(aZ, .inr (15, s116))] := hD
      rcases hw with ⟨c117, er118, o_s116⟩ | ⟨c119, c120, er121, o_s116⟩
      · skip
        subst er118
        have o_s116 := ow_on o_fsZ o_s116 (l' := [(0, .int 1), (26, .int 0), (26, .int 0)]) (w' := [0]) rfl rfl
        refine lv_istore (lv' := [(6, .int 0), (5, .int 1), (0, .ref b), (1, .ref aX), (2, .ref aZ), (3, .ref qO), (4, .int 0)]) hx hb dL_law_1347 hl (by decide) rfl (fun ls hl => ?_)
        refine lv_aload_n hx hb dL_law_1349 rfl (lv_at hl 4 rfl) ?_
        have hPc := hP.sub (ws' := [(aZ, .inr (15, s116))]) [0] rfl
        have hDc := hD.sub (ws' := [(aZ, .inr (15, s116))]) [0] (by decide) rfl
        have hKc := hK.sub (tys' := []) [] rfl
        have hFc := va_free (wc := [(aZ, .inr (15, s116))]) hD hS hA [0] rfl
        refine va_calli (va_runV (As := []) (rest := []) ⟨hx, hb, hml, hown, hts⟩ (z_X12_thrown l dC dI H.size aZ s116 (fh_sub o_s116.2 [0] rfl) ) (cwV 0 hts g_lk_19_z_X12_thrown_149 rfl rfl rfl (by decide +kernel) ⟨Nat.le_of_ble_eq_true rfl, Nat.le_of_ble_eq_true rfl⟩) ⟨fun a U g mk q => by obtain ⟨q0, q1, qP, qK, qD⟩ := q; exact ⟨q0, q1, qP, va_K.moved (u := U) (U := U.calling g mk a) (Vm.Alike.refl U.vm) qK, qD⟩, va_recv hK hP (ci := 15) (q0 := 0) rfl rfl, fun U hU hW => ⟨rfl, by rw [hU], by rw [hU]; exact hPc, va_K.moved hW.alike hKc, hDc.weaken (fun _ _ _ _ => trivial)⟩⟩ rfl rfl hl.1 rfl (lv_room (Nat.le_of_ble_eq_true rfl)) dL_law_1350 ⟨Nat.le_of_ble_eq_true rfl, Nat.le_of_ble_eq_true rfl⟩) hS (fun q _ h => hFc q h) hFc (fun r122 u t H1 locs ht hvm hw hB hz1 hk1 hS => ?_)
        obtain ⟨hP1, hK1, hD1⟩ := hB
        rw [ht] at hP1
        try dsimp only at hw
        obtain ⟨hP, hD⟩ := va_join (wr := []) (w1 := [(aZ, .inr (15, s116))]) hP hD [0] [] rfl rfl (by decide) (by decide) hk1 hFc hP1 hD1
        have hK := hK.sub (tys' := []) [] rfl
        generalize H1 = H at hP hS ⊢
        have hP : va_P (dC, dI) vwCl [(aZ, .inr (15, s116))] H := hP
        have hD : va_D A [(aZ, .inr (15, s116))] := hD
        have er123 := hw
        subst er123
        refine lv_iload hx hb dL_law_1353 (lv_at hl 1 rfl) ?_
        refine lv_icmp_eq (tgt := 1360) hx hb dL_law_1355 (by decide) (fun c124 => ?_) (fun c124 => absurd c124 (by decide))
        refine lv_iload hx hb dL_law_1360 (lv_at hl 1 rfl) ?_
        refine lv_if_ne (tgt := 1377) hx hb dL_law_1362 (by decide) (fun c125 => ?_) (fun c125 => absurd c125 (by decide))
        refine lv_goto (tgt := 3111) hx hb dL_law_1377 (by decide) ?_
        exact lw_end hst C0 hA hAf hZ hY (Nat.le_of_ble_eq_true rfl) (Nat.le_of_ble_eq_true rfl) dC dI P0k P0 D0 hS ls (lv_sub hl [2, 6] rfl)
      · exact (by exfalso; (try simp only [i_lt, i_le, i_eq, kc_0] at c106 c119 c120); omega)
    · skip
      subst er110
      refine lv_istore (lv' := [(5, .int 1), (0, .ref b), (1, .ref aX), (2, .ref aZ), (3, .ref qO), (4, .int 0)]) hx hb dL_law_1329 hl (by decide) rfl (fun ls hl => ?_)
      refine lv_aload_n hx hb dL_law_1331 rfl (lv_at hl 3 rfl) ?_
      refine lv_aload_n hx hb dL_law_1332 rfl (lv_at hl 1 rfl) ?_
      refine lv_iload hx hb dL_law_1333 (lv_at hl 5 rfl) ?_
      refine lv_iconst (v := 1) hx hb dL_law_1335 (by decide) ?_
      refine lv_iadd hx hb dL_law_1336  ?_
      refine lv_topi (fun x126 ex126 => ?_)
      obtain rfl : x126 = 1 := ex126.trans (by decide)
      refine va_sld hx hb hX hbl hbA hS (show vp_in 1 6 from by unfold vp_in; decide) dL_law_1337 ?_
      refine lv_topi (fun x127 ex127 => ?_)
      obtain rfl : w1 = x127 := hw1.trans ex127.symm
      refine lv_aload_n hx hb dL_law_1338 rfl (lv_at hl 1 rfl) ?_
      refine lv_iload hx hb dL_law_1339 (lv_at hl 5 rfl) ?_
      refine lv_iconst (v := 2) hx hb dL_law_1341 (by decide) ?_
      refine lv_iadd hx hb dL_law_1342  ?_
      refine lv_topi (fun x128 ex128 => ?_)
      obtain rfl : x128 = 2 := ex128.trans (by decide)
      refine va_sld hx hb hX hbl hbA hS (show vp_in 2 6 from by unfold vp_in; decide) dL_law_1343 ?_
      refine lv_topi (fun x129 ex129 => ?_)
      obtain rfl : w2 = x129 := hw2.trans ex129.symm
      have hPc := hP.sub (ws' := [(aZ, .inr (15, fsZ))]) [0] rfl
      have hDc := hD.sub (ws' := [(aZ, .inr (15, fsZ))]) [0] (by decide) rfl
      have hKc := hK.sub (tys' := []) [] rfl
      have hFc := va_free (wc := [(aZ, .inr (15, fsZ))]) hD hS hA [0] rfl
      refine va_calli (va_runV (As := [.int w1, .int w2]) (rest := []) ⟨hx, hb, hml, hown, hts⟩ (z_X12_copy l dC dI H.size aZ fsZ w1 w2 (fh_sub o_fsZ.2 [0, 1] rfl) ) (cwV 2 hts g_lk_19_z_X12_copy_203 rfl rfl rfl (by decide +kernel) ⟨Nat.le_of_ble_eq_true rfl, Nat.le_of_ble_eq_true rfl⟩) ⟨fun a U g mk q => by obtain ⟨q0, q1, qP, qK, qD⟩ := q; exact ⟨q0, q1, qP, va_K.moved (u := U) (U := U.calling g mk a) (Vm.Alike.refl U.vm) qK, qD⟩, va_recv hK hP (ci := 15) (q0 := 0) rfl rfl, fun U hU hW => ⟨rfl, by rw [hU], by rw [hU]; exact hPc, va_K.moved hW.alike hKc, hDc.weaken (fun _ _ _ _ => trivial)⟩⟩ rfl rfl hl.1 rfl (lv_room (Nat.le_of_ble_eq_true rfl)) dL_law_1344 ⟨Nat.le_of_ble_eq_true rfl, Nat.le_of_ble_eq_true rfl⟩) hS (fun q _ h => hFc q h) hFc (fun r130 u t H1 locs ht hvm hw hB hz1 hk1 hS => ?_)
      obtain ⟨s131, rfl⟩ : ∃ z, z = u := ⟨_, rfl⟩
      obtain ⟨hP1, hK1, hD1⟩ := hB
      rw [ht] at hP1
      try dsimp only at hw
      obtain ⟨hP, hD⟩ := va_join (wr := []) (w1 := [(aZ, .inr (15, s131))]) hP hD [0] [] rfl rfl (by decide) (by decide) hk1 hFc hP1 hD1
      have hK := hK.sub (tys' := []) [] rfl
      generalize H1 = H at hP hS ⊢
      have hP : va_P (dC, dI) vwCl [(aZ, .inr (15, s131))] H := hP
      have hD : va_D A [(aZ, .inr (15, s131))] := hD
      rcases hw with ⟨c132, er133, o_s131⟩ | ⟨c134, c135, er136, o_s131⟩
      · exact (by exfalso; (try simp only [i_lt, i_le, i_eq, kc_0] at c108 c109 c132); omega)
      · skip
        subst er136
        have o_s131 := ow_on o_fsZ o_s131 (l' := [(0, .int 1), (26, .int 0), (26, .int 0)]) (w' := [0]) rfl rfl
        refine lv_istore (lv' := [(6, .int 0), (5, .int 1), (0, .ref b), (1, .ref aX), (2, .ref aZ), (3, .ref qO), (4, .int 0)]) hx hb dL_law_1347 hl (by decide) rfl (fun ls hl => ?_)
        refine lv_aload_n hx hb dL_law_1349 rfl (lv_at hl 4 rfl) ?_
        have hPc := hP.sub (ws' := [(aZ, .inr (15, s131))]) [0] rfl
        have hDc := hD.sub (ws' := [(aZ, .inr (15, s131))]) [0] (by decide) rfl
        have hKc := hK.sub (tys' := []) [] rfl
        have hFc := va_free (wc := [(aZ, .inr (15, s131))]) hD hS hA [0] rfl
        refine va_calli (va_runV (As := []) (rest := []) ⟨hx, hb, hml, hown, hts⟩ (z_X12_thrown l dC dI H.size aZ s131 (fh_sub o_s131.2 [0] rfl) ) (cwV 0 hts g_lk_19_z_X12_thrown_149 rfl rfl rfl (by decide +kernel) ⟨Nat.le_of_ble_eq_true rfl, Nat.le_of_ble_eq_true rfl⟩) ⟨fun a U g mk q => by obtain ⟨q0, q1, qP, qK, qD⟩ := q; exact ⟨q0, q1, qP, va_K.moved (u := U) (U := U.calling g mk a) (Vm.Alike.refl U.vm) qK, qD⟩, va_recv hK hP (ci := 15) (q0 := 0) rfl rfl, fun U hU hW => ⟨rfl, by rw [hU], by rw [hU]; exact hPc, va_K.moved hW.alike hKc, hDc.weaken (fun _ _ _ _ => trivial)⟩⟩ rfl rfl hl.1 rfl (lv_room (Nat.le_of_ble_eq_true rfl)) dL_law_1350 ⟨Nat.le_of_ble_eq_true rfl, Nat.le_of_ble_eq_true rfl⟩) hS (fun q _ h => hFc q h) hFc (fun r137 u t H1 locs ht hvm hw hB hz1 hk1 hS => ?_)
        obtain ⟨hP1, hK1, hD1⟩ := hB
        rw [ht] at hP1
        try dsimp only at hw
        obtain ⟨hP, hD⟩ := va_join (wr := []) (w1 := [(aZ, .inr (15, s131))]) hP hD [0] [] rfl rfl (by decide) (by decide) hk1 hFc hP1 hD1
        have hK := hK.sub (tys' := []) [] rfl
        generalize H1 = H at hP hS ⊢
        have hP : va_P (dC, dI) vwCl [(aZ, .inr (15, s131))] H := hP
        have hD : va_D A [(aZ, .inr (15, s131))] := hD
        have er138 := hw
        subst er138
        refine lv_iload hx hb dL_law_1353 (lv_at hl 1 rfl) ?_
        refine lv_icmp_eq (tgt := 1360) hx hb dL_law_1355 (by decide) (fun c139 => ?_) (fun c139 => absurd c139 (by decide))
        refine lv_iload hx hb dL_law_1360 (lv_at hl 1 rfl) ?_
        refine lv_if_ne (tgt := 1377) hx hb dL_law_1362 (by decide) (fun c140 => ?_) (fun c140 => absurd c140 (by decide))
        refine lv_goto (tgt := 3111) hx hb dL_law_1377 (by decide) ?_
        exact lw_end hst C0 hA hAf hZ hY (Nat.le_of_ble_eq_true rfl) (Nat.le_of_ble_eq_true rfl) dC dI P0k P0 D0 hS ls (lv_sub hl [2, 6] rfl)

set_option maxRecDepth 20000 in
theorem g_lk_20_z_X11_apart_204 : GoodIn lwW (wsV RL 204 RX11 yX11_apart w_z_X11_apart) := goodIn_app (goodIn_sub (ws := ([.methodLink RL 204 yX11_apart, .instanceMethod yX11_apart, .selects RX11 yX11_apart yX11_apart, .initialized RX11] : List Cond)) (gm_c (gm_at lwV_33_in 7 rfl) (gm_c (gm_at lwV_33_in 8 rfl) (gm_c (gm_at lwV_33_in 9 rfl) (gm_c (gm_at lwV_0_in 3 rfl) gm_nil)))) (by decide +kernel)) (goodIn_ca (goodIn_sub (ws := .code yX11_apart cX11_apart 3 (some .boolean) :: l_z_X11_apart) (gm_c (gm_at lwV_34_in 1 rfl) (gm_c (gm_at lwV_7_in 7 rfl) (gm_c (gm_at lwV_7_in 8 rfl) (gm_c (gm_at lwV_7_in 9 rfl) (gm_c (gm_at lwV_7_in 10 rfl) (gm_c (gm_at lwV_7_in 11 rfl) (gm_c (gm_at lwV_8_in 9 rfl) (gm_c (gm_at lwV_8_in 10 rfl) gm_nil)))))))) (by decide +kernel)) (goodIn_app (goodIn_in il_X11 gd_X11) (goodIn_in il_X10 gd_X10)))
set_option maxRecDepth 20000 in
theorem g_lk_20_z_X12_apart_208 : GoodIn lwW (wsV RL 208 RX12 yX12_apart w_z_X12_apart) := goodIn_app (goodIn_sub (ws := ([.methodLink RL 208 yX12_apart, .instanceMethod yX12_apart, .selects RX12 yX12_apart yX12_apart, .initialized RX12] : List Cond)) (gm_c (gm_at lwV_33_in 10 rfl) (gm_c (gm_at lwV_33_in 11 rfl) (gm_c (gm_at lwV_34_in 0 rfl) (gm_c (gm_at lwV_0_in 7 rfl) gm_nil)))) (by decide +kernel)) (goodIn_ca (goodIn_sub (ws := .code yX12_apart cX12_apart 3 (some .boolean) :: l_z_X12_apart) (gm_c (gm_at lwV_34_in 2 rfl) (gm_c (gm_at lwV_1_in 5 rfl) (gm_c (gm_at lwV_9_in 3 rfl) (gm_c (gm_at lwV_9_in 4 rfl) (gm_c (gm_at lwV_9_in 5 rfl) (gm_c (gm_at lwV_0_in 7 rfl) (gm_c (gm_at lwV_9_in 7 rfl) (gm_c (gm_at lwV_9_in 8 rfl) gm_nil)))))))) (by decide +kernel)) (goodIn_in il_X12 gd_X12))
set_option maxRecDepth 20000 in
theorem g_lk_20_z_X11_apart_1_204 : GoodIn lwW (wsV RL 204 RX11 yX11_apart w_z_X11_apart_1) := goodIn_app (goodIn_sub (ws := ([.methodLink RL 204 yX11_apart, .instanceMethod yX11_apart, .selects RX11 yX11_apart yX11_apart, .initialized RX11] : List Cond)) (gm_c (gm_at lwV_33_in 7 rfl) (gm_c (gm_at lwV_33_in 8 rfl) (gm_c (gm_at lwV_33_in 9 rfl) (gm_c (gm_at lwV_0_in 3 rfl) gm_nil)))) (by decide +kernel)) (goodIn_ca (goodIn_sub (ws := .code yX11_apart cX11_apart 3 (some .boolean) :: l_z_X11_apart_1) (gm_c (gm_at lwV_34_in 1 rfl) (gm_c (gm_at lwV_7_in 7 rfl) (gm_c (gm_at lwV_7_in 8 rfl) (gm_c (gm_at lwV_7_in 9 rfl) (gm_c (gm_at lwV_7_in 10 rfl) (gm_c (gm_at lwV_7_in 11 rfl) (gm_c (gm_at lwV_8_in 9 rfl) (gm_c (gm_at lwV_8_in 10 rfl) gm_nil)))))))) (by decide +kernel)) (goodIn_app (goodIn_in il_X11 gd_X11) (goodIn_in il_X10 gd_X10)))
set_option maxRecDepth 20000 in
theorem g_lk_20_z_X12_apart_1_208 : GoodIn lwW (wsV RL 208 RX12 yX12_apart w_z_X12_apart_1) := goodIn_app (goodIn_sub (ws := ([.methodLink RL 208 yX12_apart, .instanceMethod yX12_apart, .selects RX12 yX12_apart yX12_apart, .initialized RX12] : List Cond)) (gm_c (gm_at lwV_33_in 10 rfl) (gm_c (gm_at lwV_33_in 11 rfl) (gm_c (gm_at lwV_34_in 0 rfl) (gm_c (gm_at lwV_0_in 7 rfl) gm_nil)))) (by decide +kernel)) (goodIn_ca (goodIn_sub (ws := .code yX12_apart cX12_apart 3 (some .boolean) :: l_z_X12_apart_1) (gm_c (gm_at lwV_34_in 2 rfl) (gm_c (gm_at lwV_1_in 5 rfl) (gm_c (gm_at lwV_9_in 3 rfl) (gm_c (gm_at lwV_9_in 4 rfl) (gm_c (gm_at lwV_9_in 5 rfl) (gm_c (gm_at lwV_0_in 7 rfl) (gm_c (gm_at lwV_9_in 7 rfl) (gm_c (gm_at lwV_9_in 8 rfl) gm_nil)))))))) (by decide +kernel)) (goodIn_in il_X12 gd_X12))
set_option maxHeartbeats 4000000 in
set_option maxRecDepth 100000 in
/-- the law, one call: apart -/
theorem lk_20 {p : Program} {l : Launch} {e : Env} {s : State} {m : MethodId} {below : List Frame} {meth : Method} {c : Code} {b : Nat} {xs : Nat → Int32} (hst : l.stackTraces = false) (C0 : lw_At p s m meth c b 6 xs) {A : Nat → Prop} (hA : ∀ q : Nat, s.heap.size ≤ q → A q) (hAf : ∀ q : Nat, A q → s.heap.size ≤ q) (hZ : Zz A s) (hY : Yy s) (dC : Nat → ClassId) (dI : Nat → Nat → Nat) (aX : Nat) (fsX : List Value) (aY : Nat) (fsY : List Value) (aZ : Nat) (fsZ : List Value) (qO : Nat) (w1 : Int32) (hw1 : w1 = xs (1 : Int32).toNatClampNeg) (w2 : Int32) (hw2 : w2 = xs (2 : Int32).toNatClampNeg) (w3 : Int32) (hw3 : w3 = xs (3 : Int32).toNatClampNeg) (w4 : Int32) (hw4 : w4 = xs (4 : Int32).toNatClampNeg) (w5 : Int32) (hw5 : w5 = xs (5 : Int32).toNatClampNeg) (k_fsX : fh fsX 18 [(1, .ref aY)]) (k_fsY : fh fsY 18 [(0, .int 0)]) (k_fsZ : fh fsZ 150 [(20, .int 0)])  {H : Heap} {locs : List Loc} (hK : va_K (dC, dI) vwCl [] s) (hP : va_P (dC, dI) vwCl [(aX, .inr (14, fsX)), (aY, .inr (13, fsY)), (aZ, .inr (15, fsZ))] H) (hD : va_D A [(aX, .inr (14, fsX)), (aY, .inr (13, fsY)), (aZ, .inr (15, fsZ))]) (hS : va_S A s.heap H locs) (ls : Array Slot) (hl : lv_has ls 8 [(0, .ref b), (1, .ref aX), (2, .ref aZ), (3, .ref qO), (4, .int 0)]) : W p l e room_1 s m #[Value.ref b] below meth c H locs 390 571359 (lw_Z below #[Value.ref b] s) (F0 m 1380 ls []) := by
  obtain ⟨hx, hb, hr, hml, hown0, hts0, hX, hbl, hlocks, hgv⟩ := id C0
  have hown : s.vm.findClass RL = some m.cls := hown0
  have hts : ∀ w ∈ lwW, w.before #[Value.ref b] s = true := fun w h => hts0 w (lwW_in w h)
  have hbA : ¬ A b := fun h => absurd (hAf b h) (Nat.not_le.mpr hbl)
  have o_fsX := ow_0 k_fsX
  have o_fsY := ow_0 k_fsY
  have o_fsZ := ow_0 k_fsZ
  refine lv_aload_n hx hb dL_law_1380 rfl (lv_at hl 1 rfl) ?_
  refine lv_aload_n hx hb dL_law_1381 rfl (lv_at hl 0 rfl) ?_
  refine lv_iload hx hb dL_law_1382 (lv_at hl 4 rfl) ?_
  refine lv_iconst (v := 1) hx hb dL_law_1384 (by decide) ?_
  refine lv_iadd hx hb dL_law_1385  ?_
  refine lv_topi (fun x101 ex101 => ?_)
  obtain rfl : x101 = 1 := ex101.trans (by decide)
  refine va_sld hx hb hX hbl hbA hS (show vp_in 1 6 from by unfold vp_in; decide) dL_law_1386 ?_
  refine lv_topi (fun x102 ex102 => ?_)
  obtain rfl : w1 = x102 := hw1.trans ex102.symm
  refine lv_aload_n hx hb dL_law_1387 rfl (lv_at hl 0 rfl) ?_
  refine lv_iload hx hb dL_law_1388 (lv_at hl 4 rfl) ?_
  refine lv_iconst (v := 2) hx hb dL_law_1390 (by decide) ?_
  refine lv_iadd hx hb dL_law_1391  ?_
  refine lv_topi (fun x103 ex103 => ?_)
  obtain rfl : x103 = 2 := ex103.trans (by decide)
  refine va_sld hx hb hX hbl hbA hS (show vp_in 2 6 from by unfold vp_in; decide) dL_law_1392 ?_
  refine lv_topi (fun x104 ex104 => ?_)
  obtain rfl : w2 = x104 := hw2.trans ex104.symm
  refine lv_if_eq (tgt := 1400) hx hb dL_law_1393 (by decide) (fun c105 => ?_) (fun c105 => ?_)
  · skip
    refine lv_iconst (v := 0) hx hb dL_law_1400 (by decide) ?_
    have hPc := hP.sub (ws' := [(aX, .inr (14, fsX)), (aY, .inr (13, fsY))]) [0, 1] rfl
    have hDc := hD.sub (ws' := [(aX, .inr (14, fsX)), (aY, .inr (13, fsY))]) [0, 1] (by decide) rfl
    have hKc := hK.sub (tys' := []) [] rfl
    have hFc := va_free (wc := [(aX, .inr (14, fsX)), (aY, .inr (13, fsY))]) hD hS hA [0, 1] rfl
    refine va_calli (va_runV (As := [.int w1, .int 0]) (rest := []) ⟨hx, hb, hml, hown, hts⟩ (z_X11_apart l dC dI H.size aX fsX aY fsY w1 (fh_sub o_fsX.2 [0] rfl) (fh_sub o_fsY.2 [0] rfl) ) (cwV 2 hts g_lk_20_z_X11_apart_204 rfl rfl rfl (by decide +kernel) ⟨Nat.le_of_ble_eq_true rfl, Nat.le_of_ble_eq_true rfl⟩) ⟨fun a U g mk q => by obtain ⟨q0, q1, qP, qK, qD⟩ := q; exact ⟨q0, q1, qP, va_K.moved (u := U) (U := U.calling g mk a) (Vm.Alike.refl U.vm) qK, qD⟩, va_recv hK hP (ci := 14) (q0 := 0) rfl rfl, fun U hU hW => ⟨rfl, by rw [hU], by rw [hU]; exact hPc, va_K.moved hW.alike hKc, hDc.weaken (fun _ _ _ _ => trivial)⟩⟩ rfl rfl hl.1 rfl (lv_room (Nat.le_of_ble_eq_true rfl)) dL_law_1401 ⟨Nat.le_of_ble_eq_true rfl, Nat.le_of_ble_eq_true rfl⟩) hS (fun q _ h => hFc q h) hFc (fun r106 u t H1 locs ht hvm hw hB hz1 hk1 hS => ?_)
    obtain ⟨hP1, hK1, hD1⟩ := hB
    rw [ht] at hP1
    try dsimp only at hw
    obtain ⟨hP, hD⟩ := va_join (wr := [(aZ, .inr (15, fsZ))]) (w1 := [(aX, .inr (14, fsX)), (aY, .inr (13, fsY))]) hP hD [0, 1] [2] rfl rfl (by decide) (by decide) hk1 hFc hP1 hD1
    have hK := hK.sub (tys' := []) [] rfl
    generalize H1 = H at hP hS ⊢
    have hP : va_P (dC, dI) vwCl [(aZ, .inr (15, fsZ)), (aX, .inr (14, fsX)), (aY, .inr (13, fsY))] H := hP
    have hD : va_D A [(aZ, .inr (15, fsZ)), (aX, .inr (14, fsX)), (aY, .inr (13, fsY))] := hD
    rcases hw with ⟨c107, er108⟩ | ⟨c109, c110, er111⟩
    · skip
      subst er108
      refine lv_aload_n hx hb dL_law_1404 rfl (lv_at hl 2 rfl) ?_
      refine lv_aload_n hx hb dL_law_1405 rfl (lv_at hl 0 rfl) ?_
      refine lv_iload hx hb dL_law_1406 (lv_at hl 4 rfl) ?_
      refine lv_iconst (v := 1) hx hb dL_law_1408 (by decide) ?_
      refine lv_iadd hx hb dL_law_1409  ?_
      refine lv_topi (fun x112 ex112 => ?_)
      obtain rfl : x112 = 1 := ex112.trans (by decide)
      refine va_sld hx hb hX hbl hbA hS (show vp_in 1 6 from by unfold vp_in; decide) dL_law_1410 ?_
      refine lv_topi (fun x113 ex113 => ?_)
      obtain rfl : w1 = x113 := hw1.trans ex113.symm
      refine lv_aload_n hx hb dL_law_1411 rfl (lv_at hl 0 rfl) ?_
      refine lv_iload hx hb dL_law_1412 (lv_at hl 4 rfl) ?_
      refine lv_iconst (v := 2) hx hb dL_law_1414 (by decide) ?_
      refine lv_iadd hx hb dL_law_1415  ?_
      refine lv_topi (fun x114 ex114 => ?_)
      obtain rfl : x114 = 2 := ex114.trans (by decide)
      refine va_sld hx hb hX hbl hbA hS (show vp_in 2 6 from by unfold vp_in; decide) dL_law_1416 ?_
      refine lv_topi (fun x115 ex115 => ?_)
      obtain rfl : w2 = x115 := hw2.trans ex115.symm
      refine lv_if_eq (tgt := 1424) hx hb dL_law_1417 (by decide) (fun c116 => ?_) (fun c116 => (by exfalso; have bd_w2 := i_bd w2; (try simp only [i_lt, i_le, i_eq, kc_0] at c105 c116); omega))
      refine lv_iconst (v := 0) hx hb dL_law_1424 (by decide) ?_
      have hPc := hP.sub (ws' := [(aZ, .inr (15, fsZ))]) [0] rfl
      have hDc := hD.sub (ws' := [(aZ, .inr (15, fsZ))]) [0] (by decide) rfl
      have hKc := hK.sub (tys' := []) [] rfl
      have hFc := va_free (wc := [(aZ, .inr (15, fsZ))]) hD hS hA [0] rfl
      refine va_calli (va_runV (As := [.int w1, .int 0]) (rest := [.int 0]) ⟨hx, hb, hml, hown, hts⟩ (z_X12_apart l dC dI H.size aZ fsZ w1 (fh_sub o_fsZ.2 [0] rfl) ) (cwV 2 hts g_lk_20_z_X12_apart_208 rfl rfl rfl (by decide +kernel) ⟨Nat.le_of_ble_eq_true rfl, Nat.le_of_ble_eq_true rfl⟩) ⟨fun a U g mk q => by obtain ⟨q0, q1, qP, qK, qD⟩ := q; exact ⟨q0, q1, qP, va_K.moved (u := U) (U := U.calling g mk a) (Vm.Alike.refl U.vm) qK, qD⟩, va_recv hK hP (ci := 15) (q0 := 0) rfl rfl, fun U hU hW => ⟨rfl, by rw [hU], by rw [hU]; exact hPc, va_K.moved hW.alike hKc, hDc.weaken (fun _ _ _ _ => trivial)⟩⟩ rfl rfl hl.1 rfl (lv_room (Nat.le_of_ble_eq_true rfl)) dL_law_1425 ⟨Nat.le_of_ble_eq_true rfl, Nat.le_of_ble_eq_true rfl⟩) hS (fun q _ h => hFc q h) hFc (fun r117 u t H1 locs ht hvm hw hB hz1 hk1 hS => ?_)
      obtain ⟨s118, rfl⟩ : ∃ z, z = u := ⟨_, rfl⟩
      obtain ⟨hP1, hK1, hD1⟩ := hB
      rw [ht] at hP1
      try dsimp only at hw
      obtain ⟨hP, hD⟩ := va_join (wr := [(aX, .inr (14, fsX)), (aY, .inr (13, fsY))]) (w1 := [(aZ, .inr (15, s118))]) hP hD [0] [1, 2] rfl rfl (by decide) (by decide) hk1 hFc hP1 hD1
      have hK := hK.sub (tys' := []) [] rfl
      generalize H1 = H at hP hS ⊢
      have hP : va_P (dC, dI) vwCl [(aX, .inr (14, fsX)), (aY, .inr (13, fsY)), (aZ, .inr (15, s118))] H := hP
      have hD : va_D A [(aX, .inr (14, fsX)), (aY, .inr (13, fsY)), (aZ, .inr (15, s118))] := hD
      rcases hw with ⟨c119, er120, o_s118⟩ | ⟨c121, c122, er123, o_s118⟩
      · skip
        subst er120
        have o_s118 := ow_on o_fsZ o_s118 (l' := [(0, .int 0), (20, .int 0), (20, .int 0)]) (w' := [0]) rfl rfl
        refine lv_icmp_eq (tgt := 3111) hx hb dL_law_1428 (by decide) (fun c124 => ?_) (fun c124 => absurd c124 (by decide))
        exact lw_end hst C0 hA hAf hZ hY (Nat.le_of_ble_eq_true rfl) (Nat.le_of_ble_eq_true rfl) dC dI P0k P0 D0 hS ls (lv_sub hl [0, 4] rfl)
      · exact (by exfalso; (try simp only [i_lt, i_le, i_eq, kc_0] at c107 c121 c122); omega)
    · skip
      subst er111
      refine lv_aload_n hx hb dL_law_1404 rfl (lv_at hl 2 rfl) ?_
      refine lv_aload_n hx hb dL_law_1405 rfl (lv_at hl 0 rfl) ?_
      refine lv_iload hx hb dL_law_1406 (lv_at hl 4 rfl) ?_
      refine lv_iconst (v := 1) hx hb dL_law_1408 (by decide) ?_
      refine lv_iadd hx hb dL_law_1409  ?_
      refine lv_topi (fun x125 ex125 => ?_)
      obtain rfl : x125 = 1 := ex125.trans (by decide)
      refine va_sld hx hb hX hbl hbA hS (show vp_in 1 6 from by unfold vp_in; decide) dL_law_1410 ?_
      refine lv_topi (fun x126 ex126 => ?_)
      obtain rfl : w1 = x126 := hw1.trans ex126.symm
      refine lv_aload_n hx hb dL_law_1411 rfl (lv_at hl 0 rfl) ?_
      refine lv_iload hx hb dL_law_1412 (lv_at hl 4 rfl) ?_
      refine lv_iconst (v := 2) hx hb dL_law_1414 (by decide) ?_
      refine lv_iadd hx hb dL_law_1415  ?_
      refine lv_topi (fun x127 ex127 => ?_)
      obtain rfl : x127 = 2 := ex127.trans (by decide)
      refine va_sld hx hb hX hbl hbA hS (show vp_in 2 6 from by unfold vp_in; decide) dL_law_1416 ?_
      refine lv_topi (fun x128 ex128 => ?_)
      obtain rfl : w2 = x128 := hw2.trans ex128.symm
      refine lv_if_eq (tgt := 1424) hx hb dL_law_1417 (by decide) (fun c129 => ?_) (fun c129 => (by exfalso; have bd_w2 := i_bd w2; (try simp only [i_lt, i_le, i_eq, kc_0] at c105 c129); omega))
      refine lv_iconst (v := 0) hx hb dL_law_1424 (by decide) ?_
      have hPc := hP.sub (ws' := [(aZ, .inr (15, fsZ))]) [0] rfl
      have hDc := hD.sub (ws' := [(aZ, .inr (15, fsZ))]) [0] (by decide) rfl
      have hKc := hK.sub (tys' := []) [] rfl
      have hFc := va_free (wc := [(aZ, .inr (15, fsZ))]) hD hS hA [0] rfl
      refine va_calli (va_runV (As := [.int w1, .int 0]) (rest := [.int 0]) ⟨hx, hb, hml, hown, hts⟩ (z_X12_apart l dC dI H.size aZ fsZ w1 (fh_sub o_fsZ.2 [0] rfl) ) (cwV 2 hts g_lk_20_z_X12_apart_208 rfl rfl rfl (by decide +kernel) ⟨Nat.le_of_ble_eq_true rfl, Nat.le_of_ble_eq_true rfl⟩) ⟨fun a U g mk q => by obtain ⟨q0, q1, qP, qK, qD⟩ := q; exact ⟨q0, q1, qP, va_K.moved (u := U) (U := U.calling g mk a) (Vm.Alike.refl U.vm) qK, qD⟩, va_recv hK hP (ci := 15) (q0 := 0) rfl rfl, fun U hU hW => ⟨rfl, by rw [hU], by rw [hU]; exact hPc, va_K.moved hW.alike hKc, hDc.weaken (fun _ _ _ _ => trivial)⟩⟩ rfl rfl hl.1 rfl (lv_room (Nat.le_of_ble_eq_true rfl)) dL_law_1425 ⟨Nat.le_of_ble_eq_true rfl, Nat.le_of_ble_eq_true rfl⟩) hS (fun q _ h => hFc q h) hFc (fun r130 u t H1 locs ht hvm hw hB hz1 hk1 hS => ?_)
      obtain ⟨s131, rfl⟩ : ∃ z, z = u := ⟨_, rfl⟩
      obtain ⟨hP1, hK1, hD1⟩ := hB
      rw [ht] at hP1
      try dsimp only at hw
      obtain ⟨hP, hD⟩ := va_join (wr := [(aX, .inr (14, fsX)), (aY, .inr (13, fsY))]) (w1 := [(aZ, .inr (15, s131))]) hP hD [0] [1, 2] rfl rfl (by decide) (by decide) hk1 hFc hP1 hD1
      have hK := hK.sub (tys' := []) [] rfl
      generalize H1 = H at hP hS ⊢
      have hP : va_P (dC, dI) vwCl [(aX, .inr (14, fsX)), (aY, .inr (13, fsY)), (aZ, .inr (15, s131))] H := hP
      have hD : va_D A [(aX, .inr (14, fsX)), (aY, .inr (13, fsY)), (aZ, .inr (15, s131))] := hD
      rcases hw with ⟨c132, er133, o_s131⟩ | ⟨c134, c135, er136, o_s131⟩
      · exact (by exfalso; (try simp only [i_lt, i_le, i_eq, kc_0] at c109 c110 c132); omega)
      · skip
        subst er136
        have o_s131 := ow_on o_fsZ o_s131 (l' := [(0, .int 0), (20, .int 0), (20, .int 0)]) (w' := [0]) rfl rfl
        refine lv_icmp_eq (tgt := 3111) hx hb dL_law_1428 (by decide) (fun c137 => ?_) (fun c137 => absurd c137 (by decide))
        exact lw_end hst C0 hA hAf hZ hY (Nat.le_of_ble_eq_true rfl) (Nat.le_of_ble_eq_true rfl) dC dI P0k P0 D0 hS ls (lv_sub hl [0, 4] rfl)
  · skip
    refine lv_iconst (v := 1) hx hb dL_law_1396 (by decide) ?_
    refine lv_goto (tgt := 1401) hx hb dL_law_1397 (by decide) ?_
    have hPc := hP.sub (ws' := [(aX, .inr (14, fsX)), (aY, .inr (13, fsY))]) [0, 1] rfl
    have hDc := hD.sub (ws' := [(aX, .inr (14, fsX)), (aY, .inr (13, fsY))]) [0, 1] (by decide) rfl
    have hKc := hK.sub (tys' := []) [] rfl
    have hFc := va_free (wc := [(aX, .inr (14, fsX)), (aY, .inr (13, fsY))]) hD hS hA [0, 1] rfl
    refine va_calli (va_runV (As := [.int w1, .int 1]) (rest := []) ⟨hx, hb, hml, hown, hts⟩ (z_X11_apart_1 l dC dI H.size aX fsX aY fsY w1 (fh_sub o_fsX.2 [0] rfl) (fh_sub o_fsY.2 [0] rfl) ) (cwV 2 hts g_lk_20_z_X11_apart_1_204 rfl rfl rfl (by decide +kernel) ⟨Nat.le_of_ble_eq_true rfl, Nat.le_of_ble_eq_true rfl⟩) ⟨fun a U g mk q => by obtain ⟨q0, q1, qP, qK, qD⟩ := q; exact ⟨q0, q1, qP, va_K.moved (u := U) (U := U.calling g mk a) (Vm.Alike.refl U.vm) qK, qD⟩, va_recv hK hP (ci := 14) (q0 := 0) rfl rfl, fun U hU hW => ⟨rfl, by rw [hU], by rw [hU]; exact hPc, va_K.moved hW.alike hKc, hDc.weaken (fun _ _ _ _ => trivial)⟩⟩ rfl rfl hl.1 rfl (lv_room (Nat.le_of_ble_eq_true rfl)) dL_law_1401 ⟨Nat.le_of_ble_eq_true rfl, Nat.le_of_ble_eq_true rfl⟩) hS (fun q _ h => hFc q h) hFc (fun r138 u t H1 locs ht hvm hw hB hz1 hk1 hS => ?_)
    obtain ⟨hP1, hK1, hD1⟩ := hB
    rw [ht] at hP1
    try dsimp only at hw
    obtain ⟨hP, hD⟩ := va_join (wr := [(aZ, .inr (15, fsZ))]) (w1 := [(aX, .inr (14, fsX)), (aY, .inr (13, fsY))]) hP hD [0, 1] [2] rfl rfl (by decide) (by decide) hk1 hFc hP1 hD1
    have hK := hK.sub (tys' := []) [] rfl
    generalize H1 = H at hP hS ⊢
    have hP : va_P (dC, dI) vwCl [(aZ, .inr (15, fsZ)), (aX, .inr (14, fsX)), (aY, .inr (13, fsY))] H := hP
    have hD : va_D A [(aZ, .inr (15, fsZ)), (aX, .inr (14, fsX)), (aY, .inr (13, fsY))] := hD
    rcases hw with ⟨c139, er140⟩ | ⟨c141, c142, er143⟩
    · skip
      subst er140
      refine lv_aload_n hx hb dL_law_1404 rfl (lv_at hl 2 rfl) ?_
      refine lv_aload_n hx hb dL_law_1405 rfl (lv_at hl 0 rfl) ?_
      refine lv_iload hx hb dL_law_1406 (lv_at hl 4 rfl) ?_
      refine lv_iconst (v := 1) hx hb dL_law_1408 (by decide) ?_
      refine lv_iadd hx hb dL_law_1409  ?_
      refine lv_topi (fun x144 ex144 => ?_)
      obtain rfl : x144 = 1 := ex144.trans (by decide)
      refine va_sld hx hb hX hbl hbA hS (show vp_in 1 6 from by unfold vp_in; decide) dL_law_1410 ?_
      refine lv_topi (fun x145 ex145 => ?_)
      obtain rfl : w1 = x145 := hw1.trans ex145.symm
      refine lv_aload_n hx hb dL_law_1411 rfl (lv_at hl 0 rfl) ?_
      refine lv_iload hx hb dL_law_1412 (lv_at hl 4 rfl) ?_
      refine lv_iconst (v := 2) hx hb dL_law_1414 (by decide) ?_
      refine lv_iadd hx hb dL_law_1415  ?_
      refine lv_topi (fun x146 ex146 => ?_)
      obtain rfl : x146 = 2 := ex146.trans (by decide)
      refine va_sld hx hb hX hbl hbA hS (show vp_in 2 6 from by unfold vp_in; decide) dL_law_1416 ?_
      refine lv_topi (fun x147 ex147 => ?_)
      obtain rfl : w2 = x147 := hw2.trans ex147.symm
      refine lv_if_eq (tgt := 1424) hx hb dL_law_1417 (by decide) (fun c148 => ?_) (fun c148 => ?_)
      · skip
        refine lv_iconst (v := 0) hx hb dL_law_1424 (by decide) ?_
        have hPc := hP.sub (ws' := [(aZ, .inr (15, fsZ))]) [0] rfl
        have hDc := hD.sub (ws' := [(aZ, .inr (15, fsZ))]) [0] (by decide) rfl
        have hKc := hK.sub (tys' := []) [] rfl
        have hFc := va_free (wc := [(aZ, .inr (15, fsZ))]) hD hS hA [0] rfl
        refine va_calli (va_runV (As := [.int w1, .int 0]) (rest := [.int 0]) ⟨hx, hb, hml, hown, hts⟩ (z_X12_apart l dC dI H.size aZ fsZ w1 (fh_sub o_fsZ.2 [0] rfl) ) (cwV 2 hts g_lk_20_z_X12_apart_208 rfl rfl rfl (by decide +kernel) ⟨Nat.le_of_ble_eq_true rfl, Nat.le_of_ble_eq_true rfl⟩) ⟨fun a U g mk q => by obtain ⟨q0, q1, qP, qK, qD⟩ := q; exact ⟨q0, q1, qP, va_K.moved (u := U) (U := U.calling g mk a) (Vm.Alike.refl U.vm) qK, qD⟩, va_recv hK hP (ci := 15) (q0 := 0) rfl rfl, fun U hU hW => ⟨rfl, by rw [hU], by rw [hU]; exact hPc, va_K.moved hW.alike hKc, hDc.weaken (fun _ _ _ _ => trivial)⟩⟩ rfl rfl hl.1 rfl (lv_room (Nat.le_of_ble_eq_true rfl)) dL_law_1425 ⟨Nat.le_of_ble_eq_true rfl, Nat.le_of_ble_eq_true rfl⟩) hS (fun q _ h => hFc q h) hFc (fun r149 u t H1 locs ht hvm hw hB hz1 hk1 hS => ?_)
        obtain ⟨s150, rfl⟩ : ∃ z, z = u := ⟨_, rfl⟩
        obtain ⟨hP1, hK1, hD1⟩ := hB
        rw [ht] at hP1
        try dsimp only at hw
        obtain ⟨hP, hD⟩ := va_join (wr := [(aX, .inr (14, fsX)), (aY, .inr (13, fsY))]) (w1 := [(aZ, .inr (15, s150))]) hP hD [0] [1, 2] rfl rfl (by decide) (by decide) hk1 hFc hP1 hD1
        have hK := hK.sub (tys' := []) [] rfl
        generalize H1 = H at hP hS ⊢
        have hP : va_P (dC, dI) vwCl [(aX, .inr (14, fsX)), (aY, .inr (13, fsY)), (aZ, .inr (15, s150))] H := hP
        have hD : va_D A [(aX, .inr (14, fsX)), (aY, .inr (13, fsY)), (aZ, .inr (15, s150))] := hD
        rcases hw with ⟨c151, er152, o_s150⟩ | ⟨c153, c154, er155, o_s150⟩
        · skip
          subst er152
          have o_s150 := ow_on o_fsZ o_s150 (l' := [(0, .int 0), (20, .int 0), (20, .int 0)]) (w' := [0]) rfl rfl
          refine lv_icmp_eq (tgt := 3111) hx hb dL_law_1428 (by decide) (fun c156 => ?_) (fun c156 => absurd c156 (by decide))
          exact lw_end hst C0 hA hAf hZ hY (Nat.le_of_ble_eq_true rfl) (Nat.le_of_ble_eq_true rfl) dC dI P0k P0 D0 hS ls (lv_sub hl [0, 4] rfl)
        · exact (by exfalso; (try simp only [i_lt, i_le, i_eq, kc_0] at c139 c153 c154); omega)
      · skip
        refine lv_iconst (v := 1) hx hb dL_law_1420 (by decide) ?_
        refine lv_goto (tgt := 1425) hx hb dL_law_1421 (by decide) ?_
        have hPc := hP.sub (ws' := [(aZ, .inr (15, fsZ))]) [0] rfl
        have hDc := hD.sub (ws' := [(aZ, .inr (15, fsZ))]) [0] (by decide) rfl
        have hKc := hK.sub (tys' := []) [] rfl
        have hFc := va_free (wc := [(aZ, .inr (15, fsZ))]) hD hS hA [0] rfl
        refine va_calli (va_runV (As := [.int w1, .int 1]) (rest := [.int 0]) ⟨hx, hb, hml, hown, hts⟩ (z_X12_apart_1 l dC dI H.size aZ fsZ w1 (fh_sub o_fsZ.2 [0] rfl) ) (cwV 2 hts g_lk_20_z_X12_apart_1_208 rfl rfl rfl (by decide +kernel) ⟨Nat.le_of_ble_eq_true rfl, Nat.le_of_ble_eq_true rfl⟩) ⟨fun a U g mk q => by obtain ⟨q0, q1, qP, qK, qD⟩ := q; exact ⟨q0, q1, qP, va_K.moved (u := U) (U := U.calling g mk a) (Vm.Alike.refl U.vm) qK, qD⟩, va_recv hK hP (ci := 15) (q0 := 0) rfl rfl, fun U hU hW => ⟨rfl, by rw [hU], by rw [hU]; exact hPc, va_K.moved hW.alike hKc, hDc.weaken (fun _ _ _ _ => trivial)⟩⟩ rfl rfl hl.1 rfl (lv_room (Nat.le_of_ble_eq_true rfl)) dL_law_1425 ⟨Nat.le_of_ble_eq_true rfl, Nat.le_of_ble_eq_true rfl⟩) hS (fun q _ h => hFc q h) hFc (fun r157 u t H1 locs ht hvm hw hB hz1 hk1 hS => ?_)
        obtain ⟨s158, rfl⟩ : ∃ z, z = u := ⟨_, rfl⟩
        obtain ⟨hP1, hK1, hD1⟩ := hB
        rw [ht] at hP1
        try dsimp only at hw
        obtain ⟨hP, hD⟩ := va_join (wr := [(aX, .inr (14, fsX)), (aY, .inr (13, fsY))]) (w1 := [(aZ, .inr (15, s158))]) hP hD [0] [1, 2] rfl rfl (by decide) (by decide) hk1 hFc hP1 hD1
        have hK := hK.sub (tys' := []) [] rfl
        generalize H1 = H at hP hS ⊢
        have hP : va_P (dC, dI) vwCl [(aX, .inr (14, fsX)), (aY, .inr (13, fsY)), (aZ, .inr (15, s158))] H := hP
        have hD : va_D A [(aX, .inr (14, fsX)), (aY, .inr (13, fsY)), (aZ, .inr (15, s158))] := hD
        rcases hw with ⟨c159, er160, o_s158⟩ | ⟨c161, c162, er163, o_s158⟩
        · skip
          subst er160
          have o_s158 := ow_on o_fsZ o_s158 (l' := [(0, .int 0), (20, .int 0), (20, .int 0)]) (w' := [0]) rfl rfl
          refine lv_icmp_eq (tgt := 3111) hx hb dL_law_1428 (by decide) (fun c164 => ?_) (fun c164 => absurd c164 (by decide))
          exact lw_end hst C0 hA hAf hZ hY (Nat.le_of_ble_eq_true rfl) (Nat.le_of_ble_eq_true rfl) dC dI P0k P0 D0 hS ls (lv_sub hl [0, 4] rfl)
        · exact (by exfalso; (try simp only [i_lt, i_le, i_eq, kc_0] at c139 c161 c162); omega)
    · skip
      subst er143
      refine lv_aload_n hx hb dL_law_1404 rfl (lv_at hl 2 rfl) ?_
      refine lv_aload_n hx hb dL_law_1405 rfl (lv_at hl 0 rfl) ?_
      refine lv_iload hx hb dL_law_1406 (lv_at hl 4 rfl) ?_
      refine lv_iconst (v := 1) hx hb dL_law_1408 (by decide) ?_
      refine lv_iadd hx hb dL_law_1409  ?_
      refine lv_topi (fun x165 ex165 => ?_)
      obtain rfl : x165 = 1 := ex165.trans (by decide)
      refine va_sld hx hb hX hbl hbA hS (show vp_in 1 6 from by unfold vp_in; decide) dL_law_1410 ?_
      refine lv_topi (fun x166 ex166 => ?_)
      obtain rfl : w1 = x166 := hw1.trans ex166.symm
      refine lv_aload_n hx hb dL_law_1411 rfl (lv_at hl 0 rfl) ?_
      refine lv_iload hx hb dL_law_1412 (lv_at hl 4 rfl) ?_
      refine lv_iconst (v := 2) hx hb dL_law_1414 (by decide) ?_
      refine lv_iadd hx hb dL_law_1415  ?_
      refine lv_topi (fun x167 ex167 => ?_)
      obtain rfl : x167 = 2 := ex167.trans (by decide)
      refine va_sld hx hb hX hbl hbA hS (show vp_in 2 6 from by unfold vp_in; decide) dL_law_1416 ?_
      refine lv_topi (fun x168 ex168 => ?_)
      obtain rfl : w2 = x168 := hw2.trans ex168.symm
      refine lv_if_eq (tgt := 1424) hx hb dL_law_1417 (by decide) (fun c169 => ?_) (fun c169 => ?_)
      · skip
        refine lv_iconst (v := 0) hx hb dL_law_1424 (by decide) ?_
        have hPc := hP.sub (ws' := [(aZ, .inr (15, fsZ))]) [0] rfl
        have hDc := hD.sub (ws' := [(aZ, .inr (15, fsZ))]) [0] (by decide) rfl
        have hKc := hK.sub (tys' := []) [] rfl
        have hFc := va_free (wc := [(aZ, .inr (15, fsZ))]) hD hS hA [0] rfl
        refine va_calli (va_runV (As := [.int w1, .int 0]) (rest := [.int 0]) ⟨hx, hb, hml, hown, hts⟩ (z_X12_apart l dC dI H.size aZ fsZ w1 (fh_sub o_fsZ.2 [0] rfl) ) (cwV 2 hts g_lk_20_z_X12_apart_208 rfl rfl rfl (by decide +kernel) ⟨Nat.le_of_ble_eq_true rfl, Nat.le_of_ble_eq_true rfl⟩) ⟨fun a U g mk q => by obtain ⟨q0, q1, qP, qK, qD⟩ := q; exact ⟨q0, q1, qP, va_K.moved (u := U) (U := U.calling g mk a) (Vm.Alike.refl U.vm) qK, qD⟩, va_recv hK hP (ci := 15) (q0 := 0) rfl rfl, fun U hU hW => ⟨rfl, by rw [hU], by rw [hU]; exact hPc, va_K.moved hW.alike hKc, hDc.weaken (fun _ _ _ _ => trivial)⟩⟩ rfl rfl hl.1 rfl (lv_room (Nat.le_of_ble_eq_true rfl)) dL_law_1425 ⟨Nat.le_of_ble_eq_true rfl, Nat.le_of_ble_eq_true rfl⟩) hS (fun q _ h => hFc q h) hFc (fun r170 u t H1 locs ht hvm hw hB hz1 hk1 hS => ?_)
        obtain ⟨s171, rfl⟩ : ∃ z, z = u := ⟨_, rfl⟩
        obtain ⟨hP1, hK1, hD1⟩ := hB
        rw [ht] at hP1
        try dsimp only at hw
        obtain ⟨hP, hD⟩ := va_join (wr := [(aX, .inr (14, fsX)), (aY, .inr (13, fsY))]) (w1 := [(aZ, .inr (15, s171))]) hP hD [0] [1, 2] rfl rfl (by decide) (by decide) hk1 hFc hP1 hD1
        have hK := hK.sub (tys' := []) [] rfl
        generalize H1 = H at hP hS ⊢
        have hP : va_P (dC, dI) vwCl [(aX, .inr (14, fsX)), (aY, .inr (13, fsY)), (aZ, .inr (15, s171))] H := hP
        have hD : va_D A [(aX, .inr (14, fsX)), (aY, .inr (13, fsY)), (aZ, .inr (15, s171))] := hD
        rcases hw with ⟨c172, er173, o_s171⟩ | ⟨c174, c175, er176, o_s171⟩
        · exact (by exfalso; (try simp only [i_lt, i_le, i_eq, kc_0] at c141 c142 c172); omega)
        · skip
          subst er176
          have o_s171 := ow_on o_fsZ o_s171 (l' := [(0, .int 0), (20, .int 0), (20, .int 0)]) (w' := [0]) rfl rfl
          refine lv_icmp_eq (tgt := 3111) hx hb dL_law_1428 (by decide) (fun c177 => ?_) (fun c177 => absurd c177 (by decide))
          exact lw_end hst C0 hA hAf hZ hY (Nat.le_of_ble_eq_true rfl) (Nat.le_of_ble_eq_true rfl) dC dI P0k P0 D0 hS ls (lv_sub hl [0, 4] rfl)
      · skip
        refine lv_iconst (v := 1) hx hb dL_law_1420 (by decide) ?_
        refine lv_goto (tgt := 1425) hx hb dL_law_1421 (by decide) ?_
        have hPc := hP.sub (ws' := [(aZ, .inr (15, fsZ))]) [0] rfl
        have hDc := hD.sub (ws' := [(aZ, .inr (15, fsZ))]) [0] (by decide) rfl
        have hKc := hK.sub (tys' := []) [] rfl
        have hFc := va_free (wc := [(aZ, .inr (15, fsZ))]) hD hS hA [0] rfl
        refine va_calli (va_runV (As := [.int w1, .int 1]) (rest := [.int 0]) ⟨hx, hb, hml, hown, hts⟩ (z_X12_apart_1 l dC dI H.size aZ fsZ w1 (fh_sub o_fsZ.2 [0] rfl) ) (cwV 2 hts g_lk_20_z_X12_apart_1_208 rfl rfl rfl (by decide +kernel) ⟨Nat.le_of_ble_eq_true rfl, Nat.le_of_ble_eq_true rfl⟩) ⟨fun a U g mk q => by obtain ⟨q0, q1, qP, qK, qD⟩ := q; exact ⟨q0, q1, qP, va_K.moved (u := U) (U := U.calling g mk a) (Vm.Alike.refl U.vm) qK, qD⟩, va_recv hK hP (ci := 15) (q0 := 0) rfl rfl, fun U hU hW => ⟨rfl, by rw [hU], by rw [hU]; exact hPc, va_K.moved hW.alike hKc, hDc.weaken (fun _ _ _ _ => trivial)⟩⟩ rfl rfl hl.1 rfl (lv_room (Nat.le_of_ble_eq_true rfl)) dL_law_1425 ⟨Nat.le_of_ble_eq_true rfl, Nat.le_of_ble_eq_true rfl⟩) hS (fun q _ h => hFc q h) hFc (fun r178 u t H1 locs ht hvm hw hB hz1 hk1 hS => ?_)
        obtain ⟨s179, rfl⟩ : ∃ z, z = u := ⟨_, rfl⟩
        obtain ⟨hP1, hK1, hD1⟩ := hB
        rw [ht] at hP1
        try dsimp only at hw
        obtain ⟨hP, hD⟩ := va_join (wr := [(aX, .inr (14, fsX)), (aY, .inr (13, fsY))]) (w1 := [(aZ, .inr (15, s179))]) hP hD [0] [1, 2] rfl rfl (by decide) (by decide) hk1 hFc hP1 hD1
        have hK := hK.sub (tys' := []) [] rfl
        generalize H1 = H at hP hS ⊢
        have hP : va_P (dC, dI) vwCl [(aX, .inr (14, fsX)), (aY, .inr (13, fsY)), (aZ, .inr (15, s179))] H := hP
        have hD : va_D A [(aX, .inr (14, fsX)), (aY, .inr (13, fsY)), (aZ, .inr (15, s179))] := hD
        rcases hw with ⟨c180, er181, o_s179⟩ | ⟨c182, c183, er184, o_s179⟩
        · exact (by exfalso; (try simp only [i_lt, i_le, i_eq, kc_0] at c141 c142 c180); omega)
        · skip
          subst er184
          have o_s179 := ow_on o_fsZ o_s179 (l' := [(0, .int 0), (20, .int 0), (20, .int 0)]) (w' := [0]) rfl rfl
          refine lv_icmp_eq (tgt := 3111) hx hb dL_law_1428 (by decide) (fun c185 => ?_) (fun c185 => absurd c185 (by decide))
          exact lw_end hst C0 hA hAf hZ hY (Nat.le_of_ble_eq_true rfl) (Nat.le_of_ble_eq_true rfl) dC dI P0k P0 D0 hS ls (lv_sub hl [0, 4] rfl)

set_option maxRecDepth 20000 in
theorem g_lk_21_z_L_watch_209 : GoodIn lwW (va_wsS RL 209 yL_watch w_z_L_watch) := goodIn_app (goodIn_sub (ws := ([.methodLink RL 209 yL_watch, .static yL_watch, .initialized RL] : List Cond)) (gm_c (gm_at lwV_34_in 3 rfl) (gm_c (gm_at lwV_34_in 4 rfl) (gm_c (gm_at lwV_5_in 10 rfl) gm_nil))) (by decide +kernel)) (goodIn_ca (goodIn_sub (ws := .codeWith yL_watch cL_watch 6 (some .int) [(0, 12, 15, 30), (0, 12, 19, 15), (0, 12, 23, 17)] :: l_z_L_watch) (gm_c (gm_at lwV_34_in 8 rfl) (gm_c (gm_at lwV_34_in 9 rfl) (gm_c (gm_at lwV_34_in 10 rfl) (gm_c (gm_at lwV_34_in 11 rfl) (gm_c (gm_at lwV_0_in 3 rfl) (gm_c (gm_at lwV_19_in 11 rfl) (gm_c (gm_at lwV_35_in 0 rfl) (gm_c (gm_at lwV_7_in 7 rfl) (gm_c (gm_at lwV_12_in 0 rfl) (gm_c (gm_at lwV_12_in 1 rfl) (gm_c (gm_at lwV_12_in 2 rfl) (gm_c (gm_at lwV_7_in 11 rfl) (gm_c (gm_at lwV_20_in 4 rfl) (gm_c (gm_at lwV_20_in 5 rfl) (gm_c (gm_at lwV_12_in 3 rfl) (gm_c (gm_at lwV_12_in 4 rfl) (gm_c (gm_at lwV_7_in 9 rfl) (gm_c (gm_at lwV_7_in 10 rfl) (gm_c (gm_at lwV_8_in 9 rfl) (gm_c (gm_at lwV_8_in 10 rfl) gm_nil)))))))))))))))))))) (by decide +kernel)) (goodIn_app (goodIn_in il_X11 gd_X11) (goodIn_app (goodIn_in il_at0_X11_223 gd_at0_X11_223) (goodIn_in il_X10 gd_X10))))
set_option maxRecDepth 20000 in
theorem g_lk_21_z_X12_watch_212 : GoodIn lwW (wsV RL 212 RX12 yX12_watch w_z_X12_watch) := goodIn_app (goodIn_sub (ws := ([.methodLink RL 212 yX12_watch, .instanceMethod yX12_watch, .selects RX12 yX12_watch yX12_watch, .initialized RX12] : List Cond)) (gm_c (gm_at lwV_34_in 5 rfl) (gm_c (gm_at lwV_34_in 6 rfl) (gm_c (gm_at lwV_34_in 7 rfl) (gm_c (gm_at lwV_0_in 7 rfl) gm_nil)))) (by decide +kernel)) (goodIn_ca (goodIn_sub (ws := .code yX12_watch cX12_watch 4 (some .int) :: l_z_X12_watch) (gm_c (gm_at lwV_35_in 1 rfl) (gm_c (gm_at lwV_9_in 3 rfl) (gm_c (gm_at lwV_9_in 4 rfl) (gm_c (gm_at lwV_9_in 5 rfl) (gm_c (gm_at lwV_0_in 7 rfl) (gm_c (gm_at lwV_1_in 5 rfl) (gm_c (gm_at lwV_9_in 7 rfl) (gm_c (gm_at lwV_9_in 8 rfl) gm_nil)))))))) (by decide +kernel)) (goodIn_in il_X12 gd_X12))
set_option maxRecDepth 20000 in
theorem g_lk_21_z_X12_thrown_149 : GoodIn lwW (wsV RL 149 RX12 yX12_thrown w_z_X12_thrown) := goodIn_app (goodIn_sub (ws := ([.methodLink RL 149 yX12_thrown, .instanceMethod yX12_thrown, .selects RX12 yX12_thrown yX12_thrown, .initialized RX12] : List Cond)) (gm_c (gm_at lwV_6_in 2 rfl) (gm_c (gm_at lwV_6_in 3 rfl) (gm_c (gm_at lwV_6_in 4 rfl) (gm_c (gm_at lwV_0_in 7 rfl) gm_nil)))) (by decide +kernel)) (goodIn_ca (goodIn_sub (ws := .code yX12_thrown cX12_thrown 1 (some .int) :: l_z_X12_thrown) (gm_c (gm_at lwV_9_in 9 rfl) (gm_c (gm_at lwV_1_in 5 rfl) gm_nil)) (by decide +kernel)) (goodIn_in il_X12 gd_X12))
set_option maxHeartbeats 4000000 in
set_option maxRecDepth 100000 in
/-- the law, one call: watch -/
theorem lk_21 {p : Program} {l : Launch} {e : Env} {s : State} {m : MethodId} {below : List Frame} {meth : Method} {c : Code} {b : Nat} {xs : Nat → Int32} (hst : l.stackTraces = false) (C0 : lw_At p s m meth c b 6 xs) {A : Nat → Prop} (hA : ∀ q : Nat, s.heap.size ≤ q → A q) (hAf : ∀ q : Nat, A q → s.heap.size ≤ q) (hZ : Zz A s) (hY : Yy s) (dC : Nat → ClassId) (dI : Nat → Nat → Nat) (aX : Nat) (fsX : List Value) (aY : Nat) (fsY : List Value) (aZ : Nat) (fsZ : List Value) (qO : Nat) (w1 : Int32) (hw1 : w1 = xs (1 : Int32).toNatClampNeg) (w2 : Int32) (hw2 : w2 = xs (2 : Int32).toNatClampNeg) (w3 : Int32) (hw3 : w3 = xs (3 : Int32).toNatClampNeg) (w4 : Int32) (hw4 : w4 = xs (4 : Int32).toNatClampNeg) (w5 : Int32) (hw5 : w5 = xs (5 : Int32).toNatClampNeg) (k_fsX : fh fsX 18 [(1, .ref aY)]) (k_fsY : fh fsY 18 [(0, .int 0)]) (k_fsZ : fh fsZ 150 [(0, .int 0), (20, .int 0)])  {H : Heap} {locs : List Loc} (hK : va_K (dC, dI) vwCl [] s) (hP : va_P (dC, dI) vwCl [(aX, .inr (14, fsX)), (aY, .inr (13, fsY)), (aZ, .inr (15, fsZ))] H) (hD : va_D A [(aX, .inr (14, fsX)), (aY, .inr (13, fsY)), (aZ, .inr (15, fsZ))]) (hS : va_S A s.heap H locs) (ls : Array Slot) (hl : lv_has ls 8 [(0, .ref b), (1, .ref aX), (2, .ref aZ), (3, .ref qO), (4, .int 0)]) : W p l e room_1 s m #[Value.ref b] below meth c H locs 390 571359 (lw_Z below #[Value.ref b] s) (F0 m 1433 ls []) := by
  obtain ⟨hx, hb, hr, hml, hown0, hts0, hX, hbl, hlocks, hgv⟩ := id C0
  have hown : s.vm.findClass RL = some m.cls := hown0
  have hts : ∀ w ∈ lwW, w.before #[Value.ref b] s = true := fun w h => hts0 w (lwW_in w h)
  have hbA : ¬ A b := fun h => absurd (hAf b h) (Nat.not_le.mpr hbl)
  have o_fsX := ow_0 k_fsX
  have o_fsY := ow_0 k_fsY
  have o_fsZ := ow_0 k_fsZ
  refine lv_aload_n hx hb dL_law_1433 rfl (lv_at hl 1 rfl) ?_
  refine lv_aload_n hx hb dL_law_1434 rfl (lv_at hl 0 rfl) ?_
  refine lv_iload hx hb dL_law_1435 (lv_at hl 4 rfl) ?_
  refine lv_iconst (v := 1) hx hb dL_law_1437 (by decide) ?_
  refine lv_iadd hx hb dL_law_1438  ?_
  refine lv_topi (fun x101 ex101 => ?_)
  obtain rfl : x101 = 1 := ex101.trans (by decide)
  refine va_sld hx hb hX hbl hbA hS (show vp_in 1 6 from by unfold vp_in; decide) dL_law_1439 ?_
  refine lv_topi (fun x102 ex102 => ?_)
  obtain rfl : w1 = x102 := hw1.trans ex102.symm
  refine lv_aload_n hx hb dL_law_1440 rfl (lv_at hl 0 rfl) ?_
  refine lv_iload hx hb dL_law_1441 (lv_at hl 4 rfl) ?_
  refine lv_iconst (v := 2) hx hb dL_law_1443 (by decide) ?_
  refine lv_iadd hx hb dL_law_1444  ?_
  refine lv_topi (fun x103 ex103 => ?_)
  obtain rfl : x103 = 2 := ex103.trans (by decide)
  refine va_sld hx hb hX hbl hbA hS (show vp_in 2 6 from by unfold vp_in; decide) dL_law_1445 ?_
  refine lv_topi (fun x104 ex104 => ?_)
  obtain rfl : w2 = x104 := hw2.trans ex104.symm
  refine lv_aload_n hx hb dL_law_1446 rfl (lv_at hl 0 rfl) ?_
  refine lv_iload hx hb dL_law_1447 (lv_at hl 4 rfl) ?_
  refine lv_iconst (v := 3) hx hb dL_law_1449 (by decide) ?_
  refine lv_iadd hx hb dL_law_1450  ?_
  refine lv_topi (fun x105 ex105 => ?_)
  obtain rfl : x105 = 3 := ex105.trans (by decide)
  refine va_sld hx hb hX hbl hbA hS (show vp_in 3 6 from by unfold vp_in; decide) dL_law_1451 ?_
  refine lv_topi (fun x106 ex106 => ?_)
  obtain rfl : w3 = x106 := hw3.trans ex106.symm
  refine lv_aload_n hx hb dL_law_1452 rfl (lv_at hl 3 rfl) ?_
  have hPc := hP.sub (ws' := [(aX, .inr (14, fsX)), (aY, .inr (13, fsY))]) [0, 1] rfl
  have hDc := hD.sub (ws' := [(aX, .inr (14, fsX)), (aY, .inr (13, fsY))]) [0, 1] (by decide) rfl
  have hKc := hK.sub (tys' := []) [] rfl
  have hFc := va_free (wc := [(aX, .inr (14, fsX)), (aY, .inr (13, fsY))]) hD hS hA [0, 1] rfl
  refine vx_calli (vx_runSX (As := [.ref aX, .int w1, .int w2, .int w3, .ref qO]) (rest := []) ⟨hx, hb, hml, hown, hts⟩ (z_L_watch l dC dI H.size aX fsX aY fsY w1 w2 w3 qO (fh_sub o_fsX.2 [0] rfl) (fh_sub o_fsY.2 [0] rfl) hst ) (vx_cwSW 5 hts g_lk_21_z_L_watch_209 rfl rfl rfl (by decide +kernel) ⟨Nat.le_of_ble_eq_true rfl, Nat.le_of_ble_eq_true rfl⟩) ⟨fun a U g mk q => by obtain ⟨q0, q1, qZ, qY, qP, qK, qD⟩ := q; exact ⟨q0, q1, Zz_call qZ, Yy_call qY, qP, va_K.moved (u := U) (U := U.calling g mk a) (Vm.Alike.refl U.vm) qK, qD⟩, fun U hU hW => ⟨rfl, by rw [hU], Zz_go hZ hS hFc hU hW, Yy_go hY hW, by rw [hU]; exact hPc, va_K.moved hW.alike hKc, hDc.weaken (fun _ _ _ _ => trivial)⟩⟩ rfl rfl hl.1 rfl (lv_room (Nat.le_of_ble_eq_true rfl)) dL_law_1453 ⟨Nat.le_of_ble_eq_true rfl, Nat.le_of_ble_eq_true rfl⟩) hS (fun q _ h => hFc q h) hFc (fun q _ h => hFc q h) (fun E ce q9 u t H1 locs ht hvm hpx hBX hz1 hk1 hS hce hcv hcl => ?_) (fun r107 u t H1 locs ht hvm hw hB hz1 hk1 hS => ?_)
  · exact False.elim hBX
  · skip
    obtain ⟨hP1, hK1, hD1⟩ := hB
    rw [ht] at hP1
    try dsimp only at hw
    obtain ⟨hP, hD⟩ := va_join (wr := [(aZ, .inr (15, fsZ))]) (w1 := []) hP hD [0, 1] [2] rfl rfl (by decide) (by decide) hk1 hFc hP1 hD1
    have hK := hK.sub (tys' := []) [] rfl
    generalize H1 = H at hP hS ⊢
    refine W.widen (k := 391) (n := 571365) (by omega) (by omega) ?_
    have hP : va_P (dC, dI) vwCl [(aZ, .inr (15, fsZ))] H := hP
    have hD : va_D A [(aZ, .inr (15, fsZ))] := hD
    rcases hw with ⟨c108, er109⟩ | ⟨c110, c111, er112⟩
    · skip
      subst er109
      refine lv_istore (lv' := [(5, .int 1), (0, .ref b), (1, .ref aX), (2, .ref aZ), (3, .ref qO), (4, .int 0)]) hx hb dL_law_1456 hl (by decide) rfl (fun ls hl => ?_)
      refine lv_aload_n hx hb dL_law_1458 rfl (lv_at hl 3 rfl) ?_
      refine lv_aload_n hx hb dL_law_1459 rfl (lv_at hl 1 rfl) ?_
      refine lv_iload hx hb dL_law_1460 (lv_at hl 5 rfl) ?_
      refine lv_iconst (v := 1) hx hb dL_law_1462 (by decide) ?_
      refine lv_iadd hx hb dL_law_1463  ?_
      refine lv_topi (fun x113 ex113 => ?_)
      obtain rfl : x113 = 1 := ex113.trans (by decide)
      refine va_sld hx hb hX hbl hbA hS (show vp_in 1 6 from by unfold vp_in; decide) dL_law_1464 ?_
      refine lv_topi (fun x114 ex114 => ?_)
      obtain rfl : w1 = x114 := hw1.trans ex114.symm
      refine lv_aload_n hx hb dL_law_1465 rfl (lv_at hl 1 rfl) ?_
      refine lv_iload hx hb dL_law_1466 (lv_at hl 5 rfl) ?_
      refine lv_iconst (v := 2) hx hb dL_law_1468 (by decide) ?_
      refine lv_iadd hx hb dL_law_1469  ?_
      refine lv_topi (fun x115 ex115 => ?_)
      obtain rfl : x115 = 2 := ex115.trans (by decide)
      refine va_sld hx hb hX hbl hbA hS (show vp_in 2 6 from by unfold vp_in; decide) dL_law_1470 ?_
      refine lv_topi (fun x116 ex116 => ?_)
      obtain rfl : w2 = x116 := hw2.trans ex116.symm
      refine lv_aload_n hx hb dL_law_1471 rfl (lv_at hl 1 rfl) ?_
      refine lv_iload hx hb dL_law_1472 (lv_at hl 5 rfl) ?_
      refine lv_iconst (v := 3) hx hb dL_law_1474 (by decide) ?_
      refine lv_iadd hx hb dL_law_1475  ?_
      refine lv_topi (fun x117 ex117 => ?_)
      obtain rfl : x117 = 3 := ex117.trans (by decide)
      refine va_sld hx hb hX hbl hbA hS (show vp_in 3 6 from by unfold vp_in; decide) dL_law_1476 ?_
      refine lv_topi (fun x118 ex118 => ?_)
      obtain rfl : w3 = x118 := hw3.trans ex118.symm
      have hPc := hP.sub (ws' := [(aZ, .inr (15, fsZ))]) [0] rfl
      have hDc := hD.sub (ws' := [(aZ, .inr (15, fsZ))]) [0] (by decide) rfl
      have hKc := hK.sub (tys' := []) [] rfl
      have hFc := va_free (wc := [(aZ, .inr (15, fsZ))]) hD hS hA [0] rfl
      refine va_calli (va_runV (As := [.int w1, .int w2, .int w3]) (rest := []) ⟨hx, hb, hml, hown, hts⟩ (z_X12_watch l dC dI H.size aZ fsZ w1 w2 w3 (fh_sub o_fsZ.2 [0, 1] rfl) ) (cwV 3 hts g_lk_21_z_X12_watch_212 rfl rfl rfl (by decide +kernel) ⟨Nat.le_of_ble_eq_true rfl, Nat.le_of_ble_eq_true rfl⟩) ⟨fun a U g mk q => by obtain ⟨q0, q1, qP, qK, qD⟩ := q; exact ⟨q0, q1, qP, va_K.moved (u := U) (U := U.calling g mk a) (Vm.Alike.refl U.vm) qK, qD⟩, va_recv hK hP (ci := 15) (q0 := 0) rfl rfl, fun U hU hW => ⟨rfl, by rw [hU], by rw [hU]; exact hPc, va_K.moved hW.alike hKc, hDc.weaken (fun _ _ _ _ => trivial)⟩⟩ rfl rfl hl.1 rfl (lv_room (Nat.le_of_ble_eq_true rfl)) dL_law_1477 ⟨Nat.le_of_ble_eq_true rfl, Nat.le_of_ble_eq_true rfl⟩) hS (fun q _ h => hFc q h) hFc (fun r119 u t H1 locs ht hvm hw hB hz1 hk1 hS => ?_)
      obtain ⟨s120, rfl⟩ : ∃ z, z = u := ⟨_, rfl⟩
      obtain ⟨hP1, hK1, hD1⟩ := hB
      rw [ht] at hP1
      try dsimp only at hw
      obtain ⟨hP, hD⟩ := va_join (wr := []) (w1 := [(aZ, .inr (15, s120))]) hP hD [0] [] rfl rfl (by decide) (by decide) hk1 hFc hP1 hD1
      have hK := hK.sub (tys' := []) [] rfl
      generalize H1 = H at hP hS ⊢
      have hP : va_P (dC, dI) vwCl [(aZ, .inr (15, s120))] H := hP
      have hD : va_D A [(aZ, .inr (15, s120))] := hD
      rcases hw with ⟨c121, er122, o_s120⟩ | ⟨c123, c124, er125, o_s120⟩
      · skip
        subst er122
        have o_s120 := ow_on o_fsZ o_s120 (l' := [(0, .int 1), (20, .int 0), (20, .int 0)]) (w' := [0]) rfl rfl
        refine lv_istore (lv' := [(6, .int 0), (5, .int 1), (0, .ref b), (1, .ref aX), (2, .ref aZ), (3, .ref qO), (4, .int 0)]) hx hb dL_law_1480 hl (by decide) rfl (fun ls hl => ?_)
        refine lv_aload_n hx hb dL_law_1482 rfl (lv_at hl 4 rfl) ?_
        have hPc := hP.sub (ws' := [(aZ, .inr (15, s120))]) [0] rfl
        have hDc := hD.sub (ws' := [(aZ, .inr (15, s120))]) [0] (by decide) rfl
        have hKc := hK.sub (tys' := []) [] rfl
        have hFc := va_free (wc := [(aZ, .inr (15, s120))]) hD hS hA [0] rfl
        refine va_calli (va_runV (As := []) (rest := []) ⟨hx, hb, hml, hown, hts⟩ (z_X12_thrown l dC dI H.size aZ s120 (fh_sub o_s120.2 [0] rfl) ) (cwV 0 hts g_lk_21_z_X12_thrown_149 rfl rfl rfl (by decide +kernel) ⟨Nat.le_of_ble_eq_true rfl, Nat.le_of_ble_eq_true rfl⟩) ⟨fun a U g mk q => by obtain ⟨q0, q1, qP, qK, qD⟩ := q; exact ⟨q0, q1, qP, va_K.moved (u := U) (U := U.calling g mk a) (Vm.Alike.refl U.vm) qK, qD⟩, va_recv hK hP (ci := 15) (q0 := 0) rfl rfl, fun U hU hW => ⟨rfl, by rw [hU], by rw [hU]; exact hPc, va_K.moved hW.alike hKc, hDc.weaken (fun _ _ _ _ => trivial)⟩⟩ rfl rfl hl.1 rfl (lv_room (Nat.le_of_ble_eq_true rfl)) dL_law_1483 ⟨Nat.le_of_ble_eq_true rfl, Nat.le_of_ble_eq_true rfl⟩) hS (fun q _ h => hFc q h) hFc (fun r126 u t H1 locs ht hvm hw hB hz1 hk1 hS => ?_)
        obtain ⟨hP1, hK1, hD1⟩ := hB
        rw [ht] at hP1
        try dsimp only at hw
        obtain ⟨hP, hD⟩ := va_join (wr := []) (w1 := [(aZ, .inr (15, s120))]) hP hD [0] [] rfl rfl (by decide) (by decide) hk1 hFc hP1 hD1
        have hK := hK.sub (tys' := []) [] rfl
        generalize H1 = H at hP hS ⊢
        have hP : va_P (dC, dI) vwCl [(aZ, .inr (15, s120))] H := hP
        have hD : va_D A [(aZ, .inr (15, s120))] := hD
        have er127 := hw
        subst er127
        refine lv_iload hx hb dL_law_1486 (lv_at hl 1 rfl) ?_
        refine lv_icmp_eq (tgt := 1493) hx hb dL_law_1488 (by decide) (fun c128 => ?_) (fun c128 => absurd c128 (by decide))
        refine lv_iload hx hb dL_law_1493 (lv_at hl 1 rfl) ?_
        refine lv_if_ne (tgt := 1510) hx hb dL_law_1495 (by decide) (fun c129 => ?_) (fun c129 => absurd c129 (by decide))
        refine lv_goto (tgt := 3111) hx hb dL_law_1510 (by decide) ?_
        exact lw_end hst C0 hA hAf hZ hY (Nat.le_of_ble_eq_true rfl) (Nat.le_of_ble_eq_true rfl) dC dI P0k P0 D0 hS ls (lv_sub hl [2, 6] rfl)
      · exact (by exfalso; (try simp only [i_lt, i_le, i_eq, kc_0] at c108 c123 c124); omega)
    · skip
      subst er112
      refine lv_istore (lv' := [(5, .int 1), (0, .ref b), (1, .ref aX), (2, .ref aZ), (3, .ref qO), (4, .int 0)]) hx hb dL_law_1456 hl (by decide) rfl (fun ls hl => ?_)
      refine lv_aload_n hx hb dL_law_1458 rfl (lv_at hl 3 rfl) ?_
      refine lv_aload_n hx hb dL_law_1459 rfl (lv_at hl 1 rfl) ?_
      refine lv_iload hx hb dL_law_1460 (lv_at hl 5 rfl) ?_
      refine lv_iconst (v := 1) hx hb dL_law_1462 (by decide) ?_
      refine lv_iadd hx hb dL_law_1463  ?_
      refine lv_topi (fun x130 ex130 => ?_)
      obtain rfl : x130 = 1 := ex130.trans (by decide)
      refine va_sld hx hb hX hbl hbA hS (show vp_in 1 6 from by unfold vp_in; decide) dL_law_1464 ?_
      refine lv_topi (fun x131 ex131 => ?_)
      obtain rfl : w1 = x131 := hw1.trans ex131.symm
      refine lv_aload_n hx hb dL_law_1465 rfl (lv_at hl 1 rfl) ?_
      refine lv_iload hx hb dL_law_1466 (lv_at hl 5 rfl) ?_
      refine lv_iconst (v := 2) hx hb dL_law_1468 (by decide) ?_
      refine lv_iadd hx hb dL_law_1469  ?_
      refine lv_topi (fun x132 ex132 => ?_)
      obtain rfl : x132 = 2 := ex132.trans (by decide)
      refine va_sld hx hb hX hbl hbA hS (show vp_in 2 6 from by unfold vp_in; decide) dL_law_1470 ?_
      refine lv_topi (fun x133 ex133 => ?_)
      obtain rfl : w2 = x133 := hw2.trans ex133.symm
      refine lv_aload_n hx hb dL_law_1471 rfl (lv_at hl 1 rfl) ?_
      refine lv_iload hx hb dL_law_1472 (lv_at hl 5 rfl) ?_
      refine lv_iconst (v := 3) hx hb dL_law_1474 (by decide) ?_
      refine lv_iadd hx hb dL_law_1475  ?_
      refine lv_topi (fun x134 ex134 => ?_)
      obtain rfl : x134 = 3 := ex134.trans (by decide)
      refine va_sld hx hb hX hbl hbA hS (show vp_in 3 6 from by unfold vp_in; decide) dL_law_1476 ?_
      refine lv_topi (fun x135 ex135 => ?_)
      obtain rfl : w3 = x135 := hw3.trans ex135.symm
      have hPc := hP.sub (ws' := [(aZ, .inr (15, fsZ))]) [0] rfl
      have hDc := hD.sub (ws' := [(aZ, .inr (15, fsZ))]) [0] (by decide) rfl
      have hKc := hK.sub (tys' := []) [] rfl
      have hFc := va_free (wc := [(aZ, .inr (15, fsZ))]) hD hS hA [0] rfl
      refine va_calli (va_runV (As := [.int w1, .int w2, .int w3]) (rest := []) ⟨hx, hb, hml, hown, hts⟩ (z_X12_watch l dC dI H.size aZ fsZ w1 w2 w3 (fh_sub o_fsZ.2 [0, 1] rfl) ) (cwV 3 hts g_lk_21_z_X12_watch_212 rfl rfl rfl (by decide +kernel) ⟨Nat.le_of_ble_eq_true rfl, Nat.le_of_ble_eq_true rfl⟩) ⟨fun a U g mk q => by obtain ⟨q0, q1, qP, qK, qD⟩ := q; exact ⟨q0, q1, qP, va_K.moved (u := U) (U := U.calling g mk a) (Vm.Alike.refl U.vm) qK, qD⟩, va_recv hK hP (ci := 15) (q0 := 0) rfl rfl, fun U hU hW => ⟨rfl, by rw [hU], by rw [hU]; exact hPc, va_K.moved hW.alike hKc, hDc.weaken (fun _ _ _ _ => trivial)⟩⟩ rfl rfl hl.1 rfl (lv_room (Nat.le_of_ble_eq_true rfl)) dL_law_1477 ⟨Nat.le_of_ble_eq_true rfl, Nat.le_of_ble_eq_true rfl⟩) hS (fun q _ h => hFc q h) hFc (fun r136 u t H1 locs ht hvm hw hB hz1 hk1 hS => ?_)
      obtain ⟨s137, rfl⟩ : ∃ z, z = u := ⟨_, rfl⟩
      obtain ⟨hP1, hK1, hD1⟩ := hB
      rw [ht] at hP1
      try dsimp only at hw
      obtain ⟨hP, hD⟩ := va_join (wr := []) (w1 := [(aZ, .inr (15, s137))]) hP hD [0] [] rfl rfl (by decide) (by decide) hk1 hFc hP1 hD1
      have hK := hK.sub (tys' := []) [] rfl
      generalize H1 = H at hP hS ⊢
      have hP : va_P (dC, dI) vwCl [(aZ, .inr (15, s137))] H := hP
      have hD : va_D A [(aZ, .inr (15, s137))] := hD
      rcases hw with ⟨c138, er139, o_s137⟩ | ⟨c140, c141, er142, o_s137⟩
      · exact (by exfalso; (try simp only [i_lt, i_le, i_eq, kc_0] at c110 c111 c138); omega)
      · skip
        subst er142
        have o_s137 := ow_on o_fsZ o_s137 (l' := [(0, .int 1), (20, .int 0), (20, .int 0)]) (w' := [0]) rfl rfl
        refine lv_istore (lv' := [(6, .int 0), (5, .int 1), (0, .ref b), (1, .ref aX), (2, .ref aZ), (3, .ref qO), (4, .int 0)]) hx hb dL_law_1480 hl (by decide) rfl (fun ls hl => ?_)
        refine lv_aload_n hx hb dL_law_1482 rfl (lv_at hl 4 rfl) ?_
        have hPc := hP.sub (ws' := [(aZ, .inr (15, s137))]) [0] rfl
        have hDc := hD.sub (ws' := [(aZ, .inr (15, s137))]) [0] (by decide) rfl
        have hKc := hK.sub (tys' := []) [] rfl
        have hFc := va_free (wc := [(aZ, .inr (15, s137))]) hD hS hA [0] rfl
        refine va_calli (va_runV (As := []) (rest := []) ⟨hx, hb, hml, hown, hts⟩ (z_X12_thrown l dC dI H.size aZ s137 (fh_sub o_s137.2 [0] rfl) ) (cwV 0 hts g_lk_21_z_X12_thrown_149 rfl rfl rfl (by decide +kernel) ⟨Nat.le_of_ble_eq_true rfl, Nat.le_of_ble_eq_true rfl⟩) ⟨fun a U g mk q => by obtain ⟨q0, q1, qP, qK, qD⟩ := q; exact ⟨q0, q1, qP, va_K.moved (u := U) (U := U.calling g mk a) (Vm.Alike.refl U.vm) qK, qD⟩, va_recv hK hP (ci := 15) (q0 := 0) rfl rfl, fun U hU hW => ⟨rfl, by rw [hU], by rw [hU]; exact hPc, va_K.moved hW.alike hKc, hDc.weaken (fun _ _ _ _ => trivial)⟩⟩ rfl rfl hl.1 rfl (lv_room (Nat.le_of_ble_eq_true rfl)) dL_law_1483 ⟨Nat.le_of_ble_eq_true rfl, Nat.le_of_ble_eq_true rfl⟩) hS (fun q _ h => hFc q h) hFc (fun r143 u t H1 locs ht hvm hw hB hz1 hk1 hS => ?_)
        obtain ⟨hP1, hK1, hD1⟩ := hB
        rw [ht] at hP1
        try dsimp only at hw
        obtain ⟨hP, hD⟩ := va_join (wr := []) (w1 := [(aZ, .inr (15, s137))]) hP hD [0] [] rfl rfl (by decide) (by decide) hk1 hFc hP1 hD1
        have hK := hK.sub (tys' := []) [] rfl
        generalize H1 = H at hP hS ⊢
        have hP : va_P (dC, dI) vwCl [(aZ, .inr (15, s137))] H := hP
        have hD : va_D A [(aZ, .inr (15, s137))] := hD
        have er144 := hw
        subst er144
        refine lv_iload hx hb dL_law_1486 (lv_at hl 1 rfl) ?_
        refine lv_icmp_eq (tgt := 1493) hx hb dL_law_1488 (by decide) (fun c145 => ?_) (fun c145 => absurd c145 (by decide))
        refine lv_iload hx hb dL_law_1493 (lv_at hl 1 rfl) ?_
        refine lv_if_ne (tgt := 1510) hx hb dL_law_1495 (by decide) (fun c146 => ?_) (fun c146 => absurd c146 (by decide))
        refine lv_goto (tgt := 3111) hx hb dL_law_1510 (by decide) ?_
        exact lw_end hst C0 hA hAf hZ hY (Nat.le_of_ble_eq_true rfl) (Nat.le_of_ble_eq_true rfl) dC dI P0k P0 D0 hS ls (lv_sub hl [2, 6] rfl)

set_option maxRecDepth 20000 in
theorem g_lk_22_z_X11_rows_213 : GoodIn lwW (wsV RL 213 RX11 yX11_rows w_z_X11_rows) := goodIn_app (goodIn_sub (ws := ([.methodLink RL 213 yX11_rows, .instanceMethod yX11_rows, .selects RX11 yX11_rows yX11_rows, .initialized RX11] : List Cond)) (gm_c (gm_at lwV_35_in 2 rfl) (gm_c (gm_at lwV_35_in 3 rfl) (gm_c (gm_at lwV_35_in 4 rfl) (gm_c (gm_at lwV_0_in 3 rfl) gm_nil)))) (by decide +kernel)) (goodIn_ca (goodIn_sub (ws := .code yX11_rows cX11_rows 2 (some .int) :: l_z_X11_rows) (gm_c (gm_at lwV_35_in 8 rfl) (gm_c (gm_at lwV_27_in 1 rfl) (gm_c (gm_at lwV_35_in 9 rfl) gm_nil))) (by decide +kernel)) (goodIn_app (goodIn_in il_X11 gd_X11) (goodIn_in il_X3 gd_X3)))
set_option maxRecDepth 20000 in
theorem g_lk_22_z_X12_rows_216 : GoodIn lwW (wsV RL 216 RX12 yX12_rows w_z_X12_rows) := goodIn_app (goodIn_sub (ws := ([.methodLink RL 216 yX12_rows, .instanceMethod yX12_rows, .selects RX12 yX12_rows yX12_rows, .initialized RX12] : List Cond)) (gm_c (gm_at lwV_35_in 5 rfl) (gm_c (gm_at lwV_35_in 6 rfl) (gm_c (gm_at lwV_35_in 7 rfl) (gm_c (gm_at lwV_0_in 7 rfl) gm_nil)))) (by decide +kernel)) (goodIn_ca (goodIn_sub (ws := .code yX12_rows cX12_rows 2 (some .int) :: l_z_X12_rows) (gm_c (gm_at lwV_35_in 10 rfl) (gm_c (gm_at lwV_1_in 5 rfl) (gm_c (gm_at lwV_35_in 11 rfl) gm_nil))) (by decide +kernel)) (goodIn_in il_X12 gd_X12))
set_option maxHeartbeats 4000000 in
set_option maxRecDepth 100000 in
/-- the law, one call: rows -/
theorem lk_22 {p : Program} {l : Launch} {e : Env} {s : State} {m : MethodId} {below : List Frame} {meth : Method} {c : Code} {b : Nat} {xs : Nat → Int32} (hst : l.stackTraces = false) (C0 : lw_At p s m meth c b 6 xs) {A : Nat → Prop} (hA : ∀ q : Nat, s.heap.size ≤ q → A q) (hAf : ∀ q : Nat, A q → s.heap.size ≤ q) (hZ : Zz A s) (hY : Yy s) (dC : Nat → ClassId) (dI : Nat → Nat → Nat) (aX : Nat) (fsX : List Value) (aJ : Nat) (fsJ : List Value) (aZ : Nat) (fsZ : List Value) (qO : Nat) (w1 : Int32) (hw1 : w1 = xs (1 : Int32).toNatClampNeg) (w2 : Int32) (hw2 : w2 = xs (2 : Int32).toNatClampNeg) (w3 : Int32) (hw3 : w3 = xs (3 : Int32).toNatClampNeg) (w4 : Int32) (hw4 : w4 = xs (4 : Int32).toNatClampNeg) (w5 : Int32) (hw5 : w5 = xs (5 : Int32).toNatClampNeg) (k_fsX : fh fsX 18 [(3, .ref aJ)]) (k_fsJ : fh fsJ 13 [(7, .int 0)]) (k_fsZ : fh fsZ 150 [(44, .int 0)])  {H : Heap} {locs : List Loc} (hK : va_K (dC, dI) vwCl [] s) (hP : va_P (dC, dI) vwCl [(aX, .inr (14, fsX)), (aJ, .inr (6, fsJ)), (aZ, .inr (15, fsZ))] H) (hD : va_D A [(aX, .inr (14, fsX)), (aJ, .inr (6, fsJ)), (aZ, .inr (15, fsZ))]) (hS : va_S A s.heap H locs) (ls : Array Slot) (hl : lv_has ls 8 [(0, .ref b), (1, .ref aX), (2, .ref aZ), (3, .ref qO), (4, .int 0)]) : W p l e room_1 s m #[Value.ref b] below meth c H locs 390 571359 (lw_Z below #[Value.ref b] s) (F0 m 1513 ls []) := by
  obtain ⟨hx, hb, hr, hml, hown0, hts0, hX, hbl, hlocks, hgv⟩ := id C0
  have hown : s.vm.findClass RL = some m.cls := hown0
  have hts : ∀ w ∈ lwW, w.before #[Value.ref b] s = true := fun w h => hts0 w (lwW_in w h)
  have hbA : ¬ A b := fun h => absurd (hAf b h) (Nat.not_le.mpr hbl)
  have o_fsX := ow_0 k_fsX
  have o_fsJ := ow_0 k_fsJ
  have o_fsZ := ow_0 k_fsZ
  refine lv_aload_n hx hb dL_law_1513 rfl (lv_at hl 1 rfl) ?_
  refine lv_aload_n hx hb dL_law_1514 rfl (lv_at hl 0 rfl) ?_
  refine lv_iload hx hb dL_law_1515 (lv_at hl 4 rfl) ?_
  refine lv_iconst (v := 1) hx hb dL_law_1517 (by decide) ?_
  refine lv_iadd hx hb dL_law_1518  ?_
  refine lv_topi (fun x101 ex101 => ?_)
  obtain rfl : x101 = 1 := ex101.trans (by decide)
  refine va_sld hx hb hX hbl hbA hS (show vp_in 1 6 from by unfold vp_in; decide) dL_law_1519 ?_
  refine lv_topi (fun x102 ex102 => ?_)
  obtain rfl : w1 = x102 := hw1.trans ex102.symm
  have hPc := hP.sub (ws' := [(aX, .inr (14, fsX)), (aJ, .inr (6, fsJ))]) [0, 1] rfl
  have hDc := hD.sub (ws' := [(aX, .inr (14, fsX)), (aJ, .inr (6, fsJ))]) [0, 1] (by decide) rfl
  have hKc := hK.sub (tys' := []) [] rfl
  have hFc := va_free (wc := [(aX, .inr (14, fsX)), (aJ, .inr (6, fsJ))]) hD hS hA [0, 1] rfl
  refine va_calli (va_runV (As := [.int w1]) (rest := []) ⟨hx, hb, hml, hown, hts⟩ (z_X11_rows l dC dI H.size aX fsX aJ fsJ w1 (fh_sub o_fsX.2 [0] rfl) (fh_sub o_fsJ.2 [0] rfl) ) (cwV 1 hts g_lk_22_z_X11_rows_213 rfl rfl rfl (by decide +kernel) ⟨Nat.le_of_ble_eq_true rfl, Nat.le_of_ble_eq_true rfl⟩) ⟨fun a U g mk q => by obtain ⟨q0, q1, qP, qK, qD⟩ := q; exact ⟨q0, q1, qP, va_K.moved (u := U) (U := U.calling g mk a) (Vm.Alike.refl U.vm) qK, qD⟩, va_recv hK hP (ci := 14) (q0 := 0) rfl rfl, fun U hU hW => ⟨rfl, by rw [hU], by rw [hU]; exact hPc, va_K.moved hW.alike hKc, hDc.weaken (fun _ _ _ _ => trivial)⟩⟩ rfl rfl hl.1 rfl (lv_room (Nat.le_of_ble_eq_true rfl)) dL_law_1520 ⟨Nat.le_of_ble_eq_true rfl, Nat.le_of_ble_eq_true rfl⟩) hS (fun q _ h => hFc q h) hFc (fun r103 u t H1 locs ht hvm hw hB hz1 hk1 hS => ?_)
  obtain ⟨hP1, hK1, hD1⟩ := hB
  rw [ht] at hP1
  try dsimp only at hw
  obtain ⟨hP, hD⟩ := va_join (wr := [(aZ, .inr (15, fsZ))]) (w1 := [(aX, .inr (14, fsX)), (aJ, .inr (6, fsJ))]) hP hD [0, 1] [2] rfl rfl (by decide) (by decide) hk1 hFc hP1 hD1
  have hK := hK.sub (tys' := []) [] rfl
  generalize H1 = H at hP hS ⊢
  have hP : va_P (dC, dI) vwCl [(aZ, .inr (15, fsZ)), (aX, .inr (14, fsX)), (aJ, .inr (6, fsJ))] H := hP
  have hD : va_D A [(aZ, .inr (15, fsZ)), (aX, .inr (14, fsX)), (aJ, .inr (6, fsJ))] := hD
  rcases hw with ⟨c104, er105⟩ | ⟨c106, c107, er108⟩
  · skip
    subst er105
    refine lv_aload_n hx hb dL_law_1523 rfl (lv_at hl 2 rfl) ?_
    refine lv_aload_n hx hb dL_law_1524 rfl (lv_at hl 0 rfl) ?_
    refine lv_iload hx hb dL_law_1525 (lv_at hl 4 rfl) ?_
    refine lv_iconst (v := 1) hx hb dL_law_1527 (by decide) ?_
    refine lv_iadd hx hb dL_law_1528  ?_
    refine lv_topi (fun x109 ex109 => ?_)
    obtain rfl : x109 = 1 := ex109.trans (by decide)
    refine va_sld hx hb hX hbl hbA hS (show vp_in 1 6 from by unfold vp_in; decide) dL_law_1529 ?_
    refine lv_topi (fun x110 ex110 => ?_)
    obtain rfl : w1 = x110 := hw1.trans ex110.symm
    have hPc := hP.sub (ws' := [(aZ, .inr (15, fsZ))]) [0] rfl
    have hDc := hD.sub (ws' := [(aZ, .inr (15, fsZ))]) [0] (by decide) rfl
    have hKc := hK.sub (tys' := []) [] rfl
    have hFc := va_free (wc := [(aZ, .inr (15, fsZ))]) hD hS hA [0] rfl
    refine va_calli (va_runV (As := [.int w1]) (rest := [.int (-1)]) ⟨hx, hb, hml, hown, hts⟩ (z_X12_rows l dC dI H.size aZ fsZ w1 (fh_sub o_fsZ.2 [0] rfl) ) (cwV 1 hts g_lk_22_z_X12_rows_216 rfl rfl rfl (by decide +kernel) ⟨Nat.le_of_ble_eq_true rfl, Nat.le_of_ble_eq_true rfl⟩) ⟨fun a U g mk q => by obtain ⟨q0, q1, qP, qK, qD⟩ := q; exact ⟨q0, q1, qP, va_K.moved (u := U) (U := U.calling g mk a) (Vm.Alike.refl U.vm) qK, qD⟩, va_recv hK hP (ci := 15) (q0 := 0) rfl rfl, fun U hU hW => ⟨rfl, by rw [hU], by rw [hU]; exact hPc, va_K.moved hW.alike hKc, hDc.weaken (fun _ _ _ _ => trivial)⟩⟩ rfl rfl hl.1 rfl (lv_room (Nat.le_of_ble_eq_true rfl)) dL_law_1530 ⟨Nat.le_of_ble_eq_true rfl, Nat.le_of_ble_eq_true rfl⟩) hS (fun q _ h => hFc q h) hFc (fun r111 u t H1 locs ht hvm hw hB hz1 hk1 hS => ?_)
    obtain ⟨s112, rfl⟩ : ∃ z, z = u := ⟨_, rfl⟩
    obtain ⟨hP1, hK1, hD1⟩ := hB
    rw [ht] at hP1
    try dsimp only at hw
    obtain ⟨hP, hD⟩ := va_join (wr := [(aX, .inr (14, fsX)), (aJ, .inr (6, fsJ))]) (w1 := [(aZ, .inr (15, s112))]) hP hD [0] [1, 2] rfl rfl (by decide) (by decide) hk1 hFc hP1 hD1
    have hK := hK.sub (tys' := []) [] rfl
    generalize H1 = H at hP hS ⊢
    have hP : va_P (dC, dI) vwCl [(aX, .inr (14, fsX)), (aJ, .inr (6, fsJ)), (aZ, .inr (15, s112))] H := hP
    have hD : va_D A [(aX, .inr (14, fsX)), (aJ, .inr (6, fsJ)), (aZ, .inr (15, s112))] := hD
    rcases hw with ⟨c113, er114, o_s112⟩ | ⟨c115, c116, er117, o_s112⟩
    · skip
      subst er114
      have o_s112 := ow_on o_fsZ o_s112 (l' := [(0, .int 0), (44, .int 0), (44, .int 0)]) (w' := [0]) rfl rfl
      refine lv_icmp_eq (tgt := 3111) hx hb dL_law_1533 (by decide) (fun c118 => ?_) (fun c118 => absurd c118 (by decide))
      exact lw_end hst C0 hA hAf hZ hY (Nat.le_of_ble_eq_true rfl) (Nat.le_of_ble_eq_true rfl) dC dI P0k P0 D0 hS ls (lv_sub hl [0, 4] rfl)
    · exact (by exfalso; (try simp only [i_lt, i_le, i_eq, kc_0] at c104 c115 c116); omega)
  · skip
    subst er108
    refine lv_aload_n hx hb dL_law_1523 rfl (lv_at hl 2 rfl) ?_
    refine lv_aload_n hx hb dL_law_1524 rfl (lv_at hl 0 rfl) ?_
    refine lv_iload hx hb dL_law_1525 (lv_at hl 4 rfl) ?_
    refine lv_iconst (v := 1) hx hb dL_law_1527 (by decide) ?_
    refine lv_iadd hx hb dL_law_1528  ?_
    refine lv_topi (fun x119 ex119 => ?_)
    obtain rfl : x119 = 1 := ex119.trans (by decide)
    refine va_sld hx hb hX hbl hbA hS (show vp_in 1 6 from by unfold vp_in; decide) dL_law_1529 ?_
    refine lv_topi (fun x120 ex120 => ?_)
    obtain rfl : w1 = x120 := hw1.trans ex120.symm
    have hPc := hP.sub (ws' := [(aZ, .inr (15, fsZ))]) [0] rfl
    have hDc := hD.sub (ws' := [(aZ, .inr (15, fsZ))]) [0] (by decide) rfl
    have hKc := hK.sub (tys' := []) [] rfl
    have hFc := va_free (wc := [(aZ, .inr (15, fsZ))]) hD hS hA [0] rfl
    refine va_calli (va_runV (As := [.int w1]) (rest := [.int (-1)]) ⟨hx, hb, hml, hown, hts⟩ (z_X12_rows l dC dI H.size aZ fsZ w1 (fh_sub o_fsZ.2 [0] rfl) ) (cwV 1 hts g_lk_22_z_X12_rows_216 rfl rfl rfl (by decide +kernel) ⟨Nat.le_of_ble_eq_true rfl, Nat.le_of_ble_eq_true rfl⟩) ⟨fun a U g mk q => by obtain ⟨q0, q1, qP, qK, qD⟩ := q; exact ⟨q0, q1, qP, va_K.moved (u := U) (U := U.calling g mk a) (Vm.Alike.refl U.vm) qK, qD⟩, va_recv hK hP (ci := 15) (q0 := 0) rfl rfl, fun U hU hW => ⟨rfl, by rw [hU], by rw [hU]; exact hPc, va_K.moved hW.alike hKc, hDc.weaken (fun _ _ _ _ => trivial)⟩⟩ rfl rfl hl.1 rfl (lv_room (Nat.le_of_ble_eq_true rfl)) dL_law_1530 ⟨Nat.le_of_ble_eq_true rfl, Nat.le_of_ble_eq_true rfl⟩) hS (fun q _ h => hFc q h) hFc (fun r121 u t H1 locs ht hvm hw hB hz1 hk1 hS => ?_)
    obtain ⟨s122, rfl⟩ : ∃ z, z = u := ⟨_, rfl⟩
    obtain ⟨hP1, hK1, hD1⟩ := hB
    rw [ht] at hP1
    try dsimp only at hw
    obtain ⟨hP, hD⟩ := va_join (wr := [(aX, .inr (14, fsX)), (aJ, .inr (6, fsJ))]) (w1 := [(aZ, .inr (15, s122))]) hP hD [0] [1, 2] rfl rfl (by decide) (by decide) hk1 hFc hP1 hD1
    have hK := hK.sub (tys' := []) [] rfl
    generalize H1 = H at hP hS ⊢
    have hP : va_P (dC, dI) vwCl [(aX, .inr (14, fsX)), (aJ, .inr (6, fsJ)), (aZ, .inr (15, s122))] H := hP
    have hD : va_D A [(aX, .inr (14, fsX)), (aJ, .inr (6, fsJ)), (aZ, .inr (15, s122))] := hD
    rcases hw with ⟨c123, er124, o_s122⟩ | ⟨c125, c126, er127, o_s122⟩
    · exact (by exfalso; (try simp only [i_lt, i_le, i_eq, kc_0] at c106 c107 c123); omega)
    · skip
      subst er127
      have o_s122 := ow_on o_fsZ o_s122 (l' := [(0, .int 0), (44, .int 0), (44, .int 0)]) (w' := [0]) rfl rfl
      refine lv_icmp_eq (tgt := 3111) hx hb dL_law_1533 (by decide) (fun c128 => ?_) (fun c128 => absurd c128 (by decide))
      exact lw_end hst C0 hA hAf hZ hY (Nat.le_of_ble_eq_true rfl) (Nat.le_of_ble_eq_true rfl) dC dI P0k P0 D0 hS ls (lv_sub hl [0, 4] rfl)

set_option maxRecDepth 20000 in
theorem g_lk_23_z_L_row_217 : GoodIn lwW (va_wsS RL 217 yL_row w_z_L_row) := goodIn_app (goodIn_sub (ws := ([.methodLink RL 217 yL_row, .static yL_row, .initialized RL] : List Cond)) (gm_c (gm_at lwV_36_in 0 rfl) (gm_c (gm_at lwV_36_in 1 rfl) (gm_c (gm_at lwV_5_in 10 rfl) gm_nil))) (by decide +kernel)) (goodIn_ca (goodIn_sub (ws := .codeWith yL_row cL_row 6 (some .int) [(0, 11, 14, 30)] :: l_z_L_row) (gm_c (gm_at lwV_36_in 5 rfl) (gm_c (gm_at lwV_36_in 6 rfl) (gm_c (gm_at lwV_36_in 7 rfl) (gm_c (gm_at lwV_36_in 8 rfl) (gm_c (gm_at lwV_0_in 3 rfl) (gm_c (gm_at lwV_19_in 11 rfl) (gm_c (gm_at lwV_36_in 9 rfl) (gm_c (gm_at lwV_20_in 4 rfl) (gm_c (gm_at lwV_20_in 5 rfl) (gm_c (gm_at lwV_36_in 10 rfl) (gm_c (gm_at lwV_35_in 3 rfl) (gm_c (gm_at lwV_35_in 4 rfl) (gm_c (gm_at lwV_35_in 8 rfl) (gm_c (gm_at lwV_27_in 1 rfl) (gm_c (gm_at lwV_35_in 9 rfl) gm_nil))))))))))))))) (by decide +kernel)) (goodIn_app (goodIn_in il_at0_X11_223 gd_at0_X11_223) (goodIn_app (goodIn_in il_X11 gd_X11) (goodIn_in il_X3 gd_X3))))
set_option maxRecDepth 20000 in
theorem g_lk_23_z_X12_row_219 : GoodIn lwW (wsV RL 219 RX12 yX12_row w_z_X12_row) := goodIn_app (goodIn_sub (ws := ([.methodLink RL 219 yX12_row, .instanceMethod yX12_row, .selects RX12 yX12_row yX12_row, .initialized RX12] : List Cond)) (gm_c (gm_at lwV_36_in 2 rfl) (gm_c (gm_at lwV_36_in 3 rfl) (gm_c (gm_at lwV_36_in 4 rfl) (gm_c (gm_at lwV_0_in 7 rfl) gm_nil)))) (by decide +kernel)) (goodIn_ca (goodIn_sub (ws := .code yX12_row cX12_row 5 (some .long) :: l_z_X12_row) (gm_c (gm_at lwV_36_in 11 rfl) (gm_c (gm_at lwV_1_in 5 rfl) (gm_c (gm_at lwV_35_in 11 rfl) gm_nil))) (by decide +kernel)) (goodIn_in il_X12 gd_X12))
set_option maxRecDepth 20000 in
theorem g_lk_23_z_X12_thrown_149 : GoodIn lwW (wsV RL 149 RX12 yX12_thrown w_z_X12_thrown) := goodIn_app (goodIn_sub (ws := ([.methodLink RL 149 yX12_thrown, .instanceMethod yX12_thrown, .selects RX12 yX12_thrown yX12_thrown, .initialized RX12] : List Cond)) (gm_c (gm_at lwV_6_in 2 rfl) (gm_c (gm_at lwV_6_in 3 rfl) (gm_c (gm_at lwV_6_in 4 rfl) (gm_c (gm_at lwV_0_in 7 rfl) gm_nil)))) (by decide +kernel)) (goodIn_ca (goodIn_sub (ws := .code yX12_thrown cX12_thrown 1 (some .int) :: l_z_X12_thrown) (gm_c (gm_at lwV_9_in 9 rfl) (gm_c (gm_at lwV_1_in 5 rfl) gm_nil)) (by decide +kernel)) (goodIn_in il_X12 gd_X12))
set_option maxHeartbeats 4000000 in
set_option maxRecDepth 100000 in
/-- the law, one call: row -/
theorem lk_23 {p : Program} {l : Launch} {e : Env} {s : State} {m : MethodId} {below : List Frame} {meth : Method} {c : Code} {b : Nat} {xs : Nat → Int32} (hst : l.stackTraces = false) (C0 : lw_At p s m meth c b 6 xs) {A : Nat → Prop} (hA : ∀ q : Nat, s.heap.size ≤ q → A q) (hAf : ∀ q : Nat, A q → s.heap.size ≤ q) (hZ : Zz A s) (hY : Yy s) (dC : Nat → ClassId) (dI : Nat → Nat → Nat) (aX : Nat) (fsX : List Value) (aJ : Nat) (fsJ : List Value) (aZ : Nat) (fsZ : List Value) (qO : Nat) (w1 : Int32) (hw1 : w1 = xs (1 : Int32).toNatClampNeg) (w2 : Int32) (hw2 : w2 = xs (2 : Int32).toNatClampNeg) (w3 : Int32) (hw3 : w3 = xs (3 : Int32).toNatClampNeg) (w4 : Int32) (hw4 : w4 = xs (4 : Int32).toNatClampNeg) (w5 : Int32) (hw5 : w5 = xs (5 : Int32).toNatClampNeg) (k_fsX : fh fsX 18 [(3, .ref aJ)]) (k_fsJ : fh fsJ 13 [(7, .int 0)]) (k_fsZ : fh fsZ 150 [(0, .int 0), (44, .int 0)])  {H : Heap} {locs : List Loc} (hK : va_K (dC, dI) vwCl [] s) (hP : va_P (dC, dI) vwCl [(aX, .inr (14, fsX)), (aJ, .inr (6, fsJ)), (aZ, .inr (15, fsZ))] H) (hD : va_D A [(aX, .inr (14, fsX)), (aJ, .inr (6, fsJ)), (aZ, .inr (15, fsZ))]) (hS : va_S A s.heap H locs) (ls : Array Slot) (hl : lv_has ls 8 [(0, .ref b), (1, .ref aX), (2, .ref aZ), (3, .ref qO), (4, .int 0)]) : W p l e room_1 s m #[Value.ref b] below meth c H locs 390 571359 (lw_Z below #[Value.ref b] s) (F0 m 1538 ls []) := by
  obtain ⟨hx, hb, hr, hml, hown0, hts0, hX, hbl, hlocks, hgv⟩ := id C0
  have hown : s.vm.findClass RL = some m.cls := hown0
  have hts : ∀ w ∈ lwW, w.before #[Value.ref b] s = true := fun w h => hts0 w (lwW_in w h)
  have hbA : ¬ A b := fun h => absurd (hAf b h) (Nat.not_le.mpr hbl)
  have o_fsX := ow_0 k_fsX
  have o_fsJ := ow_0 k_fsJ
  have o_fsZ := ow_0 k_fsZ
  refine lv_aload_n hx hb dL_law_1538 rfl (lv_at hl 1 rfl) ?_
  refine lv_aload_n hx hb dL_law_1539 rfl (lv_at hl 0 rfl) ?_
  refine lv_iload hx hb dL_law_1540 (lv_at hl 4 rfl) ?_
  refine lv_iconst (v := 1) hx hb dL_law_1542 (by decide) ?_
  refine lv_iadd hx hb dL_law_1543  ?_
  refine lv_topi (fun x101 ex101 => ?_)
  obtain rfl : x101 = 1 := ex101.trans (by decide)
  refine va_sld hx hb hX hbl hbA hS (show vp_in 1 6 from by unfold vp_in; decide) dL_law_1544 ?_
  refine lv_topi (fun x102 ex102 => ?_)
  obtain rfl : w1 = x102 := hw1.trans ex102.symm
  refine lv_aload_n hx hb dL_law_1545 rfl (lv_at hl 0 rfl) ?_
  refine lv_iload hx hb dL_law_1546 (lv_at hl 4 rfl) ?_
  refine lv_iconst (v := 2) hx hb dL_law_1548 (by decide) ?_
  refine lv_iadd hx hb dL_law_1549  ?_
  refine lv_topi (fun x103 ex103 => ?_)
  obtain rfl : x103 = 2 := ex103.trans (by decide)
  refine va_sld hx hb hX hbl hbA hS (show vp_in 2 6 from by unfold vp_in; decide) dL_law_1550 ?_
  refine lv_topi (fun x104 ex104 => ?_)
  obtain rfl : w2 = x104 := hw2.trans ex104.symm
  refine lv_aload_n hx hb dL_law_1551 rfl (lv_at hl 0 rfl) ?_
  refine lv_iload hx hb dL_law_1552 (lv_at hl 4 rfl) ?_
  refine lv_iconst (v := 3) hx hb dL_law_1554 (by decide) ?_
  refine lv_iadd hx hb dL_law_1555  ?_
  refine lv_topi (fun x105 ex105 => ?_)
  obtain rfl : x105 = 3 := ex105.trans (by decide)
  refine va_sld hx hb hX hbl hbA hS (show vp_in 3 6 from by unfold vp_in; decide) dL_law_1556 ?_
  refine lv_topi (fun x106 ex106 => ?_)
  obtain rfl : w3 = x106 := hw3.trans ex106.symm
  refine lv_aload_n hx hb dL_law_1557 rfl (lv_at hl 3 rfl) ?_
  have hPc := hP.sub (ws' := [(aX, .inr (14, fsX)), (aJ, .inr (6, fsJ))]) [0, 1] rfl
  have hDc := hD.sub (ws' := [(aX, .inr (14, fsX)), (aJ, .inr (6, fsJ))]) [0, 1] (by decide) rfl
  have hKc := hK.sub (tys' := []) [] rfl
  have hFc := va_free (wc := [(aX, .inr (14, fsX)), (aJ, .inr (6, fsJ))]) hD hS hA [0, 1] rfl
  refine vx_calli (vx_runSX (As := [.ref aX, .int w1, .int w2, .int w3, .ref qO]) (rest := []) ⟨hx, hb, hml, hown, hts⟩ (z_L_row l dC dI H.size aX fsX aJ fsJ w1 w2 w3 qO (fh_sub o_fsX.2 [0] rfl) (fh_sub o_fsJ.2 [0] rfl) hst ) (vx_cwSW 5 hts g_lk_23_z_L_row_217 rfl rfl rfl (by decide +kernel) ⟨Nat.le_of_ble_eq_true rfl, Nat.le_of_ble_eq_true rfl⟩) ⟨fun a U g mk q => by obtain ⟨q0, q1, qZ, qY, qP, qK, qD⟩ := q; exact ⟨q0, q1, Zz_call qZ, Yy_call qY, qP, va_K.moved (u := U) (U := U.calling g mk a) (Vm.Alike.refl U.vm) qK, qD⟩, fun U hU hW => ⟨rfl, by rw [hU], Zz_go hZ hS hFc hU hW, Yy_go hY hW, by rw [hU]; exact hPc, va_K.moved hW.alike hKc, hDc.weaken (fun _ _ _ _ => trivial)⟩⟩ rfl rfl hl.1 rfl (lv_room (Nat.le_of_ble_eq_true rfl)) dL_law_1558 ⟨Nat.le_of_ble_eq_true rfl, Nat.le_of_ble_eq_true rfl⟩) hS (fun q _ h => hFc q h) hFc (fun q _ h => hFc q h) (fun E ce q9 u t H1 locs ht hvm hpx hBX hz1 hk1 hS hce hcv hcl => ?_) (fun r107 u t H1 locs ht hvm hw hB hz1 hk1 hS => ?_)
  · exact False.elim hBX
  · skip
    obtain ⟨hP1, hK1, hD1⟩ := hB
    rw [ht] at hP1
    try dsimp only at hw
    obtain ⟨hP, hD⟩ := va_join (wr := [(aZ, .inr (15, fsZ))]) (w1 := []) hP hD [0, 1] [2] rfl rfl (by decide) (by decide) hk1 hFc hP1 hD1
    have hK := hK.sub (tys' := []) [] rfl
    generalize H1 = H at hP hS ⊢
    refine W.widen (k := 391) (n := 571365) (by omega) (by omega) ?_
    have hP : va_P (dC, dI) vwCl [(aZ, .inr (15, fsZ))] H := hP
    have hD : va_D A [(aZ, .inr (15, fsZ))] := hD
    rcases hw with ⟨c108, er109⟩ | ⟨c110, c111, c112, er113⟩ | ⟨c114, c115, c116, c117, er118⟩
    · skip
      subst er109
      refine lv_istore (lv' := [(5, .int 1), (0, .ref b), (1, .ref aX), (2, .ref aZ), (3, .ref qO), (4, .int 0)]) hx hb dL_law_1561 hl (by decide) rfl (fun ls hl => ?_)
      refine lv_aload_n hx hb dL_law_1563 rfl (lv_at hl 3 rfl) ?_
      refine lv_aload_n hx hb dL_law_1564 rfl (lv_at hl 1 rfl) ?_
      refine lv_iload hx hb dL_law_1565 (lv_at hl 5 rfl) ?_
      refine lv_iconst (v := 1) hx hb dL_law_1567 (by decide) ?_
      refine lv_iadd hx hb dL_law_1568  ?_
      refine lv_topi (fun x119 ex119 => ?_)
      obtain rfl : x119 = 1 := ex119.trans (by decide)
      refine va_sld hx hb hX hbl hbA hS (show vp_in 1 6 from by unfold vp_in; decide) dL_law_1569 ?_
      refine lv_topi (fun x120 ex120 => ?_)
      obtain rfl : w1 = x120 := hw1.trans ex120.symm
      refine lv_aload_n hx hb dL_law_1570 rfl (lv_at hl 1 rfl) ?_
      refine lv_iload hx hb dL_law_1571 (lv_at hl 5 rfl) ?_
      refine lv_iconst (v := 2) hx hb dL_law_1573 (by decide) ?_
      refine lv_iadd hx hb dL_law_1574  ?_
      refine lv_topi (fun x121 ex121 => ?_)
      obtain rfl : x121 = 2 := ex121.trans (by decide)
      refine va_sld hx hb hX hbl hbA hS (show vp_in 2 6 from by unfold vp_in; decide) dL_law_1575 ?_
      refine lv_topi (fun x122 ex122 => ?_)
      obtain rfl : w2 = x122 := hw2.trans ex122.symm
      refine lv_aload_n hx hb dL_law_1576 rfl (lv_at hl 1 rfl) ?_
      refine lv_iload hx hb dL_law_1577 (lv_at hl 5 rfl) ?_
      refine lv_iconst (v := 3) hx hb dL_law_1579 (by decide) ?_
      refine lv_iadd hx hb dL_law_1580  ?_
      refine lv_topi (fun x123 ex123 => ?_)
      obtain rfl : x123 = 3 := ex123.trans (by decide)
      refine va_sld hx hb hX hbl hbA hS (show vp_in 3 6 from by unfold vp_in; decide) dL_law_1581 ?_
      refine lv_topi (fun x124 ex124 => ?_)
      obtain rfl : w3 = x124 := hw3.trans ex124.symm
      have hPc := hP.sub (ws' := [(aZ, .inr (15, fsZ))]) [0] rfl
      have hDc := hD.sub (ws' := [(aZ, .inr (15, fsZ))]) [0] (by decide) rfl
      have hKc := hK.sub (tys' := []) [] rfl
      have hFc := va_free (wc := [(aZ, .inr (15, fsZ))]) hD hS hA [0] rfl
      refine va_calll (va_runV (As := [.int w1, .int w2, .int w3]) (rest := []) ⟨hx, hb, hml, hown, hts⟩ (z_X12_row l dC dI H.size aZ fsZ w1 w2 w3 (fh_sub o_fsZ.2 [0, 1] rfl) ) (cwV 3 hts g_lk_23_z_X12_row_219 rfl rfl rfl (by decide +kernel) ⟨Nat.le_of_ble_eq_true rfl, Nat.le_of_ble_eq_true rfl⟩) ⟨fun a U g mk q => by obtain ⟨q0, q1, qP, qK, qD⟩ := q; exact ⟨q0, q1, qP, va_K.moved (u := U) (U := U.calling g mk a) (Vm.Alike.refl U.vm) qK, qD⟩, va_recv hK hP (ci := 15) (q0 := 0) rfl rfl, fun U hU hW => ⟨rfl, by rw [hU], by rw [hU]; exact hPc, va_K.moved hW.alike hKc, hDc.weaken (fun _ _ _ _ => trivial)⟩⟩ rfl rfl hl.1 rfl (lv_room (Nat.le_of_ble_eq_true rfl)) dL_law_1582 ⟨Nat.le_of_ble_eq_true rfl, Nat.le_of_ble_eq_true rfl⟩) hS (fun q _ h => hFc q h) hFc (fun r125 u t H1 locs ht hvm hw hB hz1 hk1 hS => ?_)
      obtain ⟨s126, rfl⟩ : ∃ z, z = u := ⟨_, rfl⟩
      obtain ⟨hP1, hK1, hD1⟩ := hB
      rw [ht] at hP1
      try dsimp only at hw
      obtain ⟨hP, hD⟩ := va_join (wr := []) (w1 := [(aZ, .inr (15, s126))]) hP hD [0] [] rfl rfl (by decide) (by decide) hk1 hFc hP1 hD1
      have hK := hK.sub (tys' := []) [] rfl
      generalize H1 = H at hP hS ⊢
      have hP : va_P (dC, dI) vwCl [(aZ, .inr (15, s126))] H := hP
      have hD : va_D A [(aZ, .inr (15, s126))] := hD
      rcases hw with ⟨c127, er128, o_s126⟩ | ⟨c129, c130, er131, o_s126⟩
      · skip
        subst er128
        have o_s126 := ow_on o_fsZ o_s126 (l' := [(0, .int 1), (44, .int 0), (44, .int 0)]) (w' := [0]) rfl rfl
        refine lv_lstore (lv' := [(6, .long 0), (5, .int 1), (0, .ref b), (1, .ref aX), (2, .ref aZ), (3, .ref qO), (4, .int 0)]) hx hb dL_law_1585 hl (by decide) rfl (fun ls hl => ?_)
        refine lv_aload_n hx hb dL_law_1587 rfl (lv_at hl 4 rfl) ?_
        have hPc := hP.sub (ws' := [(aZ, .inr (15, s126))]) [0] rfl
        have hDc := hD.sub (ws' := [(aZ, .inr (15, s126))]) [0] (by decide) rfl
        have hKc := hK.sub (tys' := []) [] rfl
        have hFc := va_free (wc := [(aZ, .inr (15, s126))]) hD hS hA [0] rfl
        refine va_calli (va_runV (As := []) (rest := []) ⟨hx, hb, hml, hown, hts⟩ (z_X12_thrown l dC dI H.size aZ s126 (fh_sub o_s126.2 [0] rfl) ) (cwV 0 hts g_lk_23_z_X12_thrown_149 rfl rfl rfl (by decide +kernel) ⟨Nat.le_of_ble_eq_true rfl, Nat.le_of_ble_eq_true rfl⟩) ⟨fun a U g mk q => by obtain ⟨q0, q1, qP, qK, qD⟩ := q; exact ⟨q0, q1, qP, va_K.moved (u := U) (U := U.calling g mk a) (Vm.Alike.refl U.vm) qK, qD⟩, va_recv hK hP (ci := 15) (q0 := 0) rfl rfl, fun U hU hW => ⟨rfl, by rw [hU], by rw [hU]; exact hPc, va_K.moved hW.alike hKc, hDc.weaken (fun _ _ _ _ => trivial)⟩⟩ rfl rfl hl.1 rfl (lv_room (Nat.le_of_ble_eq_true rfl)) dL_law_1588 ⟨Nat.le_of_ble_eq_true rfl, Nat.le_of_ble_eq_true rfl⟩) hS (fun q _ h => hFc q h) hFc (fun r132 u t H1 locs ht hvm hw hB hz1 hk1 hS => ?_)
        obtain ⟨hP1, hK1, hD1⟩ := hB
        rw [ht] at hP1
        try dsimp only at hw
        obtain ⟨hP, hD⟩ := va_join (wr := []) (w1 := [(aZ, .inr (15, s126))]) hP hD [0] [] rfl rfl (by decide) (by decide) hk1 hFc hP1 hD1
        have hK := hK.sub (tys' := []) [] rfl
        generalize H1 = H at hP hS ⊢
        have hP : va_P (dC, dI) vwCl [(aZ, .inr (15, s126))] H := hP
        have hD : va_D A [(aZ, .inr (15, s126))] := hD
        have er133 := hw
        subst er133
        refine lv_iload hx hb dL_law_1591 (lv_at hl 1 rfl) ?_
        refine lv_icmp_eq (tgt := 1598) hx hb dL_law_1593 (by decide) (fun c134 => ?_) (fun c134 => absurd c134 (by decide))
        refine lv_iload hx hb dL_law_1598 (lv_at hl 1 rfl) ?_
        refine lv_if_ne (tgt := 1614) hx hb dL_law_1600 (by decide) (fun c135 => ?_) (fun c135 => absurd c135 (by decide))
        refine lv_goto (tgt := 3111) hx hb dL_law_1614 (by decide) ?_
        exact lw_end hst C0 hA hAf hZ hY (Nat.le_of_ble_eq_true rfl) (Nat.le_of_ble_eq_true rfl) dC dI P0k P0 D0 hS ls (lv_sub hl [2, 6] rfl)
      · skip
        subst er131
        have o_s126 := ow_on o_fsZ o_s126 (l' := [(0, .int 1), (44, .int 0), (44, .int 0)]) (w' := [0]) rfl rfl
        refine lv_lstore (lv' := [(6, .long 0), (5, .int 1), (0, .ref b), (1, .ref aX), (2, .ref aZ), (3, .ref qO), (4, .int 0)]) hx hb dL_law_1585 hl (by decide) rfl (fun ls hl => ?_)
        refine lv_aload_n hx hb dL_law_1587 rfl (lv_at hl 4 rfl) ?_
        have hPc := hP.sub (ws' := [(aZ, .inr (15, s126))]) [0] rfl
        have hDc := hD.sub (ws' := [(aZ, .inr (15, s126))]) [0] (by decide) rfl
        have hKc := hK.sub (tys' := []) [] rfl
        have hFc := va_free (wc := [(aZ, .inr (15, s126))]) hD hS hA [0] rfl
        refine va_calli (va_runV (As := []) (rest := []) ⟨hx, hb, hml, hown, hts⟩ (z_X12_thrown l dC dI H.size aZ s126 (fh_sub o_s126.2 [0] rfl) ) (cwV 0 hts g_lk_23_z_X12_thrown_149 rfl rfl rfl (by decide +kernel) ⟨Nat.le_of_ble_eq_true rfl, Nat.le_of_ble_eq_true rfl⟩) ⟨fun a U g mk q => by obtain ⟨q0, q1, qP, qK, qD⟩ := q; exact ⟨q0, q1, qP, va_K.moved (u := U) (U := U.calling g mk a) (Vm.Alike.refl U.vm) qK, qD⟩, va_recv hK hP (ci := 15) (q0 := 0) rfl rfl, fun U hU hW => ⟨rfl, by rw [hU], by rw [hU]; exact hPc, va_K.moved hW.alike hKc, hDc.weaken (fun _ _ _ _ => trivial)⟩⟩ rfl rfl hl.1 rfl (lv_room (Nat.le_of_ble_eq_true rfl)) dL_law_1588 ⟨Nat.le_of_ble_eq_true rfl, Nat.le_of_ble_eq_true rfl⟩) hS (fun q _ h => hFc q h) hFc (fun r136 u t H1 locs ht hvm hw hB hz1 hk1 hS => ?_)
        obtain ⟨hP1, hK1, hD1⟩ := hB
        rw [ht] at hP1
        try dsimp only at hw
        obtain ⟨hP, hD⟩ := va_join (wr := []) (w1 := [(aZ, .inr (15, s126))]) hP hD [0] [] rfl rfl (by decide) (by decide) hk1 hFc hP1 hD1
        have hK := hK.sub (tys' := []) [] rfl
        generalize H1 = H at hP hS ⊢
        have hP : va_P (dC, dI) vwCl [(aZ, .inr (15, s126))] H := hP
        have hD : va_D A [(aZ, .inr (15, s126))] := hD
        have er137 := hw
        subst er137
        refine lv_iload hx hb dL_law_1591 (lv_at hl 1 rfl) ?_
        refine lv_icmp_eq (tgt := 1598) hx hb dL_law_1593 (by decide) (fun c138 => ?_) (fun c138 => absurd c138 (by decide))
        refine lv_iload hx hb dL_law_1598 (lv_at hl 1 rfl) ?_
        refine lv_if_ne (tgt := 1614) hx hb dL_law_1600 (by decide) (fun c139 => ?_) (fun c139 => absurd c139 (by decide))
        refine lv_goto (tgt := 3111) hx hb dL_law_1614 (by decide) ?_
        exact lw_end hst C0 hA hAf hZ hY (Nat.le_of_ble_eq_true rfl) (Nat.le_of_ble_eq_true rfl) dC dI P0k P0 D0 hS ls (lv_sub hl [2, 6] rfl)
    · skip
      subst er113
      refine lv_istore (lv' := [(5, .int 1), (0, .ref b), (1, .ref aX), (2, .ref aZ), (3, .ref qO), (4, .int 0)]) hx hb dL_law_1561 hl (by decide) rfl (fun ls hl => ?_)
      refine lv_aload_n hx hb dL_law_1563 rfl (lv_at hl 3 rfl) ?_
      refine lv_aload_n hx hb dL_law_1564 rfl (lv_at hl 1 rfl) ?_
      refine lv_iload hx hb dL_law_1565 (lv_at hl 5 rfl) ?_
      refine lv_iconst (v := 1) hx hb dL_law_1567 (by decide) ?_
      refine lv_iadd hx hb dL_law_1568  ?_
      refine lv_topi (fun x140 ex140 => ?_)
      obtain rfl : x140 = 1 := ex140.trans (by decide)
      refine va_sld hx hb hX hbl hbA hS (show vp_in 1 6 from by unfold vp_in; decide) dL_law_1569 ?_
      refine lv_topi (fun x141 ex141 => ?_)
      obtain rfl : w1 = x141 := hw1.trans ex141.symm
      refine lv_aload_n hx hb dL_law_1570 rfl (lv_at hl 1 rfl) ?_
      refine lv_iload hx hb dL_law_1571 (lv_at hl 5 rfl) ?_
      refine lv_iconst (v := 2) hx hb dL_law_1573 (by decide) ?_
      refine lv_iadd hx hb dL_law_1574  ?_
      refine lv_topi (fun x142 ex142 => ?_)
      obtain rfl : x142 = 2 := ex142.trans (by decide)
      refine va_sld hx hb hX hbl hbA hS (show vp_in 2 6 from by unfold vp_in; decide) dL_law_1575 ?_
      refine lv_topi (fun x143 ex143 => ?_)
      obtain rfl : w2 = x143 := hw2.trans ex143.symm
      refine lv_aload_n hx hb dL_law_1576 rfl (lv_at hl 1 rfl) ?_
      refine lv_iload hx hb dL_law_1577 (lv_at hl 5 rfl) ?_
      refine lv_iconst (v := 3) hx hb dL_law_1579 (by decide) ?_
      refine lv_iadd hx hb dL_law_1580  ?_
      refine lv_topi (fun x144 ex144 => ?_)
      obtain rfl : x144 = 3 := ex144.trans (by decide)
      refine va_sld hx hb hX hbl hbA hS (show vp_in 3 6 from by unfold vp_in; decide) dL_law_1581 ?_
      refine lv_topi (fun x145 ex145 => ?_)
      obtain rfl : w3 = x145 := hw3.trans ex145.symm
      have hPc := hP.sub (ws' := [(aZ, .inr (15, fsZ))]) [0] rfl
      have hDc := hD.sub (ws' := [(aZ, .inr (15, fsZ))]) [0] (by decide) rfl
      have hKc := hK.sub (tys' := []) [] rfl
      have hFc := va_free (wc := [(aZ, .inr (15, fsZ))]) hD hS hA [0] rfl
      refine va_calll (va_runV (As := [.int w1, .int w2, .int w3]) (rest := []) ⟨hx, hb, hml, hown, hts⟩ (z_X12_row l dC dI H.size aZ fsZ w1 w2 w3 (fh_sub o_fsZ.2 [0, 1] rfl) ) (cwV 3 hts g_lk_23_z_X12_row_219 rfl rfl rfl (by decide +kernel) ⟨Nat.le_of_ble_eq_true rfl, Nat.le_of_ble_eq_true rfl⟩) ⟨fun a U g mk q => by obtain ⟨q0, q1, qP, qK, qD⟩ := q; exact ⟨q0, q1, qP, va_K.moved (u := U) (U := U.calling g mk a) (Vm.Alike.refl U.vm) qK, qD⟩, va_recv hK hP (ci := 15) (q0 := 0) rfl rfl, fun U hU hW => ⟨rfl, by rw [hU], by rw [hU]; exact hPc, va_K.moved hW.alike hKc, hDc.weaken (fun _ _ _ _ => trivial)⟩⟩ rfl rfl hl.1 rfl (lv_room (Nat.le_of_ble_eq_true rfl)) dL_law_1582 ⟨Nat.le_of_ble_eq_true rfl, Nat.le_of_ble_eq_true rfl⟩) hS (fun q _ h => hFc q h) hFc (fun r146 u t H1 locs ht hvm hw hB hz1 hk1 hS => ?_)
      obtain ⟨s147, rfl⟩ : ∃ z, z = u := ⟨_, rfl⟩
      obtain ⟨hP1, hK1, hD1⟩ := hB
      rw [ht] at hP1
      try dsimp only at hw
      obtain ⟨hP, hD⟩ := va_join (wr := []) (w1 := [(aZ, .inr (15, s147))]) hP hD [0] [] rfl rfl (by decide) (by decide) hk1 hFc hP1 hD1
      have hK := hK.sub (tys' := []) [] rfl
      generalize H1 = H at hP hS ⊢
      have hP : va_P (dC, dI) vwCl [(aZ, .inr (15, s147))] H := hP
      have hD : va_D A [(aZ, .inr (15, s147))] := hD
      rcases hw with ⟨c148, er149, o_s147⟩ | ⟨c150, c151, er152, o_s147⟩
      · skip
        subst er149
        have o_s147 := ow_on o_fsZ o_s147 (l' := [(0, .int 1), (44, .int 0), (44, .int 0)]) (w' := [0]) rfl rfl
        refine lv_lstore (lv' := [(6, .long 0), (5, .int 1), (0, .ref b), (1, .ref aX), (2, .ref aZ), (3, .ref qO), (4, .int 0)]) hx hb dL_law_1585 hl (by decide) rfl (fun ls hl => ?_)
        refine lv_aload_n hx hb dL_law_1587 rfl (lv_at hl 4 rfl) ?_
        have hPc := hP.sub (ws' := [(aZ, .inr (15, s147))]) [0] rfl
        have hDc := hD.sub (ws' := [(aZ, .inr (15, s147))]) [0] (by decide) rfl
        have hKc := hK.sub (tys' := []) [] rfl
        have hFc := va_free (wc := [(aZ, .inr (15, s147))]) hD hS hA [0] rfl
        refine va_calli (va_runV (As := []) (rest := []) ⟨hx, hb, hml, hown, hts⟩ (z_X12_thrown l dC dI H.size aZ s147 (fh_sub o_s147.2 [0] rfl) ) (cwV 0 hts g_lk_23_z_X12_thrown_149 rfl rfl rfl (by decide +kernel) ⟨Nat.le_of_ble_eq_true rfl, Nat.le_of_ble_eq_true rfl⟩) ⟨fun a U g mk q => by obtain ⟨q0, q1, qP, qK, qD⟩ := q; exact ⟨q0, q1, qP, va_K.moved (u := U) (U := U.calling g mk a) (Vm.Alike.refl U.vm) qK, qD⟩, va_recv hK hP (ci := 15) (q0 := 0) rfl rfl, fun U hU hW => ⟨rfl, by rw [hU], by rw [hU]; exact hPc, va_K.moved hW.alike hKc, hDc.weaken (fun _ _ _ _ => trivial)⟩⟩ rfl rfl hl.1 rfl (lv_room (Nat.le_of_ble_eq_true rfl)) dL_law_1588 ⟨Nat.le_of_ble_eq_true rfl, Nat.le_of_ble_eq_true rfl⟩) hS (fun q _ h => hFc q h) hFc (fun r153 u t H1 locs ht hvm hw hB hz1 hk1 hS => ?_)
        obtain ⟨hP1, hK1, hD1⟩ := hB
        rw [ht] at hP1
        try dsimp only at hw
        obtain ⟨hP, hD⟩ := va_join (wr := []) (w1 := [(aZ, .inr (15, s147))]) hP hD [0] [] rfl rfl (by decide) (by decide) hk1 hFc hP1 hD1
        have hK := hK.sub (tys' := []) [] rfl
        generalize H1 = H at hP hS ⊢
        have hP : va_P (dC, dI) vwCl [(aZ, .inr (15, s147))] H := hP
        have hD : va_D A [(aZ, .inr (15, s147))] := hD
        have er154 := hw
        subst er154
        refine lv_iload hx hb dL_law_1591 (lv_at hl 1 rfl) ?_
        refine lv_icmp_eq (tgt := 1598) hx hb dL_law_1593 (by decide) (fun c155 => ?_) (fun c155 => absurd c155 (by decide))
        refine lv_iload hx hb dL_law_1598 (lv_at hl 1 rfl) ?_
        refine lv_if_ne (tgt := 1614) hx hb dL_law_1600 (by decide) (fun c156 => ?_) (fun c156 => absurd c156 (by decide))
        refine lv_goto (tgt := 3111) hx hb dL_law_1614 (by decide) ?_
        exact lw_end hst C0 hA hAf hZ hY (Nat.le_of_ble_eq_true rfl) (Nat.le_of_ble_eq_true rfl) dC dI P0k P0 D0 hS ls (lv_sub hl [2, 6] rfl)
      · exact (by exfalso; (try simp only [i_lt, i_le, i_eq, kc_0] at c111 c150 c151); omega)
    · skip
      subst er118
      refine lv_istore (lv' := [(5, .int 1), (0, .ref b), (1, .ref aX), (2, .ref aZ), (3, .ref qO), (4, .int 0)]) hx hb dL_law_1561 hl (by decide) rfl (fun ls hl => ?_)
      refine lv_aload_n hx hb dL_law_1563 rfl (lv_at hl 3 rfl) ?_
      refine lv_aload_n hx hb dL_law_1564 rfl (lv_at hl 1 rfl) ?_
      refine lv_iload hx hb dL_law_1565 (lv_at hl 5 rfl) ?_
      refine lv_iconst (v := 1) hx hb dL_law_1567 (by decide) ?_
      refine lv_iadd hx hb dL_law_1568  ?_
      refine lv_topi (fun x157 ex157 => ?_)
      obtain rfl : x157 = 1 := ex157.trans (by decide)
      refine va_sld hx hb hX hbl hbA hS (show vp_in 1 6 from by unfold vp_in; decide) dL_law_1569 ?_
      refine lv_topi (fun x158 ex158 => ?_)
      obtain rfl : w1 = x158 := hw1.trans ex158.symm
      refine lv_aload_n hx hb dL_law_1570 rfl (lv_at hl 1 rfl) ?_
      refine lv_iload hx hb dL_law_1571 (lv_at hl 5 rfl) ?_
      refine lv_iconst (v := 2) hx hb dL_law_1573 (by decide) ?_
      refine lv_iadd hx hb dL_law_1574  ?_
      refine lv_topi (fun x159 ex159 => ?_)
      obtain rfl : x159 = 2 := ex159.trans (by decide)
      refine va_sld hx hb hX hbl hbA hS (show vp_in 2 6 from by unfold vp_in; decide) dL_law_1575 ?_
      refine lv_topi (fun x160 ex160 => ?_)
      obtain rfl : w2 = x160 := hw2.trans ex160.symm
      refine lv_aload_n hx hb dL_law_1576 rfl (lv_at hl 1 rfl) ?_
      refine lv_iload hx hb dL_law_1577 (lv_at hl 5 rfl) ?_
      refine lv_iconst (v := 3) hx hb dL_law_1579 (by decide) ?_
      refine lv_iadd hx hb dL_law_1580  ?_
      refine lv_topi (fun x161 ex161 => ?_)
      obtain rfl : x161 = 3 := ex161.trans (by decide)
      refine va_sld hx hb hX hbl hbA hS (show vp_in 3 6 from by unfold vp_in; decide) dL_law_1581 ?_
      refine lv_topi (fun x162 ex162 => ?_)
      obtain rfl : w3 = x162 := hw3.trans ex162.symm
      have hPc := hP.sub (ws' := [(aZ, .inr (15, fsZ))]) [0] rfl
      have hDc := hD.sub (ws' := [(aZ, .inr (15, fsZ))]) [0] (by decide) rfl
      have hKc := hK.sub (tys' := []) [] rfl
      have hFc := va_free (wc := [(aZ, .inr (15, fsZ))]) hD hS hA [0] rfl
      refine va_calll (va_runV (As := [.int w1, .int w2, .int w3]) (rest := []) ⟨hx, hb, hml, hown, hts⟩ (z_X12_row l dC dI H.size aZ fsZ w1 w2 w3 (fh_sub o_fsZ.2 [0, 1] rfl) ) (cwV 3 hts g_lk_23_z_X12_row_219 rfl rfl rfl (by decide +kernel) ⟨Nat.le_of_ble_eq_true rfl, Nat.le_of_ble_eq_true rfl⟩) ⟨fun a U g mk q => by obtain ⟨q0, q1, qP, qK, qD⟩ := q; exact ⟨q0, q1, qP, va_K.moved (u := U) (U := U.calling g mk a) (Vm.Alike.refl U.vm) qK, qD⟩, va_recv hK hP (ci := 15) (q0 := 0) rfl rfl, fun U hU hW => ⟨rfl, by rw [hU], by rw [hU]; exact hPc, va_K.moved hW.alike hKc, hDc.weaken (fun _ _ _ _ => trivial)⟩⟩ rfl rfl hl.1 rfl (lv_room (Nat.le_of_ble_eq_true rfl)) dL_law_1582 ⟨Nat.le_of_ble_eq_true rfl, Nat.le_of_ble_eq_true rfl⟩) hS (fun q _ h => hFc q h) hFc (fun r163 u t H1 locs ht hvm hw hB hz1 hk1 hS => ?_)
      obtain ⟨s164, rfl⟩ : ∃ z, z = u := ⟨_, rfl⟩
      obtain ⟨hP1, hK1, hD1⟩ := hB
      rw [ht] at hP1
      try dsimp only at hw
      obtain ⟨hP, hD⟩ := va_join (wr := []) (w1 := [(aZ, .inr (15, s164))]) hP hD [0] [] rfl rfl (by decide) (by decide) hk1 hFc hP1 hD1
      have hK := hK.sub (tys' := []) [] rfl
      generalize H1 = H at hP hS ⊢
      have hP : va_P (dC, dI) vwCl [(aZ, .inr (15, s164))] H := hP
      have hD : va_D A [(aZ, .inr (15, s164))] := hD
      rcases hw with ⟨c165, er166, o_s164⟩ | ⟨c167, c168, er169, o_s164⟩
      · exact (by exfalso; (try simp only [i_lt, i_le, i_eq, kc_0] at c115 c116 c165); omega)
      · skip
        subst er169
        have o_s164 := ow_on o_fsZ o_s164 (l' := [(0, .int 1), (44, .int 0), (44, .int 0)]) (w' := [0]) rfl rfl
        refine lv_lstore (lv' := [(6, .long 0), (5, .int 1), (0, .ref b), (1, .ref aX), (2, .ref aZ), (3, .ref qO), (4, .int 0)]) hx hb dL_law_1585 hl (by decide) rfl (fun ls hl => ?_)
        refine lv_aload_n hx hb dL_law_1587 rfl (lv_at hl 4 rfl) ?_
        have hPc := hP.sub (ws' := [(aZ, .inr (15, s164))]) [0] rfl
        have hDc := hD.sub (ws' := [(aZ, .inr (15, s164))]) [0] (by decide) rfl
        have hKc := hK.sub (tys' := []) [] rfl
        have hFc := va_free (wc := [(aZ, .inr (15, s164))]) hD hS hA [0] rfl
        refine va_calli (va_runV (As := []) (rest := []) ⟨hx, hb, hml, hown, hts⟩ (z_X12_thrown l dC dI H.size aZ s164 (fh_sub o_s164.2 [0] rfl) ) (cwV 0 hts g_lk_23_z_X12_thrown_149 rfl rfl rfl (by decide +kernel) ⟨Nat.le_of_ble_eq_true rfl, Nat.le_of_ble_eq_true rfl⟩) ⟨fun a U g mk q => by obtain ⟨q0, q1, qP, qK, qD⟩ := q; exact ⟨q0, q1, qP, va_K.moved (u := U) (U := U.calling g mk a) (Vm.Alike.refl U.vm) qK, qD⟩, va_recv hK hP (ci := 15) (q0 := 0) rfl rfl, fun U hU hW => ⟨rfl, by rw [hU], by rw [hU]; exact hPc, va_K.moved hW.alike hKc, hDc.weaken (fun _ _ _ _ => trivial)⟩⟩ rfl rfl hl.1 rfl (lv_room (Nat.le_of_ble_eq_true rfl)) dL_law_1588 ⟨Nat.le_of_ble_eq_true rfl, Nat.le_of_ble_eq_true rfl⟩) hS (fun q _ h => hFc q h) hFc (fun r170 u t H1 locs ht hvm hw hB hz1 hk1 hS => ?_)
        obtain ⟨hP1, hK1, hD1⟩ := hB
        rw [ht] at hP1
        try dsimp only at hw
        obtain ⟨hP, hD⟩ := va_join (wr := []) (w1 := [(aZ, .inr (15, s164))]) hP hD [0] [] rfl rfl (by decide) (by decide) hk1 hFc hP1 hD1
        have hK := hK.sub (tys' := []) [] rfl
        generalize H1 = H at hP hS ⊢
        have hP : va_P (dC, dI) vwCl [(aZ, .inr (15, s164))] H := hP
        have hD : va_D A [(aZ, .inr (15, s164))] := hD
        have er171 := hw
        subst er171
        refine lv_iload hx hb dL_law_1591 (lv_at hl 1 rfl) ?_
        refine lv_icmp_eq (tgt := 1598) hx hb dL_law_1593 (by decide) (fun c172 => ?_) (fun c172 => absurd c172 (by decide))
        refine lv_iload hx hb dL_law_1598 (lv_at hl 1 rfl) ?_
        refine lv_if_ne (tgt := 1614) hx hb dL_law_1600 (by decide) (fun c173 => ?_) (fun c173 => absurd c173 (by decide))
        refine lv_goto (tgt := 3111) hx hb dL_law_1614 (by decide) ?_
        exact lw_end hst C0 hA hAf hZ hY (Nat.le_of_ble_eq_true rfl) (Nat.le_of_ble_eq_true rfl) dC dI P0k P0 D0 hS ls (lv_sub hl [2, 6] rfl)

set_option maxRecDepth 20000 in
theorem g_lk_24_z_L_promise_220 : GoodIn lwW (va_wsS RL 220 yL_promise w_z_L_promise) := goodIn_app (goodIn_sub (ws := ([.methodLink RL 220 yL_promise, .static yL_promise, .initialized RL] : List Cond)) (gm_c (gm_at lwV_37_in 0 rfl) (gm_c (gm_at lwV_37_in 1 rfl) (gm_c (gm_at lwV_5_in 10 rfl) gm_nil))) (by decide +kernel)) (goodIn_ca (goodIn_sub (ws := .codeWith yL_promise cL_promise 3 (some .int) [(0, 8, 11, 17), (0, 8, 14, 15)] :: l_z_L_promise) (gm_c (gm_at lwV_37_in 5 rfl) (gm_c (gm_at lwV_37_in 6 rfl) (gm_c (gm_at lwV_37_in 7 rfl) (gm_c (gm_at lwV_37_in 8 rfl) (gm_c (gm_at lwV_0_in 3 rfl) (gm_c (gm_at lwV_37_in 9 rfl) (gm_c (gm_at lwV_6_in 10 rfl) (gm_c (gm_at lwV_37_in 10 rfl) (gm_c (gm_at lwV_37_in 11 rfl) (gm_c (gm_at lwV_38_in 0 rfl) (gm_c (gm_at lwV_38_in 1 rfl) (gm_c (gm_at lwV_38_in 2 rfl) (gm_c (gm_at lwV_38_in 3 rfl) (gm_c (gm_at lwV_38_in 4 rfl) (gm_c (gm_at lwV_38_in 5 rfl) (gm_c (gm_at lwV_38_in 6 rfl) (gm_c (gm_at lwV_38_in 7 rfl) (gm_c (gm_at lwV_38_in 8 rfl) (gm_c (gm_at lwV_38_in 9 rfl) (gm_c (gm_at lwV_7_in 5 rfl) (gm_c (gm_at lwV_7_in 6 rfl) (gm_c (gm_at lwV_38_in 10 rfl) (gm_c (gm_at lwV_38_in 11 rfl) (gm_c (gm_at lwV_39_in 0 rfl) (gm_c (gm_at lwV_39_in 1 rfl) (gm_c (gm_at lwV_39_in 2 rfl) (gm_c (gm_at lwV_39_in 3 rfl) (gm_c (gm_at lwV_39_in 4 rfl) (gm_c (gm_at lwV_39_in 5 rfl) (gm_c (gm_at lwV_39_in 6 rfl) (gm_c (gm_at lwV_39_in 7 rfl) (gm_c (gm_at lwV_39_in 8 rfl) (gm_c (gm_at lwV_39_in 9 rfl) (gm_c (gm_at lwV_39_in 10 rfl) (gm_c (gm_at lwV_39_in 11 rfl) (gm_c (gm_at lwV_40_in 0 rfl) (gm_c (gm_at lwV_40_in 1 rfl) (gm_c (gm_at lwV_40_in 2 rfl) (gm_c (gm_at lwV_40_in 3 rfl) (gm_c (gm_at lwV_40_in 4 rfl) (gm_c (gm_at lwV_40_in 5 rfl) (gm_c (gm_at lwV_40_in 6 rfl) (gm_c (gm_at lwV_40_in 7 rfl) (gm_c (gm_at lwV_40_in 8 rfl) (gm_c (gm_at lwV_1_in 1 rfl) (gm_c (gm_at lwV_40_in 9 rfl) (gm_c (gm_at lwV_8_in 1 rfl) (gm_c (gm_at lwV_8_in 2 rfl) (gm_c (gm_at lwV_8_in 3 rfl) (gm_c (gm_at lwV_8_in 4 rfl) (gm_c (gm_at lwV_40_in 10 rfl) (gm_c (gm_at lwV_8_in 5 rfl) (gm_c (gm_at lwV_40_in 11 rfl) (gm_c (gm_at lwV_8_in 7 rfl) (gm_c (gm_at lwV_41_in 0 rfl) (gm_c (gm_at lwV_8_in 8 rfl) (gm_c (gm_at lwV_41_in 1 rfl) (gm_c (gm_at lwV_41_in 2 rfl) (gm_c (gm_at lwV_41_in 3 rfl) (gm_c (gm_at lwV_41_in 4 rfl) (gm_c (gm_at lwV_8_in 6 rfl) (gm_c (gm_at lwV_2_in 6 rfl) (gm_c (gm_at lwV_41_in 5 rfl) (gm_c (gm_at lwV_41_in 6 rfl) (gm_c (gm_at lwV_41_in 7 rfl) (gm_c (gm_at lwV_41_in 8 rfl) (gm_c (gm_at lwV_41_in 9 rfl) (gm_c (gm_at lwV_41_in 10 rfl) (gm_c (gm_at lwV_41_in 11 rfl) (gm_c (gm_at lwV_42_in 0 rfl) (gm_c (gm_at lwV_42_in 1 rfl) (gm_c (gm_at lwV_42_in 2 rfl) (gm_c (gm_at lwV_42_in 3 rfl) (gm_c (gm_at lwV_42_in 4 rfl) (gm_c (gm_at lwV_42_in 5 rfl) (gm_c (gm_at lwV_42_in 6 rfl) (gm_c (gm_at lwV_42_in 7 rfl) (gm_c (gm_at lwV_42_in 8 rfl) (gm_c (gm_at lwV_42_in 9 rfl) (gm_c (gm_at lwV_42_in 10 rfl) (gm_c (gm_at lwV_42_in 11 rfl) (gm_c (gm_at lwV_43_in 0 rfl) (gm_c (gm_at lwV_43_in 1 rfl) (gm_c (gm_at lwV_43_in 2 rfl) (gm_c (gm_at lwV_43_in 3 rfl) (gm_c (gm_at lwV_43_in 4 rfl) (gm_c (gm_at lwV_43_in 5 rfl) (gm_c (gm_at lwV_43_in 6 rfl) (gm_c (gm_at lwV_43_in 7 rfl) (gm_c (gm_at lwV_43_in 8 rfl) (gm_c (gm_at lwV_43_in 9 rfl) (gm_c (gm_at lwV_43_in 10 rfl) (gm_c (gm_at lwV_43_in 11 rfl) (gm_c (gm_at lwV_44_in 0 rfl) (gm_c (gm_at lwV_44_in 1 rfl) (gm_c (gm_at lwV_44_in 2 rfl) (gm_c (gm_at lwV_44_in 3 rfl) (gm_c (gm_at lwV_44_in 4 rfl) (gm_c (gm_at lwV_44_in 5 rfl) (gm_c (gm_at lwV_44_in 6 rfl) (gm_c (gm_at lwV_44_in 7 rfl) (gm_c (gm_at lwV_44_in 8 rfl) (gm_c (gm_at lwV_44_in 9 rfl) (gm_c (gm_at lwV_44_in 10 rfl) (gm_c (gm_at lwV_44_in 11 rfl) (gm_c (gm_at lwV_45_in 0 rfl) (gm_c (gm_at lwV_45_in 1 rfl) (gm_c (gm_at lwV_45_in 2 rfl) (gm_c (gm_at lwV_45_in 3 rfl) gm_nil))))))))))))))))))))))))))))))))))))))))))))))))))))))))))))))))))))))))))))))))))))))))))))))))))))))))))))) (by decide +kernel)) (goodIn_app (goodIn_in il_X11 gd_X11) (goodIn_app (goodIn_in il_X6 gd_X6) (goodIn_app (goodIn_in il_at0_X11_129 gd_at0_X11_129) (goodIn_in il_X9 gd_X9)))))
set_option maxRecDepth 20000 in
theorem g_lk_24_z_X12_promise_223 : GoodIn lwW (wsV RL 223 RX12 yX12_promise w_z_X12_promise) := goodIn_app (goodIn_sub (ws := ([.methodLink RL 223 yX12_promise, .instanceMethod yX12_promise, .selects RX12 yX12_promise yX12_promise, .initialized RX12] : List Cond)) (gm_c (gm_at lwV_37_in 2 rfl) (gm_c (gm_at lwV_37_in 3 rfl) (gm_c (gm_at lwV_37_in 4 rfl) (gm_c (gm_at lwV_0_in 7 rfl) gm_nil)))) (by decide +kernel)) (goodIn_ca (goodIn_sub (ws := .code yX12_promise cX12_promise 3 (some .int) :: l_z_X12_promise) (gm_c (gm_at lwV_45_in 4 rfl) (gm_c (gm_at lwV_45_in 5 rfl) (gm_c (gm_at lwV_1_in 5 rfl) (gm_c (gm_at lwV_45_in 6 rfl) (gm_c (gm_at lwV_45_in 7 rfl) (gm_c (gm_at lwV_45_in 8 rfl) (gm_c (gm_at lwV_0_in 7 rfl) (gm_c (gm_at lwV_45_in 9 rfl) (gm_c (gm_at lwV_45_in 10 rfl) (gm_c (gm_at lwV_45_in 11 rfl) (gm_c (gm_at lwV_46_in 0 rfl) (gm_c (gm_at lwV_46_in 1 rfl) (gm_c (gm_at lwV_46_in 2 rfl) (gm_c (gm_at lwV_46_in 3 rfl) (gm_c (gm_at lwV_46_in 4 rfl) (gm_c (gm_at lwV_46_in 5 rfl) (gm_c (gm_at lwV_46_in 6 rfl) (gm_c (gm_at lwV_46_in 7 rfl) (gm_c (gm_at lwV_46_in 8 rfl) (gm_c (gm_at lwV_46_in 9 rfl) (gm_c (gm_at lwV_46_in 10 rfl) (gm_c (gm_at lwV_46_in 11 rfl) (gm_c (gm_at lwV_47_in 0 rfl) (gm_c (gm_at lwV_47_in 1 rfl) (gm_c (gm_at lwV_47_in 2 rfl) (gm_c (gm_at lwV_47_in 3 rfl) (gm_c (gm_at lwV_47_in 4 rfl) (gm_c (gm_at lwV_47_in 5 rfl) (gm_c (gm_at lwV_47_in 6 rfl) (gm_c (gm_at lwV_47_in 7 rfl) (gm_c (gm_at lwV_47_in 8 rfl) (gm_c (gm_at lwV_47_in 9 rfl) (gm_c (gm_at lwV_47_in 10 rfl) (gm_c (gm_at lwV_47_in 11 rfl) (gm_c (gm_at lwV_3_in 5 rfl) (gm_c (gm_at lwV_48_in 0 rfl) (gm_c (gm_at lwV_48_in 1 rfl) (gm_c (gm_at lwV_48_in 2 rfl) (gm_c (gm_at lwV_48_in 3 rfl) (gm_c (gm_at lwV_48_in 4 rfl) (gm_c (gm_at lwV_48_in 5 rfl) (gm_c (gm_at lwV_48_in 6 rfl) (gm_c (gm_at lwV_48_in 7 rfl) (gm_c (gm_at lwV_48_in 8 rfl) (gm_c (gm_at lwV_48_in 9 rfl) (gm_c (gm_at lwV_48_in 10 rfl) (gm_c (gm_at lwV_48_in 11 rfl) (gm_c (gm_at lwV_49_in 0 rfl) (gm_c (gm_at lwV_49_in 1 rfl) (gm_c (gm_at lwV_49_in 2 rfl) (gm_c (gm_at lwV_49_in 3 rfl) (gm_c (gm_at lwV_49_in 4 rfl) (gm_c (gm_at lwV_49_in 5 rfl) (gm_c (gm_at lwV_49_in 6 rfl) (gm_c (gm_at lwV_49_in 7 rfl) (gm_c (gm_at lwV_49_in 8 rfl) (gm_c (gm_at lwV_49_in 9 rfl) (gm_c (gm_at lwV_49_in 10 rfl) (gm_c (gm_at lwV_49_in 11 rfl) (gm_c (gm_at lwV_50_in 0 rfl) (gm_c (gm_at lwV_50_in 1 rfl) (gm_c (gm_at lwV_50_in 2 rfl) (gm_c (gm_at lwV_50_in 3 rfl) (gm_c (gm_at lwV_50_in 4 rfl) (gm_c (gm_at lwV_50_in 5 rfl) (gm_c (gm_at lwV_50_in 6 rfl) (gm_c (gm_at lwV_50_in 7 rfl) (gm_c (gm_at lwV_50_in 8 rfl) (gm_c (gm_at lwV_50_in 9 rfl) (gm_c (gm_at lwV_50_in 10 rfl) (gm_c (gm_at lwV_50_in 11 rfl) (gm_c (gm_at lwV_51_in 0 rfl) (gm_c (gm_at lwV_51_in 1 rfl) (gm_c (gm_at lwV_51_in 2 rfl) (gm_c (gm_at lwV_51_in 3 rfl) (gm_c (gm_at lwV_51_in 4 rfl) (gm_c (gm_at lwV_51_in 5 rfl) (gm_c (gm_at lwV_51_in 6 rfl) (gm_c (gm_at lwV_51_in 7 rfl) (gm_c (gm_at lwV_51_in 8 rfl) (gm_c (gm_at lwV_51_in 9 rfl) (gm_c (gm_at lwV_51_in 10 rfl) (gm_c (gm_at lwV_51_in 11 rfl) (gm_c (gm_at lwV_52_in 0 rfl) (gm_c (gm_at lwV_52_in 1 rfl) (gm_c (gm_at lwV_52_in 2 rfl) (gm_c (gm_at lwV_52_in 3 rfl) (gm_c (gm_at lwV_52_in 4 rfl) (gm_c (gm_at lwV_52_in 5 rfl) (gm_c (gm_at lwV_52_in 6 rfl) (gm_c (gm_at lwV_52_in 7 rfl) (gm_c (gm_at lwV_52_in 8 rfl) (gm_c (gm_at lwV_52_in 9 rfl) (gm_c (gm_at lwV_52_in 10 rfl) (gm_c (gm_at lwV_52_in 11 rfl) (gm_c (gm_at lwV_53_in 0 rfl) gm_nil)))))))))))))))))))))))))))))))))))))))))))))))))))))))))))))))))))))))))))))))))))))))))))))))) (by decide +kernel)) (goodIn_in il_X12 gd_X12))
set_option maxRecDepth 20000 in
theorem g_lk_24_z_X12_thrown_1_149 : GoodIn lwW (wsV RL 149 RX12 yX12_thrown w_z_X12_thrown_1) := goodIn_app (goodIn_sub (ws := ([.methodLink RL 149 yX12_thrown, .instanceMethod yX12_thrown, .selects RX12 yX12_thrown yX12_thrown, .initialized RX12] : List Cond)) (gm_c (gm_at lwV_6_in 2 rfl) (gm_c (gm_at lwV_6_in 3 rfl) (gm_c (gm_at lwV_6_in 4 rfl) (gm_c (gm_at lwV_0_in 7 rfl) gm_nil)))) (by decide +kernel)) (goodIn_ca (goodIn_sub (ws := .code yX12_thrown cX12_thrown 1 (some .int) :: l_z_X12_thrown_1) (gm_c (gm_at lwV_9_in 9 rfl) (gm_c (gm_at lwV_1_in 5 rfl) gm_nil)) (by decide +kernel)) (goodIn_in il_X12 gd_X12))
set_option maxHeartbeats 4000000 in
set_option maxRecDepth 100000 in
/-- the law, one call: promise -/
theorem lk_24 {p : Program} {l : Launch} {e : Env} {s : State} {m : MethodId} {below : List Frame} {meth : Method} {c : Code} {b : Nat} {xs : Nat → Int32} (hst : l.stackTraces = false) (C0 : lw_At p s m meth c b 6 xs) {A : Nat → Prop} (hA : ∀ q : Nat, s.heap.size ≤ q → A q) (hAf : ∀ q : Nat, A q → s.heap.size ≤ q) (hZ : Zz A s) (hY : Yy s) (dC : Nat → ClassId) (dI : Nat → Nat → Nat) (aX : Nat) (fsX : List Value) (aT : Nat) (fsT : List Value) (qw : Nat) (fw : Nat → Int32) (kw : ClassId) (qp : Nat) (fp : Nat → Int32) (kp : ClassId) (qc : Nat) (fc : Nat → Int64) (kcc : ClassId) (qG : Nat) (gG : Nat → Option Nat) (kG : ClassId) (aG : Nat) (fsG : List Value) (aZ : Nat) (fsZ : List Value) (qO : Nat) (w1 : Int32) (hw1 : w1 = xs (1 : Int32).toNatClampNeg) (w2 : Int32) (hw2 : w2 = xs (2 : Int32).toNatClampNeg) (w3 : Int32) (hw3 : w3 = xs (3 : Int32).toNatClampNeg) (w4 : Int32) (hw4 : w4 = xs (4 : Int32).toNatClampNeg) (w5 : Int32) (hw5 : w5 = xs (5 : Int32).toNatClampNeg) (k_fsX : fh fsX 18 [(8, .ref qG), (10, .int 0)]) (k_fsT : fh fsT 12 [(1, .int 0), (5, .ref qw), (6, .ref qp), (7, .ref qc)]) (k_fsG : fh fsG 19 [(0, .ref aT)]) (k_fsZ : fh fsZ 150 [(0, .int 0), (3, .int 0), (78, .int 0), (79, .int 0), (80, .int 0), (81, .int 0), (83, .int 0), (84, .int 0), (91, .int 0), (113, .int 0)]) (hg2 : gG (0 : Int32).toNatClampNeg = some aG) {H : Heap} {locs : List Loc} (hK : va_K (dC, dI) vwCl [(kw, .int), (kp, .int), (kcc, .long), (kG, .object "HeapWorks$Program")] s) (hP : va_P (dC, dI) vwCl [(aX, .inr (14, fsX)), (aT, .inr (12, fsT)), (qw, .inl (kw, 4001, .inl fw)), (qp, .inl (kp, 4001, .inl fp)), (qc, .inl (kcc, 4001, .inr (.inl fc))), (qG, .inl (kG, 3, .inr (.inr (.inr (.inr gG))))), (aG, .inr (9, fsG)), (aZ, .inr (15, fsZ))] H) (hD : va_D A [(aX, .inr (14, fsX)), (aT, .inr (12, fsT)), (qw, .inl (kw, 4001, .inl fw)), (qp, .inl (kp, 4001, .inl fp)), (qc, .inl (kcc, 4001, .inr (.inl fc))), (qG, .inl (kG, 3, .inr (.inr (.inr (.inr gG))))), (aG, .inr (9, fsG)), (aZ, .inr (15, fsZ))]) (hS : va_S A s.heap H locs) (ls : Array Slot) (hl : lv_has ls 8 [(0, .ref b), (1, .ref aX), (2, .ref aZ), (3, .ref qO), (4, .int 0)]) : W p l e room_1 s m #[Value.ref b] below meth c H locs 390 571359 (lw_Z below #[Value.ref b] s) (F0 m 1617 ls []) := by
  obtain ⟨hx, hb, hr, hml, hown0, hts0, hX, hbl, hlocks, hgv⟩ := id C0
  have hown : s.vm.findClass RL = some m.cls := hown0
  have hts : ∀ w ∈ lwW, w.before #[Value.ref b] s = true := fun w h => hts0 w (lwW_in w h)
  have hbA : ¬ A b := fun h => absurd (hAf b h) (Nat.not_le.mpr hbl)
  have o_fsX := ow_0 k_fsX
  have o_fsT := ow_0 k_fsT
  have o_fsG := ow_0 k_fsG
  have o_fsZ := ow_0 k_fsZ
  refine lv_aload_n hx hb dL_law_1617 rfl (lv_at hl 1 rfl) ?_
  refine lv_aload_n hx hb dL_law_1618 rfl (lv_at hl 3 rfl) ?_
  have hPc := hP.sub (ws' := [(aX, .inr (14, fsX)), (aT, .inr (12, fsT)), (qw, .inl (kw, 4001, .inl fw)), (qp, .inl (kp, 4001, .inl fp)), (qc, .inl (kcc, 4001, .inr (.inl fc))), (qG, .inl (kG, 3, .inr (.inr (.inr (.inr gG))))), (aG, .inr (9, fsG))]) [0, 1, 2, 3, 4, 5, 6] rfl
  have hDc := hD.sub (ws' := [(aX, .inr (14, fsX)), (aT, .inr (12, fsT)), (qw, .inl (kw, 4001, .inl fw)), (qp, .inl (kp, 4001, .inl fp)), (qc, .inl (kcc, 4001, .inr (.inl fc))), (qG, .inl (kG, 3, .inr (.inr (.inr (.inr gG))))), (aG, .inr (9, fsG))]) [0, 1, 2, 3, 4, 5, 6] (by decide) rfl
  have hKc := hK.sub (tys' := [(kw, .int), (kp, .int), (kcc, .long), (kG, .object "HeapWorks$Program")]) [0, 1, 2, 3] rfl
  have hFc := va_free (wc := [(aX, .inr (14, fsX)), (aT, .inr (12, fsT)), (qw, .inl (kw, 4001, .inl fw)), (qp, .inl (kp, 4001, .inl fp)), (qc, .inl (kcc, 4001, .inr (.inl fc))), (qG, .inl (kG, 3, .inr (.inr (.inr (.inr gG))))), (aG, .inr (9, fsG))]) hD hS hA [0, 1, 2, 3, 4, 5, 6] rfl
  refine vx_calli (vx_runSX (As := [.ref aX, .ref qO]) (rest := []) ⟨hx, hb, hml, hown, hts⟩ (z_L_promise l dC dI H.size aX fsX aT fsT qw fw kw qp fp kp qc fc kcc qG gG kG aG fsG qO (fh_sub o_fsX.2 [0, 1] rfl) (fh_sub o_fsT.2 [0, 1, 2, 3] rfl) (fh_sub o_fsG.2 [0] rfl) hst hg2) (vx_cwSW 2 hts g_lk_24_z_L_promise_220 rfl rfl rfl (by decide +kernel) ⟨Nat.le_of_ble_eq_true rfl, Nat.le_of_ble_eq_true rfl⟩) ⟨fun a U g mk q => by obtain ⟨q0, q1, qZ, qY, qP, qK, qD⟩ := q; exact ⟨q0, q1, Zz_call qZ, Yy_call qY, qP, va_K.moved (u := U) (U := U.calling g mk a) (Vm.Alike.refl U.vm) qK, qD⟩, fun U hU hW => ⟨rfl, by rw [hU], Zz_go hZ hS hFc hU hW, Yy_go hY hW, by rw [hU]; exact hPc, va_K.moved hW.alike hKc, hDc.weaken (fun _ _ _ _ => trivial)⟩⟩ rfl rfl hl.1 rfl (lv_room (Nat.le_of_ble_eq_true rfl)) dL_law_1619 ⟨Nat.le_of_ble_eq_true rfl, Nat.le_of_ble_eq_true rfl⟩) hS (fun q _ h => hFc q h) hFc (fun q _ h => hFc q h) (fun E ce q9 u t H1 locs ht hvm hpx hBX hz1 hk1 hS hce hcv hcl => ?_) (fun r101 u t H1 locs ht hvm hw hB hz1 hk1 hS => ?_)
  · exact False.elim hBX
  · skip
    obtain ⟨hP1, hK1, hD1⟩ := hB
    rw [ht] at hP1
    try dsimp only at hw
    obtain ⟨hP, hD⟩ := va_join (wr := [(aZ, .inr (15, fsZ))]) (w1 := []) hP hD [0, 1, 2, 3, 4, 5, 6] [7] rfl rfl (by decide) (by decide) hk1 hFc hP1 hD1
    have hK := hK.sub (tys' := []) [] rfl
    generalize H1 = H at hP hS ⊢
    refine W.widen (k := 391) (n := 571365) (by omega) (by omega) ?_
    have hP : va_P (dC, dI) vwCl [(aZ, .inr (15, fsZ))] H := hP
    have hD : va_D A [(aZ, .inr (15, fsZ))] := hD
    have er102 := hw
    subst er102
    refine lv_istore (lv' := [(5, .int 2), (0, .ref b), (1, .ref aX), (2, .ref aZ), (3, .ref qO), (4, .int 0)]) hx hb dL_law_1622 hl (by decide) rfl (fun ls hl => ?_)
    refine lv_aload_n hx hb dL_law_1624 rfl (lv_at hl 3 rfl) ?_
    have hPc := hP.sub (ws' := [(aZ, .inr (15, fsZ))]) [0] rfl
    have hDc := hD.sub (ws' := [(aZ, .inr (15, fsZ))]) [0] (by decide) rfl
    have hKc := hK.sub (tys' := []) [] rfl
    have hFc := va_free (wc := [(aZ, .inr (15, fsZ))]) hD hS hA [0] rfl
    refine va_calli (va_runV (As := []) (rest := []) ⟨hx, hb, hml, hown, hts⟩ (z_X12_promise l dC dI H.size aZ fsZ (fh_sub o_fsZ.2 [0, 1, 2, 3, 4, 5, 6, 7, 8, 9] rfl) ) (cwV 0 hts g_lk_24_z_X12_promise_223 rfl rfl rfl (by decide +kernel) ⟨Nat.le_of_ble_eq_true rfl, Nat.le_of_ble_eq_true rfl⟩) ⟨fun a U g mk q => by obtain ⟨q0, q1, qP, qK, qD⟩ := q; exact ⟨q0, q1, qP, va_K.moved (u := U) (U := U.calling g mk a) (Vm.Alike.refl U.vm) qK, qD⟩, va_recv hK hP (ci := 15) (q0 := 0) rfl rfl, fun U hU hW => ⟨rfl, by rw [hU], by rw [hU]; exact hPc, va_K.moved hW.alike hKc, hDc.weaken (fun _ _ _ _ => trivial)⟩⟩ rfl rfl hl.1 rfl (lv_room (Nat.le_of_ble_eq_true rfl)) dL_law_1625 ⟨Nat.le_of_ble_eq_true rfl, Nat.le_of_ble_eq_true rfl⟩) hS (fun q _ h => hFc q h) hFc (fun r103 u t H1 locs ht hvm hw hB hz1 hk1 hS => ?_)
    obtain ⟨s104, rfl⟩ : ∃ z, z = u := ⟨_, rfl⟩
    obtain ⟨hP1, hK1, hD1⟩ := hB
    rw [ht] at hP1
    try dsimp only at hw
    obtain ⟨hP, hD⟩ := va_join (wr := []) (w1 := [(aZ, .inr (15, s104))]) hP hD [0] [] rfl rfl (by decide) (by decide) hk1 hFc hP1 hD1
    have hK := hK.sub (tys' := []) [] rfl
    generalize H1 = H at hP hS ⊢
    have hP : va_P (dC, dI) vwCl [(aZ, .inr (15, s104))] H := hP
    have hD : va_D A [(aZ, .inr (15, s104))] := hD
    obtain ⟨er105, o_s104⟩ := hw
    subst er105
    have o_s104 := ow_on o_fsZ o_s104 (l' := [(0, .int 2), (82, .int 0), (81, .int 1), (84, .int 0), (83, .int 1), (84, .int 0), (83, .int 1), (80, .int 0), (79, .int 0), (80, .int 0), (79, .int 0), (91, .int 120), (80, .int 0), (79, .int 0), (91, .int 120), (80, .int 0), (79, .int 0), (91, .int 120), (80, .int 0), (79, .int 0), (91, .int 120), (80, .int 0), (79, .int 0), (91, .int 120), (80, .int 0), (79, .int 0), (91, .int 120), (80, .int 0), (79, .int 0), (91, .int 120), (80, .int 0), (79, .int 0), (91, .int 120), (80, .int 0), (79, .int 0), (91, .int 120), (95, .int 0), (80, .int 0), (85, .long 0), (79, .int 0), (78, .int 0), (3, .int 0), (78, .int 0), (94, .int 0), (93, .int 0), (92, .int 0), (91, .int 120), (3, .int 0), (3, .int 0), (113, .int 0), (3, .int 0), (113, .int 0)]) (w' := [0, 82, 81, 84, 83, 95, 80, 85, 79, 78, 94, 93, 92, 91]) rfl rfl
    refine lv_istore (lv' := [(6, .int 0), (5, .int 2), (0, .ref b), (1, .ref aX), (2, .ref aZ), (3, .ref qO), (4, .int 0)]) hx hb dL_law_1628 hl (by decide) rfl (fun ls hl => ?_)
    refine lv_aload_n hx hb dL_law_1630 rfl (lv_at hl 4 rfl) ?_
    have hPc := hP.sub (ws' := [(aZ, .inr (15, s104))]) [0] rfl
    have hDc := hD.sub (ws' := [(aZ, .inr (15, s104))]) [0] (by decide) rfl
    have hKc := hK.sub (tys' := []) [] rfl
    have hFc := va_free (wc := [(aZ, .inr (15, s104))]) hD hS hA [0] rfl
    refine va_calli (va_runV (As := []) (rest := []) ⟨hx, hb, hml, hown, hts⟩ (z_X12_thrown_1 l dC dI H.size aZ s104 (fh_sub o_s104.2 [0] rfl) ) (cwV 0 hts g_lk_24_z_X12_thrown_1_149 rfl rfl rfl (by decide +kernel) ⟨Nat.le_of_ble_eq_true rfl, Nat.le_of_ble_eq_true rfl⟩) ⟨fun a U g mk q => by obtain ⟨q0, q1, qP, qK, qD⟩ := q; exact ⟨q0, q1, qP, va_K.moved (u := U) (U := U.calling g mk a) (Vm.Alike.refl U.vm) qK, qD⟩, va_recv hK hP (ci := 15) (q0 := 0) rfl rfl, fun U hU hW => ⟨rfl, by rw [hU], by rw [hU]; exact hPc, va_K.moved hW.alike hKc, hDc.weaken (fun _ _ _ _ => trivial)⟩⟩ rfl rfl hl.1 rfl (lv_room (Nat.le_of_ble_eq_true rfl)) dL_law_1631 ⟨Nat.le_of_ble_eq_true rfl, Nat.le_of_ble_eq_true rfl⟩) hS (fun q _ h => hFc q h) hFc (fun r106 u t H1 locs ht hvm hw hB hz1 hk1 hS => ?_)
    obtain ⟨hP1, hK1, hD1⟩ := hB
    rw [ht] at hP1
    try dsimp only at hw
    obtain ⟨hP, hD⟩ := va_join (wr := []) (w1 := [(aZ, .inr (15, s104))]) hP hD [0] [] rfl rfl (by decide) (by decide) hk1 hFc hP1 hD1
    have hK := hK.sub (tys' := []) [] rfl
    generalize H1 = H at hP hS ⊢
    have hP : va_P (dC, dI) vwCl [(aZ, .inr (15, s104))] H := hP
    have hD : va_D A [(aZ, .inr (15, s104))] := hD
    have er107 := hw
    subst er107
    refine lv_iload hx hb dL_law_1634 (lv_at hl 1 rfl) ?_
    refine lv_icmp_eq (tgt := 1641) hx hb dL_law_1636 (by decide) (fun c108 => ?_) (fun c108 => absurd c108 (by decide))
    refine lv_iload hx hb dL_law_1641 (lv_at hl 1 rfl) ?_
    refine lv_if_ne (tgt := 1658) hx hb dL_law_1643 (by decide) (fun c109 => ?_) (fun c109 => absurd c109 (by decide))
    refine lv_goto (tgt := 3111) hx hb dL_law_1658 (by decide) ?_
    exact lw_end hst C0 hA hAf hZ hY (Nat.le_of_ble_eq_true rfl) (Nat.le_of_ble_eq_true rfl) dC dI P0k P0 D0 hS ls (lv_sub hl [2, 6] rfl)

set_option maxRecDepth 20000 in
theorem g_lk_25_z_L_broken_224 : GoodIn lwW (va_wsS RL 224 yL_broken w_z_L_broken) := goodIn_app (goodIn_sub (ws := ([.methodLink RL 224 yL_broken, .static yL_broken, .initialized RL] : List Cond)) (gm_c (gm_at lwV_53_in 1 rfl) (gm_c (gm_at lwV_53_in 2 rfl) (gm_c (gm_at lwV_5_in 10 rfl) gm_nil))) (by decide +kernel)) (goodIn_ca (goodIn_sub (ws := .codeWith yL_broken cL_broken 4 (some .int) [(0, 9, 12, 30)] :: l_z_L_broken) (gm_c (gm_at lwV_53_in 6 rfl) (gm_c (gm_at lwV_53_in 7 rfl) (gm_c (gm_at lwV_53_in 8 rfl) (gm_c (gm_at lwV_53_in 9 rfl) (gm_c (gm_at lwV_0_in 3 rfl) (gm_c (gm_at lwV_19_in 11 rfl) (gm_c (gm_at lwV_53_in 10 rfl) (gm_c (gm_at lwV_20_in 4 rfl) (gm_c (gm_at lwV_20_in 5 rfl) (gm_c (gm_at lwV_37_in 11 rfl) gm_nil)))))))))) (by decide +kernel)) (goodIn_app (goodIn_in il_at0_X11_223 gd_at0_X11_223) (goodIn_in il_X11 gd_X11)))
set_option maxRecDepth 20000 in
theorem g_lk_25_z_X12_broken_227 : GoodIn lwW (wsV RL 227 RX12 yX12_broken w_z_X12_broken) := goodIn_app (goodIn_sub (ws := ([.methodLink RL 227 yX12_broken, .instanceMethod yX12_broken, .selects RX12 yX12_broken yX12_broken, .initialized RX12] : List Cond)) (gm_c (gm_at lwV_53_in 3 rfl) (gm_c (gm_at lwV_53_in 4 rfl) (gm_c (gm_at lwV_53_in 5 rfl) (gm_c (gm_at lwV_0_in 7 rfl) gm_nil)))) (by decide +kernel)) (goodIn_ca (goodIn_sub (ws := .code yX12_broken cX12_broken 2 (some .int) :: l_z_X12_broken) (gm_c (gm_at lwV_53_in 11 rfl) (gm_c (gm_at lwV_1_in 5 rfl) (gm_c (gm_at lwV_45_in 5 rfl) gm_nil))) (by decide +kernel)) (goodIn_in il_X12 gd_X12))
set_option maxRecDepth 20000 in
theorem g_lk_25_z_X12_thrown_149 : GoodIn lwW (wsV RL 149 RX12 yX12_thrown w_z_X12_thrown) := goodIn_app (goodIn_sub (ws := ([.methodLink RL 149 yX12_thrown, .instanceMethod yX12_thrown, .selects RX12 yX12_thrown yX12_thrown, .initialized RX12] : List Cond)) (gm_c (gm_at lwV_6_in 2 rfl) (gm_c (gm_at lwV_6_in 3 rfl) (gm_c (gm_at lwV_6_in 4 rfl) (gm_c (gm_at lwV_0_in 7 rfl) gm_nil)))) (by decide +kernel)) (goodIn_ca (goodIn_sub (ws := .code yX12_thrown cX12_thrown 1 (some .int) :: l_z_X12_thrown) (gm_c (gm_at lwV_9_in 9 rfl) (gm_c (gm_at lwV_1_in 5 rfl) gm_nil)) (by decide +kernel)) (goodIn_in il_X12 gd_X12))
set_option maxHeartbeats 4000000 in
set_option maxRecDepth 100000 in
/-- the law, one call: broken -/
theorem lk_25 {p : Program} {l : Launch} {e : Env} {s : State} {m : MethodId} {below : List Frame} {meth : Method} {c : Code} {b : Nat} {xs : Nat → Int32} (hst : l.stackTraces = false) (C0 : lw_At p s m meth c b 6 xs) {A : Nat → Prop} (hA : ∀ q : Nat, s.heap.size ≤ q → A q) (hAf : ∀ q : Nat, A q → s.heap.size ≤ q) (hZ : Zz A s) (hY : Yy s) (dC : Nat → ClassId) (dI : Nat → Nat → Nat) (aX : Nat) (fsX : List Value) (aZ : Nat) (fsZ : List Value) (qO : Nat) (w1 : Int32) (hw1 : w1 = xs (1 : Int32).toNatClampNeg) (w2 : Int32) (hw2 : w2 = xs (2 : Int32).toNatClampNeg) (w3 : Int32) (hw3 : w3 = xs (3 : Int32).toNatClampNeg) (w4 : Int32) (hw4 : w4 = xs (4 : Int32).toNatClampNeg) (w5 : Int32) (hw5 : w5 = xs (5 : Int32).toNatClampNeg) (k_fsX : fh fsX 18 [(10, .int 0)]) (k_fsZ : fh fsZ 150 [(0, .int 0), (113, .int 0)])  {H : Heap} {locs : List Loc} (hK : va_K (dC, dI) vwCl [] s) (hP : va_P (dC, dI) vwCl [(aX, .inr (14, fsX)), (aZ, .inr (15, fsZ))] H) (hD : va_D A [(aX, .inr (14, fsX)), (aZ, .inr (15, fsZ))]) (hS : va_S A s.heap H locs) (ls : Array Slot) (hl : lv_has ls 8 [(0, .ref b), (1, .ref aX), (2, .ref aZ), (3, .ref qO), (4, .int 0)]) : W p l e room_1 s m #[Value.ref b] below meth c H locs 390 571359 (lw_Z below #[Value.ref b] s) (F0 m 1661 ls []) := by
  obtain ⟨hx, hb, hr, hml, hown0, hts0, hX, hbl, hlocks, hgv⟩ := id C0
  have hown : s.vm.findClass RL = some m.cls := hown0
  have hts : ∀ w ∈ lwW, w.before #[Value.ref b] s = true := fun w h => hts0 w (lwW_in w h)
  have hbA : ¬ A b := fun h => absurd (hAf b h) (Nat.not_le.mpr hbl)
  have o_fsX := ow_0 k_fsX
  have o_fsZ := ow_0 k_fsZ
  refine lv_aload_n hx hb dL_law_1661 rfl (lv_at hl 1 rfl) ?_
  refine lv_aload_n hx hb dL_law_1662 rfl (lv_at hl 0 rfl) ?_
  refine lv_iload hx hb dL_law_1663 (lv_at hl 4 rfl) ?_
  refine lv_iconst (v := 1) hx hb dL_law_1665 (by decide) ?_
  refine lv_iadd hx hb dL_law_1666  ?_
  refine lv_topi (fun x101 ex101 => ?_)
  obtain rfl : x101 = 1 := ex101.trans (by decide)
  refine va_sld hx hb hX hbl hbA hS (show vp_in 1 6 from by unfold vp_in; decide) dL_law_1667 ?_
  refine lv_topi (fun x102 ex102 => ?_)
  obtain rfl : w1 = x102 := hw1.trans ex102.symm
  refine lv_aload_n hx hb dL_law_1668 rfl (lv_at hl 3 rfl) ?_
  have hPc := hP.sub (ws' := [(aX, .inr (14, fsX))]) [0] rfl
  have hDc := hD.sub (ws' := [(aX, .inr (14, fsX))]) [0] (by decide) rfl
  have hKc := hK.sub (tys' := []) [] rfl
  have hFc := va_free (wc := [(aX, .inr (14, fsX))]) hD hS hA [0] rfl
  refine vx_calli (vx_runSX (As := [.ref aX, .int w1, .ref qO]) (rest := []) ⟨hx, hb, hml, hown, hts⟩ (z_L_broken l dC dI H.size aX fsX w1 qO (fh_sub o_fsX.2 [0] rfl) hst ) (vx_cwSW 3 hts g_lk_25_z_L_broken_224 rfl rfl rfl (by decide +kernel) ⟨Nat.le_of_ble_eq_true rfl, Nat.le_of_ble_eq_true rfl⟩) ⟨fun a U g mk q => by obtain ⟨q0, q1, qZ, qY, qP, qK, qD⟩ := q; exact ⟨q0, q1, Zz_call qZ, Yy_call qY, qP, va_K.moved (u := U) (U := U.calling g mk a) (Vm.Alike.refl U.vm) qK, qD⟩, fun U hU hW => ⟨rfl, by rw [hU], Zz_go hZ hS hFc hU hW, Yy_go hY hW, by rw [hU]; exact hPc, va_K.moved hW.alike hKc, hDc.weaken (fun _ _ _ _ => trivial)⟩⟩ rfl rfl hl.1 rfl (lv_room (Nat.le_of_ble_eq_true rfl)) dL_law_1669 ⟨Nat.le_of_ble_eq_true rfl, Nat.le_of_ble_eq_true rfl⟩) hS (fun q _ h => hFc q h) hFc (fun q _ h => hFc q h) (fun E ce q9 u t H1 locs ht hvm hpx hBX hz1 hk1 hS hce hcv hcl => ?_) (fun r103 u t H1 locs ht hvm hw hB hz1 hk1 hS => ?_)
  · exact False.elim hBX
  · skip
    obtain ⟨hP1, hK1, hD1⟩ := hB
    rw [ht] at hP1
    try dsimp only at hw
    obtain ⟨hP, hD⟩ := va_join (wr := [(aZ, .inr (15, fsZ))]) (w1 := []) hP hD [0] [1] rfl rfl (by decide) (by decide) hk1 hFc hP1 hD1
    have hK := hK.sub (tys' := []) [] rfl
    generalize H1 = H at hP hS ⊢
    refine W.widen (k := 391) (n := 571365) (by omega) (by omega) ?_
    have hP : va_P (dC, dI) vwCl [(aZ, .inr (15, fsZ))] H := hP
    have hD : va_D A [(aZ, .inr (15, fsZ))] := hD
    rcases hw with ⟨c104, er105⟩ | ⟨c106, c107, er108⟩
    · skip
      subst er105
      refine lv_istore (lv' := [(5, .int 1), (0, .ref b), (1, .ref aX), (2, .ref aZ), (3, .ref qO), (4, .int 0)]) hx hb dL_law_1672 hl (by decide) rfl (fun ls hl => ?_)
      refine lv_aload_n hx hb dL_law_1674 rfl (lv_at hl 3 rfl) ?_
      refine lv_aload_n hx hb dL_law_1675 rfl (lv_at hl 1 rfl) ?_
      refine lv_iload hx hb dL_law_1676 (lv_at hl 5 rfl) ?_
      refine lv_iconst (v := 1) hx hb dL_law_1678 (by decide) ?_
      refine lv_iadd hx hb dL_law_1679  ?_
      refine lv_topi (fun x109 ex109 => ?_)
      obtain rfl : x109 = 1 := ex109.trans (by decide)
      refine va_sld hx hb hX hbl hbA hS (show vp_in 1 6 from by unfold vp_in; decide) dL_law_1680 ?_
      refine lv_topi (fun x110 ex110 => ?_)
      obtain rfl : w1 = x110 := hw1.trans ex110.symm
      have hPc := hP.sub (ws' := [(aZ, .inr (15, fsZ))]) [0] rfl
      have hDc := hD.sub (ws' := [(aZ, .inr (15, fsZ))]) [0] (by decide) rfl
      have hKc := hK.sub (tys' := []) [] rfl
      have hFc := va_free (wc := [(aZ, .inr (15, fsZ))]) hD hS hA [0] rfl
      refine va_calli (va_runV (As := [.int w1]) (rest := []) ⟨hx, hb, hml, hown, hts⟩ (z_X12_broken l dC dI H.size aZ fsZ w1 (fh_sub o_fsZ.2 [0, 1] rfl) ) (cwV 1 hts g_lk_25_z_X12_broken_227 rfl rfl rfl (by decide +kernel) ⟨Nat.le_of_ble_eq_true rfl, Nat.le_of_ble_eq_true rfl⟩) ⟨fun a U g mk q => by obtain ⟨q0, q1, qP, qK, qD⟩ := q; exact ⟨q0, q1, qP, va_K.moved (u := U) (U := U.calling g mk a) (Vm.Alike.refl U.vm) qK, qD⟩, va_recv hK hP (ci := 15) (q0 := 0) rfl rfl, fun U hU hW => ⟨rfl, by rw [hU], by rw [hU]; exact hPc, va_K.moved hW.alike hKc, hDc.weaken (fun _ _ _ _ => trivial)⟩⟩ rfl rfl hl.1 rfl (lv_room (Nat.le_of_ble_eq_true rfl)) dL_law_1681 ⟨Nat.le_of_ble_eq_true rfl, Nat.le_of_ble_eq_true rfl⟩) hS (fun q _ h => hFc q h) hFc (fun r111 u t H1 locs ht hvm hw hB hz1 hk1 hS => ?_)
      obtain ⟨s112, rfl⟩ : ∃ z, z = u := ⟨_, rfl⟩
      obtain ⟨hP1, hK1, hD1⟩ := hB
      rw [ht] at hP1
      try dsimp only at hw
      obtain ⟨hP, hD⟩ := va_join (wr := []) (w1 := [(aZ, .inr (15, s112))]) hP hD [0] [] rfl rfl (by decide) (by decide) hk1 hFc hP1 hD1
      have hK := hK.sub (tys' := []) [] rfl
      generalize H1 = H at hP hS ⊢
      have hP : va_P (dC, dI) vwCl [(aZ, .inr (15, s112))] H := hP
      have hD : va_D A [(aZ, .inr (15, s112))] := hD
      rcases hw with ⟨c113, er114, o_s112⟩ | ⟨c115, c116, er117, o_s112⟩
      · skip
        subst er114
        have o_s112 := ow_on o_fsZ o_s112 (l' := [(0, .int 1), (113, .int 0), (113, .int 0)]) (w' := [0]) rfl rfl
        refine lv_istore (lv' := [(6, .int 0), (5, .int 1), (0, .ref b), (1, .ref aX), (2, .ref aZ), (3, .ref qO), (4, .int 0)]) hx hb dL_law_1684 hl (by decide) rfl (fun ls hl => ?_)
        refine lv_aload_n hx hb dL_law_1686 rfl (lv_at hl 4 rfl) ?_
        have hPc := hP.sub (ws' := [(aZ, .inr (15, s112))]) [0] rfl
        have hDc := hD.sub (ws' := [(aZ, .inr (15, s112))]) [0] (by decide) rfl
        have hKc := hK.sub (tys' := []) [] rfl
        have hFc := va_free (wc := [(aZ, .inr (15, s112))]) hD hS hA [0] rfl
        refine va_calli (va_runV (As := []) (rest := []) ⟨hx, hb, hml, hown, hts⟩ (z_X12_thrown l dC dI H.size aZ s112 (fh_sub o_s112.2 [0] rfl) ) (cwV 0 hts g_lk_25_z_X12_thrown_149 rfl rfl rfl (by decide +kernel) ⟨Nat.le_of_ble_eq_true rfl, Nat.le_of_ble_eq_true rfl⟩) ⟨fun a U g mk q => by obtain ⟨q0, q1, qP, qK, qD⟩ := q; exact ⟨q0, q1, qP, va_K.moved (u := U) (U := U.calling g mk a) (Vm.Alike.refl U.vm) qK, qD⟩, va_recv hK hP (ci := 15) (q0 := 0) rfl rfl, fun U hU hW => ⟨rfl, by rw [hU], by rw [hU]; exact hPc, va_K.moved hW.alike hKc, hDc.weaken (fun _ _ _ _ => trivial)⟩⟩ rfl rfl hl.1 rfl (lv_room (Nat.le_of_ble_eq_true rfl)) dL_law_1687 ⟨Nat.le_of_ble_eq_true rfl, Nat.le_of_ble_eq_true rfl⟩) hS (fun q _ h => hFc q h) hFc (fun r118 u t H1 locs ht hvm hw hB hz1 hk1 hS => ?_)
        obtain ⟨hP1, hK1, hD1⟩ := hB
        rw [ht] at hP1
        try dsimp only at hw
        obtain ⟨hP, hD⟩ := va_join (wr := []) (w1 := [(aZ, .inr (15, s112))]) hP hD [0] [] rfl rfl (by decide) (by decide) hk1 hFc hP1 hD1
        have hK := hK.sub (tys' := []) [] rfl
        generalize H1 = H at hP hS ⊢
        have hP : va_P (dC, dI) vwCl [(aZ, .inr (15, s112))] H := hP
        have hD : va_D A [(aZ, .inr (15, s112))] := hD
        have er119 := hw
        subst er119
        refine lv_iload hx hb dL_law_1690 (lv_at hl 1 rfl) ?_
        refine lv_icmp_eq (tgt := 1697) hx hb dL_law_1692 (by decide) (fun c120 => ?_) (fun c120 => absurd c120 (by decide))
        refine lv_iload hx hb dL_law_1697 (lv_at hl 1 rfl) ?_
        refine lv_if_ne (tgt := 1714) hx hb dL_law_1699 (by decide) (fun c121 => ?_) (fun c121 => absurd c121 (by decide))
        refine lv_goto (tgt := 3111) hx hb dL_law_1714 (by decide) ?_
        exact lw_end hst C0 hA hAf hZ hY (Nat.le_of_ble_eq_true rfl) (Nat.le_of_ble_eq_true rfl) dC dI P0k P0 D0 hS ls (lv_sub hl [2, 6] rfl)
      · exact (by exfalso; (try simp only [i_lt, i_le, i_eq, kc_0] at c104 c115 c116); omega)
    · skip
      subst er108
      refine lv_istore (lv' := [(5, .int 1), (0, .ref b), (1, .ref aX), (2, .ref aZ), (3, .ref qO), (4, .int 0)]) hx hb dL_law_1672 hl (by decide) rfl (fun ls hl => ?_)
      refine lv_aload_n hx hb dL_law_1674 rfl (lv_at hl 3 rfl) ?_
      refine lv_aload_n hx hb dL_law_1675 rfl (lv_at hl 1 rfl) ?_
      refine lv_iload hx hb dL_law_1676 (lv_at hl 5 rfl) ?_
      refine lv_iconst (v := 1) hx hb dL_law_1678 (by decide) ?_
      refine lv_iadd hx hb dL_law_1679  ?_
      refine lv_topi (fun x122 ex122 => ?_)
      obtain rfl : x122 = 1 := ex122.trans (by decide)
      refine va_sld hx hb hX hbl hbA hS (show vp_in 1 6 from by unfold vp_in; decide) dL_law_1680 ?_
      refine lv_topi (fun x123 ex123 => ?_)
      obtain rfl : w1 = x123 := hw1.trans ex123.symm
      have hPc := hP.sub (ws' := [(aZ, .inr (15, fsZ))]) [0] rfl
      have hDc := hD.sub (ws' := [(aZ, .inr (15, fsZ))]) [0] (by decide) rfl
      have hKc := hK.sub (tys' := []) [] rfl
      have hFc := va_free (wc := [(aZ, .inr (15, fsZ))]) hD hS hA [0] rfl
      refine va_calli (va_runV (As := [.int w1]) (rest := []) ⟨hx, hb, hml, hown, hts⟩ (z_X12_broken l dC dI H.size aZ fsZ w1 (fh_sub o_fsZ.2 [0, 1] rfl) ) (cwV 1 hts g_lk_25_z_X12_broken_227 rfl rfl rfl (by decide +kernel) ⟨Nat.le_of_ble_eq_true rfl, Nat.le_of_ble_eq_true rfl⟩) ⟨fun a U g mk q => by obtain ⟨q0, q1, qP, qK, qD⟩ := q; exact ⟨q0, q1, qP, va_K.moved (u := U) (U := U.calling g mk a) (Vm.Alike.refl U.vm) qK, qD⟩, va_recv hK hP (ci := 15) (q0 := 0) rfl rfl, fun U hU hW => ⟨rfl, by rw [hU], by rw [hU]; exact hPc, va_K.moved hW.alike hKc, hDc.weaken (fun _ _ _ _ => trivial)⟩⟩ rfl rfl hl.1 rfl (lv_room (Nat.le_of_ble_eq_true rfl)) dL_law_1681 ⟨Nat.le_of_ble_eq_true rfl, Nat.le_of_ble_eq_true rfl⟩) hS (fun q _ h => hFc q h) hFc (fun r124 u t H1 locs ht hvm hw hB hz1 hk1 hS => ?_)
      obtain ⟨s125, rfl⟩ : ∃ z, z = u := ⟨_, rfl⟩
      obtain ⟨hP1, hK1, hD1⟩ := hB
      rw [ht] at hP1
      try dsimp only at hw
      obtain ⟨hP, hD⟩ := va_join (wr := []) (w1 := [(aZ, .inr (15, s125))]) hP hD [0] [] rfl rfl (by decide) (by decide) hk1 hFc hP1 hD1
      have hK := hK.sub (tys' := []) [] rfl
      generalize H1 = H at hP hS ⊢
      have hP : va_P (dC, dI) vwCl [(aZ, .inr (15, s125))] H := hP
      have hD : va_D A [(aZ, .inr (15, s125))] := hD
      rcases hw with ⟨c126, er127, o_s125⟩ | ⟨c128, c129, er130, o_s125⟩
      · exact (by exfalso; (try simp only [i_lt, i_le, i_eq, kc_0] at c106 c107 c126); omega)
      · skip
        subst er130
        have o_s125 := ow_on o_fsZ o_s125 (l' := [(0, .int 1), (113, .int 0), (113, .int 0)]) (w' := [0]) rfl rfl
        refine lv_istore (lv' := [(6, .int 0), (5, .int 1), (0, .ref b), (1, .ref aX), (2, .ref aZ), (3, .ref qO), (4, .int 0)]) hx hb dL_law_1684 hl (by decide) rfl (fun ls hl => ?_)
        refine lv_aload_n hx hb dL_law_1686 rfl (lv_at hl 4 rfl) ?_
        have hPc := hP.sub (ws' := [(aZ, .inr (15, s125))]) [0] rfl
        have hDc := hD.sub (ws' := [(aZ, .inr (15, s125))]) [0] (by decide) rfl
        have hKc := hK.sub (tys' := []) [] rfl
        have hFc := va_free (wc := [(aZ, .inr (15, s125))]) hD hS hA [0] rfl
        refine va_calli (va_runV (As := []) (rest := []) ⟨hx, hb, hml, hown, hts⟩ (z_X12_thrown l dC dI H.size aZ s125 (fh_sub o_s125.2 [0] rfl) ) (cwV 0 hts g_lk_25_z_X12_thrown_149 rfl rfl rfl (by decide +kernel) ⟨Nat.le_of_ble_eq_true rfl, Nat.le_of_ble_eq_true rfl⟩) ⟨fun a U g mk q => by obtain ⟨q0, q1, qP, qK, qD⟩ := q; exact ⟨q0, q1, qP, va_K.moved (u := U) (U := U.calling g mk a) (Vm.Alike.refl U.vm) qK, qD⟩, va_recv hK hP (ci := 15) (q0 := 0) rfl rfl, fun U hU hW => ⟨rfl, by rw [hU], by rw [hU]; exact hPc, va_K.moved hW.alike hKc, hDc.weaken (fun _ _ _ _ => trivial)⟩⟩ rfl rfl hl.1 rfl (lv_room (Nat.le_of_ble_eq_true rfl)) dL_law_1687 ⟨Nat.le_of_ble_eq_true rfl, Nat.le_of_ble_eq_true rfl⟩) hS (fun q _ h => hFc q h) hFc (fun r131 u t H1 locs ht hvm hw hB hz1 hk1 hS => ?_)
        obtain ⟨hP1, hK1, hD1⟩ := hB
        rw [ht] at hP1
        try dsimp only at hw
        obtain ⟨hP, hD⟩ := va_join (wr := []) (w1 := [(aZ, .inr (15, s125))]) hP hD [0] [] rfl rfl (by decide) (by decide) hk1 hFc hP1 hD1
        have hK := hK.sub (tys' := []) [] rfl
        generalize H1 = H at hP hS ⊢
        have hP : va_P (dC, dI) vwCl [(aZ, .inr (15, s125))] H := hP
        have hD : va_D A [(aZ, .inr (15, s125))] := hD
        have er132 := hw
        subst er132
        refine lv_iload hx hb dL_law_1690 (lv_at hl 1 rfl) ?_
        refine lv_icmp_eq (tgt := 1697) hx hb dL_law_1692 (by decide) (fun c133 => ?_) (fun c133 => absurd c133 (by decide))
        refine lv_iload hx hb dL_law_1697 (lv_at hl 1 rfl) ?_
        refine lv_if_ne (tgt := 1714) hx hb dL_law_1699 (by decide) (fun c134 => ?_) (fun c134 => absurd c134 (by decide))
        refine lv_goto (tgt := 3111) hx hb dL_law_1714 (by decide) ?_
        exact lw_end hst C0 hA hAf hZ hY (Nat.le_of_ble_eq_true rfl) (Nat.le_of_ble_eq_true rfl) dC dI P0k P0 D0 hS ls (lv_sub hl [2, 6] rfl)

