set_option maxRecDepth 20000 in
theorem g_lk_35_z_L_growth_261 : GoodIn lwW (va_wsS RL 261 yL_growth w_z_L_growth) := goodIn_app (goodIn_sub (ws := ([.methodLink RL 261 yL_growth, .static yL_growth, .initialized RL] : List Cond)) (gm_c (gm_at lwV_72_in 3 rfl) (gm_c (gm_at lwV_72_in 4 rfl) (gm_c (gm_at lwV_5_in 10 rfl) gm_nil))) (by decide +kernel)) (goodIn_ca (goodIn_sub (ws := .codeWith yL_growth cL_growth 6 (some .int) [(0, 12, 15, 13)] :: l_z_L_growth) (gm_c (gm_at lwV_72_in 8 rfl) (gm_c (gm_at lwV_72_in 9 rfl) (gm_c (gm_at lwV_72_in 10 rfl) (gm_c (gm_at lwV_72_in 11 rfl) (gm_c (gm_at lwV_0_in 3 rfl) (gm_c (gm_at lwV_6_in 9 rfl) (gm_c (gm_at lwV_73_in 0 rfl) (gm_c (gm_at lwV_54_in 10 rfl) (gm_c (gm_at lwV_54_in 11 rfl) (gm_c (gm_at lwV_7_in 0 rfl) (gm_c (gm_at lwV_7_in 1 rfl) (gm_c (gm_at lwV_55_in 0 rfl) (gm_c (gm_at lwV_73_in 1 rfl) (gm_c (gm_at lwV_73_in 2 rfl) (gm_c (gm_at lwV_73_in 3 rfl) (gm_c (gm_at lwV_73_in 4 rfl) (gm_c (gm_at lwV_55_in 4 rfl) (gm_c (gm_at lwV_73_in 5 rfl) (gm_c (gm_at lwV_73_in 6 rfl) (gm_c (gm_at lwV_73_in 7 rfl) (gm_c (gm_at lwV_73_in 8 rfl) (gm_c (gm_at lwV_55_in 6 rfl) (gm_c (gm_at lwV_55_in 7 rfl) (gm_c (gm_at lwV_55_in 8 rfl) (gm_c (gm_at lwV_55_in 9 rfl) (gm_c (gm_at lwV_73_in 9 rfl) (gm_c (gm_at lwV_56_in 5 rfl) (gm_c (gm_at lwV_73_in 10 rfl) gm_nil)))))))))))))))))))))))))))) (by decide +kernel)) (goodIn_app (goodIn_in il_at0_X11_122 gd_at0_X11_122) (goodIn_app (goodIn_in il_X11 gd_X11) (goodIn_in il_X5 gd_X5))))
set_option maxRecDepth 20000 in
theorem g_lk_35_z_X12_growth_263 : GoodIn lwW (wsV RL 263 RX12 yX12_growth w_z_X12_growth) := goodIn_app (goodIn_sub (ws := ([.methodLink RL 263 yX12_growth, .instanceMethod yX12_growth, .selects RX12 yX12_growth yX12_growth, .initialized RX12] : List Cond)) (gm_c (gm_at lwV_72_in 5 rfl) (gm_c (gm_at lwV_72_in 6 rfl) (gm_c (gm_at lwV_72_in 7 rfl) (gm_c (gm_at lwV_0_in 7 rfl) gm_nil)))) (by decide +kernel)) (goodIn_ca (goodIn_sub (ws := .code yX12_growth cX12_growth 8 (some .int) :: l_z_X12_growth) (gm_c (gm_at lwV_73_in 11 rfl) (gm_c (gm_at lwV_57_in 0 rfl) (gm_c (gm_at lwV_57_in 1 rfl) (gm_c (gm_at lwV_57_in 2 rfl) (gm_c (gm_at lwV_0_in 7 rfl) (gm_c (gm_at lwV_1_in 5 rfl) (gm_c (gm_at lwV_74_in 0 rfl) (gm_c (gm_at lwV_57_in 9 rfl) (gm_c (gm_at lwV_57_in 10 rfl) gm_nil))))))))) (by decide +kernel)) (goodIn_in il_X12 gd_X12))
set_option maxRecDepth 20000 in
theorem g_lk_35_z_X12_thrown_149 : GoodIn lwW (wsV RL 149 RX12 yX12_thrown w_z_X12_thrown) := goodIn_app (goodIn_sub (ws := ([.methodLink RL 149 yX12_thrown, .instanceMethod yX12_thrown, .selects RX12 yX12_thrown yX12_thrown, .initialized RX12] : List Cond)) (gm_c (gm_at lwV_6_in 2 rfl) (gm_c (gm_at lwV_6_in 3 rfl) (gm_c (gm_at lwV_6_in 4 rfl) (gm_c (gm_at lwV_0_in 7 rfl) gm_nil)))) (by decide +kernel)) (goodIn_ca (goodIn_sub (ws := .code yX12_thrown cX12_thrown 1 (some .int) :: l_z_X12_thrown) (gm_c (gm_at lwV_9_in 9 rfl) (gm_c (gm_at lwV_1_in 5 rfl) gm_nil)) (by decide +kernel)) (goodIn_in il_X12 gd_X12))
set_option maxRecDepth 20000 in
theorem g_lk_35_z_X12_thrown_2_149 : GoodIn lwW (wsV RL 149 RX12 yX12_thrown w_z_X12_thrown_2) := goodIn_app (goodIn_sub (ws := ([.methodLink RL 149 yX12_thrown, .instanceMethod yX12_thrown, .selects RX12 yX12_thrown yX12_thrown, .initialized RX12] : List Cond)) (gm_c (gm_at lwV_6_in 2 rfl) (gm_c (gm_at lwV_6_in 3 rfl) (gm_c (gm_at lwV_6_in 4 rfl) (gm_c (gm_at lwV_0_in 7 rfl) gm_nil)))) (by decide +kernel)) (goodIn_ca (goodIn_sub (ws := .code yX12_thrown cX12_thrown 1 (some .int) :: l_z_X12_thrown_2) (gm_c (gm_at lwV_9_in 9 rfl) (gm_c (gm_at lwV_1_in 5 rfl) gm_nil)) (by decide +kernel)) (goodIn_in il_X12 gd_X12))
set_option maxHeartbeats 4000000 in
set_option maxRecDepth 100000 in
/-- the law, one call: growth -/
theorem lk_35 {p : Program} {l : Launch} {e : Env} {s : State} {m : MethodId} {below : List Frame} {meth : Method} {c : Code} {b : Nat} {xs : Nat → Int32} (hst : l.stackTraces = false) (C0 : lw_At p s m meth c b 6 xs) {A : Nat → Prop} (hA : ∀ q : Nat, s.heap.size ≤ q → A q) (hAf : ∀ q : Nat, A q → s.heap.size ≤ q) (hZ : Zz A s) (hY : Yy s) (dC : Nat → ClassId) (dI : Nat → Nat → Nat) (aX : Nat) (fsX : List Value) (qP : Nat) (gP : Nat → Option Nat) (kP : ClassId) (ap : Nat) (fsp : List Value) (aq : Nat) (fsq : List Value) (aZ : Nat) (fsZ : List Value) (q_things : Nat) (f_things : Nat → Int32) (k_things : ClassId) (qO : Nat) (fO : Nat → Int64) (kO : ClassId) (qW : Nat) (w1 : Int32) (hw1 : w1 = xs (1 : Int32).toNatClampNeg) (w2 : Int32) (hw2 : w2 = xs (2 : Int32).toNatClampNeg) (w3 : Int32) (hw3 : w3 = xs (3 : Int32).toNatClampNeg) (w4 : Int32) (hw4 : w4 = xs (4 : Int32).toNatClampNeg) (w5 : Int32) (hw5 : w5 = xs (5 : Int32).toNatClampNeg) (k_fsX : fh fsX 18 [(4, .ref qP), (15, .int 0), (14, .ref qW)]) (k_fsp : fh fsp 21 [(0, .int 0)]) (k_fsq : fh fsq 21 [(0, .int 0)]) (k_fsZ : fh fsZ 150 [(0, .int 0), (48, .ref q_things), (75, .int 0)]) (hg1 : gP w2.toNatClampNeg = some aq) (hg : gP w1.toNatClampNeg = some ap) (hz_f_things : ∀ j, f_things j = 0) {H : Heap} {locs : List Loc} (hK : va_K (dC, dI) vwCl [(kP, .object "HeapWorks$Picture"), (k_things, .int), (kO, .long)] s) (hP : va_P (dC, dI) vwCl [(aX, .inr (14, fsX)), (qP, .inl (kP, 4, .inr (.inr (.inr (.inr gP))))), (ap, .inr (8, fsp)), (aq, .inr (8, fsq)), (aZ, .inr (15, fsZ)), (q_things, .inl (k_things, 5, .inl f_things)), (qO, .inl (kO, 1, .inr (.inl fO)))] H) (hD : va_D A [(aX, .inr (14, fsX)), (qP, .inl (kP, 4, .inr (.inr (.inr (.inr gP))))), (ap, .inr (8, fsp)), (aq, .inr (8, fsq)), (aZ, .inr (15, fsZ)), (q_things, .inl (k_things, 5, .inl f_things)), (qO, .inl (kO, 1, .inr (.inl fO)))]) (hS : va_S A s.heap H locs) (ls : Array Slot) (hl : lv_has ls 8 [(0, .ref b), (1, .ref aX), (2, .ref aZ), (3, .ref qO), (4, .int 0)]) : W p l e room_1 s m #[Value.ref b] below meth c H locs 390 571359 (lw_Z below #[Value.ref b] s) (F0 m 2280 ls []) := by
  obtain ⟨hx, hb, hr, hml, hown0, hts0, hX, hbl, hlocks, hgv⟩ := id C0
  have hown : s.vm.findClass RL = some m.cls := hown0
  have hts : ∀ w ∈ lwW, w.before #[Value.ref b] s = true := fun w h => hts0 w (lwW_in w h)
  have hbA : ¬ A b := fun h => absurd (hAf b h) (Nat.not_le.mpr hbl)
  have o_fsX := ow_0 k_fsX
  have o_fsp := ow_0 k_fsp
  have o_fsq := ow_0 k_fsq
  have o_fsZ := ow_0 k_fsZ
  refine lv_aload_n hx hb dL_law_2280 rfl (lv_at hl 1 rfl) ?_
  refine lv_aload_n hx hb dL_law_2281 rfl (lv_at hl 0 rfl) ?_
  refine lv_iload hx hb dL_law_2282 (lv_at hl 4 rfl) ?_
  refine lv_iconst (v := 1) hx hb dL_law_2284 (by decide) ?_
  refine lv_iadd hx hb dL_law_2285  ?_
  refine lv_topi (fun x101 ex101 => ?_)
  obtain rfl : x101 = 1 := ex101.trans (by decide)
  refine va_sld hx hb hX hbl hbA hS (show vp_in 1 6 from by unfold vp_in; decide) dL_law_2286 ?_
  refine lv_topi (fun x102 ex102 => ?_)
  obtain rfl : w1 = x102 := hw1.trans ex102.symm
  refine lv_aload_n hx hb dL_law_2287 rfl (lv_at hl 0 rfl) ?_
  refine lv_iload hx hb dL_law_2288 (lv_at hl 4 rfl) ?_
  refine lv_iconst (v := 2) hx hb dL_law_2290 (by decide) ?_
  refine lv_iadd hx hb dL_law_2291  ?_
  refine lv_topi (fun x103 ex103 => ?_)
  obtain rfl : x103 = 2 := ex103.trans (by decide)
  refine va_sld hx hb hX hbl hbA hS (show vp_in 2 6 from by unfold vp_in; decide) dL_law_2292 ?_
  refine lv_topi (fun x104 ex104 => ?_)
  obtain rfl : w2 = x104 := hw2.trans ex104.symm
  refine lv_aload_n hx hb dL_law_2293 rfl (lv_at hl 0 rfl) ?_
  refine lv_iload hx hb dL_law_2294 (lv_at hl 4 rfl) ?_
  refine lv_iconst (v := 3) hx hb dL_law_2296 (by decide) ?_
  refine lv_iadd hx hb dL_law_2297  ?_
  refine lv_topi (fun x105 ex105 => ?_)
  obtain rfl : x105 = 3 := ex105.trans (by decide)
  refine va_sld hx hb hX hbl hbA hS (show vp_in 3 6 from by unfold vp_in; decide) dL_law_2298 ?_
  refine lv_topi (fun x106 ex106 => ?_)
  obtain rfl : w3 = x106 := hw3.trans ex106.symm
  refine lv_aload_n hx hb dL_law_2299 rfl (lv_at hl 3 rfl) ?_
  have hPc := hP.sub (ws' := [(aX, .inr (14, fsX)), (qP, .inl (kP, 4, .inr (.inr (.inr (.inr gP))))), (ap, .inr (8, fsp)), (aq, .inr (8, fsq)), (qO, .inl (kO, 1, .inr (.inl fO)))]) [0, 1, 2, 3, 6] rfl
  have hDc := hD.sub (ws' := [(aX, .inr (14, fsX)), (qP, .inl (kP, 4, .inr (.inr (.inr (.inr gP))))), (ap, .inr (8, fsp)), (aq, .inr (8, fsq)), (qO, .inl (kO, 1, .inr (.inl fO)))]) [0, 1, 2, 3, 6] (by decide) rfl
  have hKc := hK.sub (tys' := [(kP, .object "HeapWorks$Picture"), (kO, .long)]) [0, 2] rfl
  have hFc := va_free (wc := [(aX, .inr (14, fsX)), (qP, .inl (kP, 4, .inr (.inr (.inr (.inr gP))))), (ap, .inr (8, fsp)), (aq, .inr (8, fsq)), (qO, .inl (kO, 1, .inr (.inl fO)))]) hD hS hA [0, 1, 2, 3, 6] rfl
  refine vx_calli (vx_runSX (As := [.ref aX, .int w1, .int w2, .int w3, .ref qO]) (rest := []) ⟨hx, hb, hml, hown, hts⟩ (z_L_growth l dC dI H.size aX fsX qP gP kP ap fsp aq fsq qO fO kO w1 w2 w3 qW (fh_sub o_fsX.2 [0, 1, 2] rfl) (fh_sub o_fsp.2 [0] rfl) (fh_sub o_fsq.2 [0] rfl) hst hg1 hg) (vx_cwSW 5 hts g_lk_35_z_L_growth_261 rfl rfl rfl (by decide +kernel) ⟨Nat.le_of_ble_eq_true rfl, Nat.le_of_ble_eq_true rfl⟩) ⟨fun a U g mk q => by obtain ⟨q0, q1, qZ, qY, qP, qK, qD⟩ := q; exact ⟨q0, q1, Zz_call qZ, Yy_call qY, qP, va_K.moved (u := U) (U := U.calling g mk a) (Vm.Alike.refl U.vm) qK, qD⟩, fun U hU hW => ⟨rfl, by rw [hU], Zz_go hZ hS hFc hU hW, Yy_go hY hW, by rw [hU]; exact hPc, va_K.moved hW.alike hKc, hDc.weaken (fun _ _ _ _ => trivial)⟩⟩ rfl rfl hl.1 rfl (lv_room (Nat.le_of_ble_eq_true rfl)) dL_law_2300 ⟨Nat.le_of_ble_eq_true rfl, Nat.le_of_ble_eq_true rfl⟩) hS (fun q _ h => hFc q h) hFc (fun q _ h => hFc q h) (fun E ce q9 u t H1 locs ht hvm hpx hBX hz1 hk1 hS hce hcv hcl => ?_) (fun r107 u t H1 locs ht hvm hw hB hz1 hk1 hS => ?_)
  · exact False.elim hBX
  · skip
    obtain ⟨f108, rfl⟩ : ∃ z, z = u := ⟨_, rfl⟩
    obtain ⟨hP1, hK1, hD1⟩ := hB
    rw [ht] at hP1
    try dsimp only at hw
    obtain ⟨hP, hD⟩ := va_join (wr := [(aZ, .inr (15, fsZ)), (q_things, .inl (k_things, 5, .inl f_things))]) (w1 := [(qO, .inl (kO, 1, .inr (.inl f108)))]) hP hD [0, 1, 2, 3, 6] [4, 5] rfl rfl (by decide) (by decide) hk1 hFc hP1 hD1
    have hK := hK.sub (tys' := [(k_things, .int), (kO, .long)]) [1, 2] rfl
    generalize H1 = H at hP hS ⊢
    refine W.widen (k := 393) (n := 571377) (by omega) (by omega) ?_
    have hP : va_P (dC, dI) vwCl [(aZ, .inr (15, fsZ)), (q_things, .inl (k_things, 5, .inl f_things)), (qO, .inl (kO, 1, .inr (.inl f108)))] H := hP
    have hD : va_D A [(aZ, .inr (15, fsZ)), (q_things, .inl (k_things, 5, .inl f_things)), (qO, .inl (kO, 1, .inr (.inl f108)))] := hD
    rcases hw with ⟨c109, er110⟩ | ⟨c111, c112, er113⟩ | ⟨c114, c115, c116, er117⟩ | ⟨c118, c119, c120, c121, er122⟩ | ⟨c123, c124, c125, c126, c127, er128⟩ | ⟨c129, c130, c131, c132, c133, c134, er135⟩ | ⟨c136, c137, c138, c139, c140, c141, c142, c143, er144, q145⟩ | ⟨c146, c147, c148, c149, c150, c151, c152, c153, er154, q155⟩ | ⟨c156, c157, c158, c159, c160, c161, c162, er163, q164⟩
    · skip
      subst er110
      refine lv_istore (lv' := [(5, .int 1), (0, .ref b), (1, .ref aX), (2, .ref aZ), (3, .ref qO), (4, .int 0)]) hx hb dL_law_2303 hl (by decide) rfl (fun ls hl => ?_)
      refine lv_aload_n hx hb dL_law_2305 rfl (lv_at hl 3 rfl) ?_
      refine lv_aload_n hx hb dL_law_2306 rfl (lv_at hl 1 rfl) ?_
      refine lv_iload hx hb dL_law_2307 (lv_at hl 5 rfl) ?_
      refine lv_iconst (v := 1) hx hb dL_law_2309 (by decide) ?_
      refine lv_iadd hx hb dL_law_2310  ?_
      refine lv_topi (fun x165 ex165 => ?_)
      obtain rfl : x165 = 1 := ex165.trans (by decide)
      refine va_sld hx hb hX hbl hbA hS (show vp_in 1 6 from by unfold vp_in; decide) dL_law_2311 ?_
      refine lv_topi (fun x166 ex166 => ?_)
      obtain rfl : w1 = x166 := hw1.trans ex166.symm
      refine lv_aload_n hx hb dL_law_2312 rfl (lv_at hl 1 rfl) ?_
      refine lv_iload hx hb dL_law_2313 (lv_at hl 5 rfl) ?_
      refine lv_iconst (v := 2) hx hb dL_law_2315 (by decide) ?_
      refine lv_iadd hx hb dL_law_2316  ?_
      refine lv_topi (fun x167 ex167 => ?_)
      obtain rfl : x167 = 2 := ex167.trans (by decide)
      refine va_sld hx hb hX hbl hbA hS (show vp_in 2 6 from by unfold vp_in; decide) dL_law_2317 ?_
      refine lv_topi (fun x168 ex168 => ?_)
      obtain rfl : w2 = x168 := hw2.trans ex168.symm
      refine lv_aload_n hx hb dL_law_2318 rfl (lv_at hl 1 rfl) ?_
      refine lv_iload hx hb dL_law_2319 (lv_at hl 5 rfl) ?_
      refine lv_iconst (v := 3) hx hb dL_law_2321 (by decide) ?_
      refine lv_iadd hx hb dL_law_2322  ?_
      refine lv_topi (fun x169 ex169 => ?_)
      obtain rfl : x169 = 3 := ex169.trans (by decide)
      refine va_sld hx hb hX hbl hbA hS (show vp_in 3 6 from by unfold vp_in; decide) dL_law_2323 ?_
      refine lv_topi (fun x170 ex170 => ?_)
      obtain rfl : w3 = x170 := hw3.trans ex170.symm
      have hPc := hP.sub (ws' := [(aZ, .inr (15, fsZ)), (q_things, .inl (k_things, 5, .inl f_things))]) [0, 1] rfl
      have hDc := hD.sub (ws' := [(aZ, .inr (15, fsZ)), (q_things, .inl (k_things, 5, .inl f_things))]) [0, 1] (by decide) rfl
      have hKc := hK.sub (tys' := [(k_things, .int)]) [0] rfl
      have hFc := va_free (wc := [(aZ, .inr (15, fsZ)), (q_things, .inl (k_things, 5, .inl f_things))]) hD hS hA [0, 1] rfl
      refine va_calli (va_runV (As := [.int w1, .int w2, .int w3]) (rest := []) ⟨hx, hb, hml, hown, hts⟩ (z_X12_growth l dC dI H.size aZ fsZ q_things f_things k_things w1 w2 w3 (fh_sub o_fsZ.2 [0, 1, 2] rfl) hz_f_things) (cwV 3 hts g_lk_35_z_X12_growth_263 rfl rfl rfl (by decide +kernel) ⟨Nat.le_of_ble_eq_true rfl, Nat.le_of_ble_eq_true rfl⟩) ⟨fun a U g mk q => by obtain ⟨q0, q1, qP, qK, qD⟩ := q; exact ⟨q0, q1, qP, va_K.moved (u := U) (U := U.calling g mk a) (Vm.Alike.refl U.vm) qK, qD⟩, va_recv hK hP (ci := 15) (q0 := 0) rfl rfl, fun U hU hW => ⟨rfl, by rw [hU], by rw [hU]; exact hPc, va_K.moved hW.alike hKc, hDc.weaken (fun _ _ _ _ => trivial)⟩⟩ rfl rfl hl.1 rfl (lv_room (Nat.le_of_ble_eq_true rfl)) dL_law_2324 ⟨Nat.le_of_ble_eq_true rfl, Nat.le_of_ble_eq_true rfl⟩) hS (fun q _ h => hFc q h) hFc (fun r171 u t H1 locs ht hvm hw hB hz1 hk1 hS => ?_)
      obtain ⟨s172, rfl⟩ : ∃ z, z = u := ⟨_, rfl⟩
      obtain ⟨hP1, hK1, hD1⟩ := hB
      rw [ht] at hP1
      try dsimp only at hw
      obtain ⟨hP, hD⟩ := va_join (wr := [(qO, .inl (kO, 1, .inr (.inl f108)))]) (w1 := [(aZ, .inr (15, s172)), (q_things, .inl (k_things, 5, .inl f_things))]) hP hD [0, 1] [2] rfl rfl (by decide) (by decide) hk1 hFc hP1 hD1
      have hK := hK.sub (tys' := [(kO, .long), (k_things, .int)]) [1, 0] rfl
      generalize H1 = H at hP hS ⊢
      have hP : va_P (dC, dI) vwCl [(qO, .inl (kO, 1, .inr (.inl f108))), (aZ, .inr (15, s172)), (q_things, .inl (k_things, 5, .inl f_things))] H := hP
      have hD : va_D A [(qO, .inl (kO, 1, .inr (.inl f108))), (aZ, .inr (15, s172)), (q_things, .inl (k_things, 5, .inl f_things))] := hD
      rcases hw with ⟨c173, er174, o_s172⟩ | ⟨c175, c176, er177, o_s172⟩ | ⟨c178, c179, c180, er181, o_s172⟩ | ⟨c182, c183, c184, c185, er186, o_s172⟩ | ⟨c187, c188, c189, c190, c191, er192, o_s172⟩ | ⟨c193, c194, c195, c196, c197, c198, c199, c200, er201, o_s172⟩ | ⟨c202, c203, c204, c205, c206, c207, c208, c209, er210, o_s172⟩ | ⟨c211, c212, c213, c214, c215, c216, c217, c218, er219, o_s172⟩ | ⟨c220, c221, c222, c223, c224, c225, er226, o_s172⟩
      · skip
        subst er174
        have o_s172 := ow_on o_fsZ o_s172 (l' := [(0, .int 1), (48, .ref q_things), (75, .int 0), (48, .ref q_things), (75, .int 0)]) (w' := [0]) rfl rfl
        refine lv_istore (lv' := [(6, .int 0), (5, .int 1), (0, .ref b), (1, .ref aX), (2, .ref aZ), (3, .ref qO), (4, .int 0)]) hx hb dL_law_2327 hl (by decide) rfl (fun ls hl => ?_)
        refine lv_aload_n hx hb dL_law_2329 rfl (lv_at hl 4 rfl) ?_
        have hPc := hP.sub (ws' := [(aZ, .inr (15, s172))]) [1] rfl
        have hDc := hD.sub (ws' := [(aZ, .inr (15, s172))]) [1] (by decide) rfl
        have hKc := hK.sub (tys' := []) [] rfl
        have hFc := va_free (wc := [(aZ, .inr (15, s172))]) hD hS hA [1] rfl
        refine va_calli (va_runV (As := []) (rest := []) ⟨hx, hb, hml, hown, hts⟩ (z_X12_thrown l dC dI H.size aZ s172 (fh_sub o_s172.2 [0] rfl) ) (cwV 0 hts g_lk_35_z_X12_thrown_149 rfl rfl rfl (by decide +kernel) ⟨Nat.le_of_ble_eq_true rfl, Nat.le_of_ble_eq_true rfl⟩) ⟨fun a U g mk q => by obtain ⟨q0, q1, qP, qK, qD⟩ := q; exact ⟨q0, q1, qP, va_K.moved (u := U) (U := U.calling g mk a) (Vm.Alike.refl U.vm) qK, qD⟩, va_recv hK hP (ci := 15) (q0 := 1) rfl rfl, fun U hU hW => ⟨rfl, by rw [hU], by rw [hU]; exact hPc, va_K.moved hW.alike hKc, hDc.weaken (fun _ _ _ _ => trivial)⟩⟩ rfl rfl hl.1 rfl (lv_room (Nat.le_of_ble_eq_true rfl)) dL_law_2330 ⟨Nat.le_of_ble_eq_true rfl, Nat.le_of_ble_eq_true rfl⟩) hS (fun q _ h => hFc q h) hFc (fun r227 u t H1 locs ht hvm hw hB hz1 hk1 hS => ?_)
        obtain ⟨hP1, hK1, hD1⟩ := hB
        rw [ht] at hP1
        try dsimp only at hw
        obtain ⟨hP, hD⟩ := va_join (wr := [(qO, .inl (kO, 1, .inr (.inl f108))), (q_things, .inl (k_things, 5, .inl f_things))]) (w1 := [(aZ, .inr (15, s172))]) hP hD [1] [0, 2] rfl rfl (by decide) (by decide) hk1 hFc hP1 hD1
        have hK := hK.sub (tys' := [(kO, .long), (k_things, .int)]) [0, 1] rfl
        generalize H1 = H at hP hS ⊢
        have hP : va_P (dC, dI) vwCl [(qO, .inl (kO, 1, .inr (.inl f108))), (q_things, .inl (k_things, 5, .inl f_things)), (aZ, .inr (15, s172))] H := hP
        have hD : va_D A [(qO, .inl (kO, 1, .inr (.inl f108))), (q_things, .inl (k_things, 5, .inl f_things)), (aZ, .inr (15, s172))] := hD
        have er228 := hw
        subst er228
        refine lv_iload hx hb dL_law_2333 (lv_at hl 1 rfl) ?_
        refine lv_icmp_eq (tgt := 2340) hx hb dL_law_2335 (by decide) (fun c229 => ?_) (fun c229 => absurd c229 (by decide))
        refine lv_iload hx hb dL_law_2340 (lv_at hl 1 rfl) ?_
        refine lv_if_ne (tgt := 2357) hx hb dL_law_2342 (by decide) (fun c230 => ?_) (fun c230 => absurd c230 (by decide))
        refine lv_goto (tgt := 3111) hx hb dL_law_2357 (by decide) ?_
        exact lw_end hst C0 hA hAf hZ hY (Nat.le_of_ble_eq_true rfl) (Nat.le_of_ble_eq_true rfl) dC dI P0k P0 D0 hS ls (lv_sub hl [2, 6] rfl)
      · exact (by exfalso; (try simp only [i_lt, i_le, i_eq, kc_0, kc_4] at c109 c175 c176); omega)
      · exact (by exfalso; (try simp only [i_lt, i_le, i_eq, kc_0, kc_4] at c109 c178 c179); omega)
      · exact (by exfalso; (try simp only [i_lt, i_le, i_eq, kc_0, kc_4] at c109 c182 c183); omega)
      · exact (by exfalso; (try simp only [i_lt, i_le, i_eq, kc_0, kc_4] at c109 c187 c188); omega)
      · exact (by exfalso; (try simp only [i_lt, i_le, i_eq, kc_0, kc_4] at c109 c193 c194); omega)
      · exact (by exfalso; (try simp only [i_lt, i_le, i_eq, kc_0, kc_4] at c109 c202 c203); omega)
      · exact (by exfalso; (try simp only [i_lt, i_le, i_eq, kc_0, kc_4] at c109 c211 c212); omega)
      · exact (by exfalso; (try simp only [i_lt, i_le, i_eq, kc_0, kc_4] at c109 c220 c221); omega)
    · skip
      subst er113
      refine lv_istore (lv' := [(5, .int 1), (0, .ref b), (1, .ref aX), (2, .ref aZ), (3, .ref qO), (4, .int 0)]) hx hb dL_law_2303 hl (by decide) rfl (fun ls hl => ?_)
      refine lv_aload_n hx hb dL_law_2305 rfl (lv_at hl 3 rfl) ?_
      refine lv_aload_n hx hb dL_law_2306 rfl (lv_at hl 1 rfl) ?_
      refine lv_iload hx hb dL_law_2307 (lv_at hl 5 rfl) ?_
      refine lv_iconst (v := 1) hx hb dL_law_2309 (by decide) ?_
      refine lv_iadd hx hb dL_law_2310  ?_
      refine lv_topi (fun x231 ex231 => ?_)
      obtain rfl : x231 = 1 := ex231.trans (by decide)
      refine va_sld hx hb hX hbl hbA hS (show vp_in 1 6 from by unfold vp_in; decide) dL_law_2311 ?_
      refine lv_topi (fun x232 ex232 => ?_)
      obtain rfl : w1 = x232 := hw1.trans ex232.symm
      refine lv_aload_n hx hb dL_law_2312 rfl (lv_at hl 1 rfl) ?_
      refine lv_iload hx hb dL_law_2313 (lv_at hl 5 rfl) ?_
      refine lv_iconst (v := 2) hx hb dL_law_2315 (by decide) ?_
      refine lv_iadd hx hb dL_law_2316  ?_
      refine lv_topi (fun x233 ex233 => ?_)
      obtain rfl : x233 = 2 := ex233.trans (by decide)
      refine va_sld hx hb hX hbl hbA hS (show vp_in 2 6 from by unfold vp_in; decide) dL_law_2317 ?_
      refine lv_topi (fun x234 ex234 => ?_)
      obtain rfl : w2 = x234 := hw2.trans ex234.symm
      refine lv_aload_n hx hb dL_law_2318 rfl (lv_at hl 1 rfl) ?_
      refine lv_iload hx hb dL_law_2319 (lv_at hl 5 rfl) ?_
      refine lv_iconst (v := 3) hx hb dL_law_2321 (by decide) ?_
      refine lv_iadd hx hb dL_law_2322  ?_
      refine lv_topi (fun x235 ex235 => ?_)
      obtain rfl : x235 = 3 := ex235.trans (by decide)
      refine va_sld hx hb hX hbl hbA hS (show vp_in 3 6 from by unfold vp_in; decide) dL_law_2323 ?_
      refine lv_topi (fun x236 ex236 => ?_)
      obtain rfl : w3 = x236 := hw3.trans ex236.symm
      have hPc := hP.sub (ws' := [(aZ, .inr (15, fsZ)), (q_things, .inl (k_things, 5, .inl f_things))]) [0, 1] rfl
      have hDc := hD.sub (ws' := [(aZ, .inr (15, fsZ)), (q_things, .inl (k_things, 5, .inl f_things))]) [0, 1] (by decide) rfl
      have hKc := hK.sub (tys' := [(k_things, .int)]) [0] rfl
      have hFc := va_free (wc := [(aZ, .inr (15, fsZ)), (q_things, .inl (k_things, 5, .inl f_things))]) hD hS hA [0, 1] rfl
      refine va_calli (va_runV (As := [.int w1, .int w2, .int w3]) (rest := []) ⟨hx, hb, hml, hown, hts⟩ (z_X12_growth l dC dI H.size aZ fsZ q_things f_things k_things w1 w2 w3 (fh_sub o_fsZ.2 [0, 1, 2] rfl) hz_f_things) (cwV 3 hts g_lk_35_z_X12_growth_263 rfl rfl rfl (by decide +kernel) ⟨Nat.le_of_ble_eq_true rfl, Nat.le_of_ble_eq_true rfl⟩) ⟨fun a U g mk q => by obtain ⟨q0, q1, qP, qK, qD⟩ := q; exact ⟨q0, q1, qP, va_K.moved (u := U) (U := U.calling g mk a) (Vm.Alike.refl U.vm) qK, qD⟩, va_recv hK hP (ci := 15) (q0 := 0) rfl rfl, fun U hU hW => ⟨rfl, by rw [hU], by rw [hU]; exact hPc, va_K.moved hW.alike hKc, hDc.weaken (fun _ _ _ _ => trivial)⟩⟩ rfl rfl hl.1 rfl (lv_room (Nat.le_of_ble_eq_true rfl)) dL_law_2324 ⟨Nat.le_of_ble_eq_true rfl, Nat.le_of_ble_eq_true rfl⟩) hS (fun q _ h => hFc q h) hFc (fun r237 u t H1 locs ht hvm hw hB hz1 hk1 hS => ?_)
      obtain ⟨s238, rfl⟩ : ∃ z, z = u := ⟨_, rfl⟩
      obtain ⟨hP1, hK1, hD1⟩ := hB
      rw [ht] at hP1
      try dsimp only at hw
      obtain ⟨hP, hD⟩ := va_join (wr := [(qO, .inl (kO, 1, .inr (.inl f108)))]) (w1 := [(aZ, .inr (15, s238)), (q_things, .inl (k_things, 5, .inl f_things))]) hP hD [0, 1] [2] rfl rfl (by decide) (by decide) hk1 hFc hP1 hD1
      have hK := hK.sub (tys' := [(kO, .long), (k_things, .int)]) [1, 0] rfl
      generalize H1 = H at hP hS ⊢
      have hP : va_P (dC, dI) vwCl [(qO, .inl (kO, 1, .inr (.inl f108))), (aZ, .inr (15, s238)), (q_things, .inl (k_things, 5, .inl f_things))] H := hP
      have hD : va_D A [(qO, .inl (kO, 1, .inr (.inl f108))), (aZ, .inr (15, s238)), (q_things, .inl (k_things, 5, .inl f_things))] := hD
      rcases hw with ⟨c239, er240, o_s238⟩ | ⟨c241, c242, er243, o_s238⟩ | ⟨c244, c245, c246, er247, o_s238⟩ | ⟨c248, c249, c250, c251, er252, o_s238⟩ | ⟨c253, c254, c255, c256, c257, er258, o_s238⟩ | ⟨c259, c260, c261, c262, c263, c264, c265, c266, er267, o_s238⟩ | ⟨c268, c269, c270, c271, c272, c273, c274, c275, er276, o_s238⟩ | ⟨c277, c278, c279, c280, c281, c282, c283, c284, er285, o_s238⟩ | ⟨c286, c287, c288, c289, c290, c291, er292, o_s238⟩
      · exact (by exfalso; (try simp only [i_lt, i_le, i_eq, kc_0, kc_4] at c111 c112 c239); omega)
      · skip
        subst er243
        have o_s238 := ow_on o_fsZ o_s238 (l' := [(0, .int 1), (48, .ref q_things), (75, .int 0), (48, .ref q_things), (75, .int 0)]) (w' := [0]) rfl rfl
        refine lv_istore (lv' := [(6, .int 0), (5, .int 1), (0, .ref b), (1, .ref aX), (2, .ref aZ), (3, .ref qO), (4, .int 0)]) hx hb dL_law_2327 hl (by decide) rfl (fun ls hl => ?_)
        refine lv_aload_n hx hb dL_law_2329 rfl (lv_at hl 4 rfl) ?_
        have hPc := hP.sub (ws' := [(aZ, .inr (15, s238))]) [1] rfl
        have hDc := hD.sub (ws' := [(aZ, .inr (15, s238))]) [1] (by decide) rfl
        have hKc := hK.sub (tys' := []) [] rfl
        have hFc := va_free (wc := [(aZ, .inr (15, s238))]) hD hS hA [1] rfl
        refine va_calli (va_runV (As := []) (rest := []) ⟨hx, hb, hml, hown, hts⟩ (z_X12_thrown l dC dI H.size aZ s238 (fh_sub o_s238.2 [0] rfl) ) (cwV 0 hts g_lk_35_z_X12_thrown_149 rfl rfl rfl (by decide +kernel) ⟨Nat.le_of_ble_eq_true rfl, Nat.le_of_ble_eq_true rfl⟩) ⟨fun a U g mk q => by obtain ⟨q0, q1, qP, qK, qD⟩ := q; exact ⟨q0, q1, qP, va_K.moved (u := U) (U := U.calling g mk a) (Vm.Alike.refl U.vm) qK, qD⟩, va_recv hK hP (ci := 15) (q0 := 1) rfl rfl, fun U hU hW => ⟨rfl, by rw [hU], by rw [hU]; exact hPc, va_K.moved hW.alike hKc, hDc.weaken (fun _ _ _ _ => trivial)⟩⟩ rfl rfl hl.1 rfl (lv_room (Nat.le_of_ble_eq_true rfl)) dL_law_2330 ⟨Nat.le_of_ble_eq_true rfl, Nat.le_of_ble_eq_true rfl⟩) hS (fun q _ h => hFc q h) hFc (fun r293 u t H1 locs ht hvm hw hB hz1 hk1 hS => ?_)
        obtain ⟨hP1, hK1, hD1⟩ := hB
        rw [ht] at hP1
        try dsimp only at hw
        obtain ⟨hP, hD⟩ := va_join (wr := [(qO, .inl (kO, 1, .inr (.inl f108))), (q_things, .inl (k_things, 5, .inl f_things))]) (w1 := [(aZ, .inr (15, s238))]) hP hD [1] [0, 2] rfl rfl (by decide) (by decide) hk1 hFc hP1 hD1
        have hK := hK.sub (tys' := [(kO, .long), (k_things, .int)]) [0, 1] rfl
        generalize H1 = H at hP hS ⊢
        have hP : va_P (dC, dI) vwCl [(qO, .inl (kO, 1, .inr (.inl f108))), (q_things, .inl (k_things, 5, .inl f_things)), (aZ, .inr (15, s238))] H := hP
        have hD : va_D A [(qO, .inl (kO, 1, .inr (.inl f108))), (q_things, .inl (k_things, 5, .inl f_things)), (aZ, .inr (15, s238))] := hD
        have er294 := hw
        subst er294
        refine lv_iload hx hb dL_law_2333 (lv_at hl 1 rfl) ?_
        refine lv_icmp_eq (tgt := 2340) hx hb dL_law_2335 (by decide) (fun c295 => ?_) (fun c295 => absurd c295 (by decide))
        refine lv_iload hx hb dL_law_2340 (lv_at hl 1 rfl) ?_
        refine lv_if_ne (tgt := 2357) hx hb dL_law_2342 (by decide) (fun c296 => ?_) (fun c296 => absurd c296 (by decide))
        refine lv_goto (tgt := 3111) hx hb dL_law_2357 (by decide) ?_
        exact lw_end hst C0 hA hAf hZ hY (Nat.le_of_ble_eq_true rfl) (Nat.le_of_ble_eq_true rfl) dC dI P0k P0 D0 hS ls (lv_sub hl [2, 6] rfl)
      · exact (by exfalso; (try simp only [i_lt, i_le, i_eq, kc_0, kc_4] at c111 c112 c244 c245); omega)
      · exact (by exfalso; (try simp only [i_lt, i_le, i_eq, kc_0, kc_4] at c111 c112 c248 c249); omega)
      · exact (by exfalso; (try simp only [i_lt, i_le, i_eq, kc_0, kc_4] at c111 c112 c253 c254); omega)
      · exact (by exfalso; (try simp only [i_lt, i_le, i_eq, kc_0, kc_4] at c111 c112 c259 c260); omega)
      · exact (by exfalso; (try simp only [i_lt, i_le, i_eq, kc_0, kc_4] at c111 c112 c268 c269); omega)
      · exact (by exfalso; (try simp only [i_lt, i_le, i_eq, kc_0, kc_4] at c111 c112 c277 c278); omega)
      · exact (by exfalso; (try simp only [i_lt, i_le, i_eq, kc_0, kc_4] at c111 c112 c286 c287); omega)
    · skip
      subst er117
      refine lv_istore (lv' := [(5, .int 1), (0, .ref b), (1, .ref aX), (2, .ref aZ), (3, .ref qO), (4, .int 0)]) hx hb dL_law_2303 hl (by decide) rfl (fun ls hl => ?_)
      refine lv_aload_n hx hb dL_law_2305 rfl (lv_at hl 3 rfl) ?_
      refine lv_aload_n hx hb dL_law_2306 rfl (lv_at hl 1 rfl) ?_
      refine lv_iload hx hb dL_law_2307 (lv_at hl 5 rfl) ?_
      refine lv_iconst (v := 1) hx hb dL_law_2309 (by decide) ?_
      refine lv_iadd hx hb dL_law_2310  ?_
      refine lv_topi (fun x297 ex297 => ?_)
      obtain rfl : x297 = 1 := ex297.trans (by decide)
      refine va_sld hx hb hX hbl hbA hS (show vp_in 1 6 from by unfold vp_in; decide) dL_law_2311 ?_
      refine lv_topi (fun x298 ex298 => ?_)
      obtain rfl : w1 = x298 := hw1.trans ex298.symm
      refine lv_aload_n hx hb dL_law_2312 rfl (lv_at hl 1 rfl) ?_
      refine lv_iload hx hb dL_law_2313 (lv_at hl 5 rfl) ?_
      refine lv_iconst (v := 2) hx hb dL_law_2315 (by decide) ?_
      refine lv_iadd hx hb dL_law_2316  ?_
      refine lv_topi (fun x299 ex299 => ?_)
      obtain rfl : x299 = 2 := ex299.trans (by decide)
      refine va_sld hx hb hX hbl hbA hS (show vp_in 2 6 from by unfold vp_in; decide) dL_law_2317 ?_
      refine lv_topi (fun x300 ex300 => ?_)
      obtain rfl : w2 = x300 := hw2.trans ex300.symm
      refine lv_aload_n hx hb dL_law_2318 rfl (lv_at hl 1 rfl) ?_
      refine lv_iload hx hb dL_law_2319 (lv_at hl 5 rfl) ?_
      refine lv_iconst (v := 3) hx hb dL_law_2321 (by decide) ?_
      refine lv_iadd hx hb dL_law_2322  ?_
      refine lv_topi (fun x301 ex301 => ?_)
      obtain rfl : x301 = 3 := ex301.trans (by decide)
      refine va_sld hx hb hX hbl hbA hS (show vp_in 3 6 from by unfold vp_in; decide) dL_law_2323 ?_
      refine lv_topi (fun x302 ex302 => ?_)
      obtain rfl : w3 = x302 := hw3.trans ex302.symm
      have hPc := hP.sub (ws' := [(aZ, .inr (15, fsZ)), (q_things, .inl (k_things, 5, .inl f_things))]) [0, 1] rfl
      have hDc := hD.sub (ws' := [(aZ, .inr (15, fsZ)), (q_things, .inl (k_things, 5, .inl f_things))]) [0, 1] (by decide) rfl
      have hKc := hK.sub (tys' := [(k_things, .int)]) [0] rfl
      have hFc := va_free (wc := [(aZ, .inr (15, fsZ)), (q_things, .inl (k_things, 5, .inl f_things))]) hD hS hA [0, 1] rfl
      refine va_calli (va_runV (As := [.int w1, .int w2, .int w3]) (rest := []) ⟨hx, hb, hml, hown, hts⟩ (z_X12_growth l dC dI H.size aZ fsZ q_things f_things k_things w1 w2 w3 (fh_sub o_fsZ.2 [0, 1, 2] rfl) hz_f_things) (cwV 3 hts g_lk_35_z_X12_growth_263 rfl rfl rfl (by decide +kernel) ⟨Nat.le_of_ble_eq_true rfl, Nat.le_of_ble_eq_true rfl⟩) ⟨fun a U g mk q => by obtain ⟨q0, q1, qP, qK, qD⟩ := q; exact ⟨q0, q1, qP, va_K.moved (u := U) (U := U.calling g mk a) (Vm.Alike.refl U.vm) qK, qD⟩, va_recv hK hP (ci := 15) (q0 := 0) rfl rfl, fun U hU hW => ⟨rfl, by rw [hU], by rw [hU]; exact hPc, va_K.moved hW.alike hKc, hDc.weaken (fun _ _ _ _ => trivial)⟩⟩ rfl rfl hl.1 rfl (lv_room (Nat.le_of_ble_eq_true rfl)) dL_law_2324 ⟨Nat.le_of_ble_eq_true rfl, Nat.le_of_ble_eq_true rfl⟩) hS (fun q _ h => hFc q h) hFc (fun r303 u t H1 locs ht hvm hw hB hz1 hk1 hS => ?_)
      obtain ⟨s304, rfl⟩ : ∃ z, z = u := ⟨_, rfl⟩
      obtain ⟨hP1, hK1, hD1⟩ := hB
      rw [ht] at hP1
      try dsimp only at hw
      obtain ⟨hP, hD⟩ := va_join (wr := [(qO, .inl (kO, 1, .inr (.inl f108)))]) (w1 := [(aZ, .inr (15, s304)), (q_things, .inl (k_things, 5, .inl f_things))]) hP hD [0, 1] [2] rfl rfl (by decide) (by decide) hk1 hFc hP1 hD1
      have hK := hK.sub (tys' := [(kO, .long), (k_things, .int)]) [1, 0] rfl
      generalize H1 = H at hP hS ⊢
      have hP : va_P (dC, dI) vwCl [(qO, .inl (kO, 1, .inr (.inl f108))), (aZ, .inr (15, s304)), (q_things, .inl (k_things, 5, .inl f_things))] H := hP
      have hD : va_D A [(qO, .inl (kO, 1, .inr (.inl f108))), (aZ, .inr (15, s304)), (q_things, .inl (k_things, 5, .inl f_things))] := hD
      rcases hw with ⟨c305, er306, o_s304⟩ | ⟨c307, c308, er309, o_s304⟩ | ⟨c310, c311, c312, er313, o_s304⟩ | ⟨c314, c315, c316, c317, er318, o_s304⟩ | ⟨c319, c320, c321, c322, c323, er324, o_s304⟩ | ⟨c325, c326, c327, c328, c329, c330, c331, c332, er333, o_s304⟩ | ⟨c334, c335, c336, c337, c338, c339, c340, c341, er342, o_s304⟩ | ⟨c343, c344, c345, c346, c347, c348, c349, c350, er351, o_s304⟩ | ⟨c352, c353, c354, c355, c356, c357, er358, o_s304⟩
      · exact (by exfalso; (try simp only [i_lt, i_le, i_eq, kc_0, kc_4] at c114 c115 c305); omega)
      · exact (by exfalso; (try simp only [i_lt, i_le, i_eq, kc_0, kc_4] at c114 c115 c307 c308); omega)
      · skip
        subst er313
        have o_s304 := ow_on o_fsZ o_s304 (l' := [(0, .int 1), (48, .ref q_things), (75, .int 0), (48, .ref q_things), (75, .int 0)]) (w' := [0]) rfl rfl
        refine lv_istore (lv' := [(6, .int 0), (5, .int 1), (0, .ref b), (1, .ref aX), (2, .ref aZ), (3, .ref qO), (4, .int 0)]) hx hb dL_law_2327 hl (by decide) rfl (fun ls hl => ?_)
        refine lv_aload_n hx hb dL_law_2329 rfl (lv_at hl 4 rfl) ?_
        have hPc := hP.sub (ws' := [(aZ, .inr (15, s304))]) [1] rfl
        have hDc := hD.sub (ws' := [(aZ, .inr (15, s304))]) [1] (by decide) rfl
        have hKc := hK.sub (tys' := []) [] rfl
        have hFc := va_free (wc := [(aZ, .inr (15, s304))]) hD hS hA [1] rfl
        refine va_calli (va_runV (As := []) (rest := []) ⟨hx, hb, hml, hown, hts⟩ (z_X12_thrown l dC dI H.size aZ s304 (fh_sub o_s304.2 [0] rfl) ) (cwV 0 hts g_lk_35_z_X12_thrown_149 rfl rfl rfl (by decide +kernel) ⟨Nat.le_of_ble_eq_true rfl, Nat.le_of_ble_eq_true rfl⟩) ⟨fun a U g mk q => by obtain ⟨q0, q1, qP, qK, qD⟩ := q; exact ⟨q0, q1, qP, va_K.moved (u := U) (U := U.calling g mk a) (Vm.Alike.refl U.vm) qK, qD⟩, va_recv hK hP (ci := 15) (q0 := 1) rfl rfl, fun U hU hW => ⟨rfl, by rw [hU], by rw [hU]; exact hPc, va_K.moved hW.alike hKc, hDc.weaken (fun _ _ _ _ => trivial)⟩⟩ rfl rfl hl.1 rfl (lv_room (Nat.le_of_ble_eq_true rfl)) dL_law_2330 ⟨Nat.le_of_ble_eq_true rfl, Nat.le_of_ble_eq_true rfl⟩) hS (fun q _ h => hFc q h) hFc (fun r359 u t H1 locs ht hvm hw hB hz1 hk1 hS => ?_)
        obtain ⟨hP1, hK1, hD1⟩ := hB
        rw [ht] at hP1
        try dsimp only at hw
        obtain ⟨hP, hD⟩ := va_join (wr := [(qO, .inl (kO, 1, .inr (.inl f108))), (q_things, .inl (k_things, 5, .inl f_things))]) (w1 := [(aZ, .inr (15, s304))]) hP hD [1] [0, 2] rfl rfl (by decide) (by decide) hk1 hFc hP1 hD1
        have hK := hK.sub (tys' := [(kO, .long), (k_things, .int)]) [0, 1] rfl
        generalize H1 = H at hP hS ⊢
        have hP : va_P (dC, dI) vwCl [(qO, .inl (kO, 1, .inr (.inl f108))), (q_things, .inl (k_things, 5, .inl f_things)), (aZ, .inr (15, s304))] H := hP
        have hD : va_D A [(qO, .inl (kO, 1, .inr (.inl f108))), (q_things, .inl (k_things, 5, .inl f_things)), (aZ, .inr (15, s304))] := hD
        have er360 := hw
        subst er360
        refine lv_iload hx hb dL_law_2333 (lv_at hl 1 rfl) ?_
        refine lv_icmp_eq (tgt := 2340) hx hb dL_law_2335 (by decide) (fun c361 => ?_) (fun c361 => absurd c361 (by decide))
        refine lv_iload hx hb dL_law_2340 (lv_at hl 1 rfl) ?_
        refine lv_if_ne (tgt := 2357) hx hb dL_law_2342 (by decide) (fun c362 => ?_) (fun c362 => absurd c362 (by decide))
        refine lv_goto (tgt := 3111) hx hb dL_law_2357 (by decide) ?_
        exact lw_end hst C0 hA hAf hZ hY (Nat.le_of_ble_eq_true rfl) (Nat.le_of_ble_eq_true rfl) dC dI P0k P0 D0 hS ls (lv_sub hl [2, 6] rfl)
      · exact (by exfalso; (try simp only [i_lt, i_le, i_eq, kc_0, kc_4] at c116 c316 c317); omega)
      · exact (by exfalso; (try simp only [i_lt, i_le, i_eq, kc_0, kc_4] at c116 c321 c322); omega)
      · exact (by exfalso; (try simp only [i_lt, i_le, i_eq, kc_0, kc_4] at c116 c327 c328); omega)
      · exact (by exfalso; (try simp only [i_lt, i_le, i_eq, kc_0, kc_4] at c116 c336 c337); omega)
      · exact (by exfalso; (try simp only [i_lt, i_le, i_eq, kc_0, kc_4] at c116 c345 c346); omega)
      · exact (by exfalso; (try simp only [i_lt, i_le, i_eq, kc_0, kc_4] at c116 c354 c355); omega)
    · skip
      subst er122
      refine lv_istore (lv' := [(5, .int 1), (0, .ref b), (1, .ref aX), (2, .ref aZ), (3, .ref qO), (4, .int 0)]) hx hb dL_law_2303 hl (by decide) rfl (fun ls hl => ?_)
      refine lv_aload_n hx hb dL_law_2305 rfl (lv_at hl 3 rfl) ?_
      refine lv_aload_n hx hb dL_law_2306 rfl (lv_at hl 1 rfl) ?_
      refine lv_iload hx hb dL_law_2307 (lv_at hl 5 rfl) ?_
      refine lv_iconst (v := 1) hx hb dL_law_2309 (by decide) ?_
      refine lv_iadd hx hb dL_law_2310  ?_
      refine lv_topi (fun x363 ex363 => ?_)
      obtain rfl : x363 = 1 := ex363.trans (by decide)
      refine va_sld hx hb hX hbl hbA hS (show vp_in 1 6 from by unfold vp_in; decide) dL_law_2311 ?_
      refine lv_topi (fun x364 ex364 => ?_)
      obtain rfl : w1 = x364 := hw1.trans ex364.symm
      refine lv_aload_n hx hb dL_law_2312 rfl (lv_at hl 1 rfl) ?_
      refine lv_iload hx hb dL_law_2313 (lv_at hl 5 rfl) ?_
      refine lv_iconst (v := 2) hx hb dL_law_2315 (by decide) ?_
      refine lv_iadd hx hb dL_law_2316  ?_
      refine lv_topi (fun x365 ex365 => ?_)
      obtain rfl : x365 = 2 := ex365.trans (by decide)
      refine va_sld hx hb hX hbl hbA hS (show vp_in 2 6 from by unfold vp_in; decide) dL_law_2317 ?_
      refine lv_topi (fun x366 ex366 => ?_)
      obtain rfl : w2 = x366 := hw2.trans ex366.symm
      refine lv_aload_n hx hb dL_law_2318 rfl (lv_at hl 1 rfl) ?_
      refine lv_iload hx hb dL_law_2319 (lv_at hl 5 rfl) ?_
      refine lv_iconst (v := 3) hx hb dL_law_2321 (by decide) ?_
      refine lv_iadd hx hb dL_law_2322  ?_
      refine lv_topi (fun x367 ex367 => ?_)
      obtain rfl : x367 = 3 := ex367.trans (by decide)
      refine va_sld hx hb hX hbl hbA hS (show vp_in 3 6 from by unfold vp_in; decide) dL_law_2323 ?_
      refine lv_topi (fun x368 ex368 => ?_)
      obtain rfl : w3 = x368 := hw3.trans ex368.symm
      have hPc := hP.sub (ws' := [(aZ, .inr (15, fsZ)), (q_things, .inl (k_things, 5, .inl f_things))]) [0, 1] rfl
      have hDc := hD.sub (ws' := [(aZ, .inr (15, fsZ)), (q_things, .inl (k_things, 5, .inl f_things))]) [0, 1] (by decide) rfl
      have hKc := hK.sub (tys' := [(k_things, .int)]) [0] rfl
      have hFc := va_free (wc := [(aZ, .inr (15, fsZ)), (q_things, .inl (k_things, 5, .inl f_things))]) hD hS hA [0, 1] rfl
      refine va_calli (va_runV (As := [.int w1, .int w2, .int w3]) (rest := []) ⟨hx, hb, hml, hown, hts⟩ (z_X12_growth l dC dI H.size aZ fsZ q_things f_things k_things w1 w2 w3 (fh_sub o_fsZ.2 [0, 1, 2] rfl) hz_f_things) (cwV 3 hts g_lk_35_z_X12_growth_263 rfl rfl rfl (by decide +kernel) ⟨Nat.le_of_ble_eq_true rfl, Nat.le_of_ble_eq_true rfl⟩) ⟨fun a U g mk q => by obtain ⟨q0, q1, qP, qK, qD⟩ := q; exact ⟨q0, q1, qP, va_K.moved (u := U) (U := U.calling g mk a) (Vm.Alike.refl U.vm) qK, qD⟩, va_recv hK hP (ci := 15) (q0 := 0) rfl rfl, fun U hU hW => ⟨rfl, by rw [hU], by rw [hU]; exact hPc, va_K.moved hW.alike hKc, hDc.weaken (fun _ _ _ _ => trivial)⟩⟩ rfl rfl hl.1 rfl (lv_room (Nat.le_of_ble_eq_true rfl)) dL_law_2324 ⟨Nat.le_of_ble_eq_true rfl, Nat.le_of_ble_eq_true rfl⟩) hS (fun q _ h => hFc q h) hFc (fun r369 u t H1 locs ht hvm hw hB hz1 hk1 hS => ?_)
      obtain ⟨s370, rfl⟩ : ∃ z, z = u := ⟨_, rfl⟩
      obtain ⟨hP1, hK1, hD1⟩ := hB
      rw [ht] at hP1
      try dsimp only at hw
      obtain ⟨hP, hD⟩ := va_join (wr := [(qO, .inl (kO, 1, .inr (.inl f108)))]) (w1 := [(aZ, .inr (15, s370)), (q_things, .inl (k_things, 5, .inl f_things))]) hP hD [0, 1] [2] rfl rfl (by decide) (by decide) hk1 hFc hP1 hD1
      have hK := hK.sub (tys' := [(kO, .long), (k_things, .int)]) [1, 0] rfl
      generalize H1 = H at hP hS ⊢
      have hP : va_P (dC, dI) vwCl [(qO, .inl (kO, 1, .inr (.inl f108))), (aZ, .inr (15, s370)), (q_things, .inl (k_things, 5, .inl f_things))] H := hP
      have hD : va_D A [(qO, .inl (kO, 1, .inr (.inl f108))), (aZ, .inr (15, s370)), (q_things, .inl (k_things, 5, .inl f_things))] := hD
      rcases hw with ⟨c371, er372, o_s370⟩ | ⟨c373, c374, er375, o_s370⟩ | ⟨c376, c377, c378, er379, o_s370⟩ | ⟨c380, c381, c382, c383, er384, o_s370⟩ | ⟨c385, c386, c387, c388, c389, er390, o_s370⟩ | ⟨c391, c392, c393, c394, c395, c396, c397, c398, er399, o_s370⟩ | ⟨c400, c401, c402, c403, c404, c405, c406, c407, er408, o_s370⟩ | ⟨c409, c410, c411, c412, c413, c414, c415, c416, er417, o_s370⟩ | ⟨c418, c419, c420, c421, c422, c423, er424, o_s370⟩
      · exact (by exfalso; (try simp only [i_lt, i_le, i_eq, kc_0, kc_4] at c118 c119 c371); omega)
      · exact (by exfalso; (try simp only [i_lt, i_le, i_eq, kc_0, kc_4] at c118 c119 c373 c374); omega)
      · exact (by exfalso; (try simp only [i_lt, i_le, i_eq, kc_0, kc_4] at c120 c121 c378); omega)
      · skip
        subst er384
        have o_s370 := ow_on o_fsZ o_s370 (l' := [(0, .int 1), (48, .ref q_things), (75, .int 0), (48, .ref q_things), (75, .int 0)]) (w' := [0]) rfl rfl
        refine lv_istore (lv' := [(6, .int 0), (5, .int 1), (0, .ref b), (1, .ref aX), (2, .ref aZ), (3, .ref qO), (4, .int 0)]) hx hb dL_law_2327 hl (by decide) rfl (fun ls hl => ?_)
        refine lv_aload_n hx hb dL_law_2329 rfl (lv_at hl 4 rfl) ?_
        have hPc := hP.sub (ws' := [(aZ, .inr (15, s370))]) [1] rfl
        have hDc := hD.sub (ws' := [(aZ, .inr (15, s370))]) [1] (by decide) rfl
        have hKc := hK.sub (tys' := []) [] rfl
        have hFc := va_free (wc := [(aZ, .inr (15, s370))]) hD hS hA [1] rfl
        refine va_calli (va_runV (As := []) (rest := []) ⟨hx, hb, hml, hown, hts⟩ (z_X12_thrown l dC dI H.size aZ s370 (fh_sub o_s370.2 [0] rfl) ) (cwV 0 hts g_lk_35_z_X12_thrown_149 rfl rfl rfl (by decide +kernel) ⟨Nat.le_of_ble_eq_true rfl, Nat.le_of_ble_eq_true rfl⟩) ⟨fun a U g mk q => by obtain ⟨q0, q1, qP, qK, qD⟩ := q; exact ⟨q0, q1, qP, va_K.moved (u := U) (U := U.calling g mk a) (Vm.Alike.refl U.vm) qK, qD⟩, va_recv hK hP (ci := 15) (q0 := 1) rfl rfl, fun U hU hW => ⟨rfl, by rw [hU], by rw [hU]; exact hPc, va_K.moved hW.alike hKc, hDc.weaken (fun _ _ _ _ => trivial)⟩⟩ rfl rfl hl.1 rfl (lv_room (Nat.le_of_ble_eq_true rfl)) dL_law_2330 ⟨Nat.le_of_ble_eq_true rfl, Nat.le_of_ble_eq_true rfl⟩) hS (fun q _ h => hFc q h) hFc (fun r425 u t H1 locs ht hvm hw hB hz1 hk1 hS => ?_)
        obtain ⟨hP1, hK1, hD1⟩ := hB
        rw [ht] at hP1
        try dsimp only at hw
        obtain ⟨hP, hD⟩ := va_join (wr := [(qO, .inl (kO, 1, .inr (.inl f108))), (q_things, .inl (k_things, 5, .inl f_things))]) (w1 := [(aZ, .inr (15, s370))]) hP hD [1] [0, 2] rfl rfl (by decide) (by decide) hk1 hFc hP1 hD1
        have hK := hK.sub (tys' := [(kO, .long), (k_things, .int)]) [0, 1] rfl
        generalize H1 = H at hP hS ⊢
        have hP : va_P (dC, dI) vwCl [(qO, .inl (kO, 1, .inr (.inl f108))), (q_things, .inl (k_things, 5, .inl f_things)), (aZ, .inr (15, s370))] H := hP
        have hD : va_D A [(qO, .inl (kO, 1, .inr (.inl f108))), (q_things, .inl (k_things, 5, .inl f_things)), (aZ, .inr (15, s370))] := hD
        have er426 := hw
        subst er426
        refine lv_iload hx hb dL_law_2333 (lv_at hl 1 rfl) ?_
        refine lv_icmp_eq (tgt := 2340) hx hb dL_law_2335 (by decide) (fun c427 => ?_) (fun c427 => absurd c427 (by decide))
        refine lv_iload hx hb dL_law_2340 (lv_at hl 1 rfl) ?_
        refine lv_if_ne (tgt := 2357) hx hb dL_law_2342 (by decide) (fun c428 => ?_) (fun c428 => absurd c428 (by decide))
        refine lv_goto (tgt := 3111) hx hb dL_law_2357 (by decide) ?_
        exact lw_end hst C0 hA hAf hZ hY (Nat.le_of_ble_eq_true rfl) (Nat.le_of_ble_eq_true rfl) dC dI P0k P0 D0 hS ls (lv_sub hl [2, 6] rfl)
      · exact (by exfalso; (try simp only [i_lt, i_le, i_eq, kc_0, kc_4] at c120 c121 c387 c388); omega)
      · exact (by exfalso; (try simp only [i_lt, i_le, i_eq, kc_0, kc_4] at c120 c121 c393 c394); omega)
      · exact (by exfalso; (try simp only [i_lt, i_le, i_eq, kc_0, kc_4] at c120 c121 c402 c403); omega)
      · exact (by exfalso; (try simp only [i_lt, i_le, i_eq, kc_0, kc_4] at c120 c121 c411 c412); omega)
      · exact (by exfalso; (try simp only [i_lt, i_le, i_eq, kc_0, kc_4] at c120 c121 c420 c421); omega)
    · skip
      subst er128
      refine lv_istore (lv' := [(5, .int 1), (0, .ref b), (1, .ref aX), (2, .ref aZ), (3, .ref qO), (4, .int 0)]) hx hb dL_law_2303 hl (by decide) rfl (fun ls hl => ?_)
      refine lv_aload_n hx hb dL_law_2305 rfl (lv_at hl 3 rfl) ?_
      refine lv_aload_n hx hb dL_law_2306 rfl (lv_at hl 1 rfl) ?_
      refine lv_iload hx hb dL_law_2307 (lv_at hl 5 rfl) ?_
      refine lv_iconst (v := 1) hx hb dL_law_2309 (by decide) ?_
      refine lv_iadd hx hb dL_law_2310  ?_
      refine lv_topi (fun x429 ex429 => ?_)
      obtain rfl : x429 = 1 := ex429.trans (by decide)
      refine va_sld hx hb hX hbl hbA hS (show vp_in 1 6 from by unfold vp_in; decide) dL_law_2311 ?_
      refine lv_topi (fun x430 ex430 => ?_)
      obtain rfl : w1 = x430 := hw1.trans ex430.symm
      refine lv_aload_n hx hb dL_law_2312 rfl (lv_at hl 1 rfl) ?_
      refine lv_iload hx hb dL_law_2313 (lv_at hl 5 rfl) ?_
      refine lv_iconst (v := 2) hx hb dL_law_2315 (by decide) ?_
      refine lv_iadd hx hb dL_law_2316  ?_
      refine lv_topi (fun x431 ex431 => ?_)
      obtain rfl : x431 = 2 := ex431.trans (by decide)
      refine va_sld hx hb hX hbl hbA hS (show vp_in 2 6 from by unfold vp_in; decide) dL_law_2317 ?_
      refine lv_topi (fun x432 ex432 => ?_)
      obtain rfl : w2 = x432 := hw2.trans ex432.symm
      refine lv_aload_n hx hb dL_law_2318 rfl (lv_at hl 1 rfl) ?_
      refine lv_iload hx hb dL_law_2319 (lv_at hl 5 rfl) ?_
      refine lv_iconst (v := 3) hx hb dL_law_2321 (by decide) ?_
      refine lv_iadd hx hb dL_law_2322  ?_
      refine lv_topi (fun x433 ex433 => ?_)
      obtain rfl : x433 = 3 := ex433.trans (by decide)
      refine va_sld hx hb hX hbl hbA hS (show vp_in 3 6 from by unfold vp_in; decide) dL_law_2323 ?_
      refine lv_topi (fun x434 ex434 => ?_)
      obtain rfl : w3 = x434 := hw3.trans ex434.symm
      have hPc := hP.sub (ws' := [(aZ, .inr (15, fsZ)), (q_things, .inl (k_things, 5, .inl f_things))]) [0, 1] rfl
      have hDc := hD.sub (ws' := [(aZ, .inr (15, fsZ)), (q_things, .inl (k_things, 5, .inl f_things))]) [0, 1] (by decide) rfl
      have hKc := hK.sub (tys' := [(k_things, .int)]) [0] rfl
      have hFc := va_free (wc := [(aZ, .inr (15, fsZ)), (q_things, .inl (k_things, 5, .inl f_things))]) hD hS hA [0, 1] rfl
      refine va_calli (va_runV (As := [.int w1, .int w2, .int w3]) (rest := []) ⟨hx, hb, hml, hown, hts⟩ (z_X12_growth l dC dI H.size aZ fsZ q_things f_things k_things w1 w2 w3 (fh_sub o_fsZ.2 [0, 1, 2] rfl) hz_f_things) (cwV 3 hts g_lk_35_z_X12_growth_263 rfl rfl rfl (by decide +kernel) ⟨Nat.le_of_ble_eq_true rfl, Nat.le_of_ble_eq_true rfl⟩) ⟨fun a U g mk q => by obtain ⟨q0, q1, qP, qK, qD⟩ := q; exact ⟨q0, q1, qP, va_K.moved (u := U) (U := U.calling g mk a) (Vm.Alike.refl U.vm) qK, qD⟩, va_recv hK hP (ci := 15) (q0 := 0) rfl rfl, fun U hU hW => ⟨rfl, by rw [hU], by rw [hU]; exact hPc, va_K.moved hW.alike hKc, hDc.weaken (fun _ _ _ _ => trivial)⟩⟩ rfl rfl hl.1 rfl (lv_room (Nat.le_of_ble_eq_true rfl)) dL_law_2324 ⟨Nat.le_of_ble_eq_true rfl, Nat.le_of_ble_eq_true rfl⟩) hS (fun q _ h => hFc q h) hFc (fun r435 u t H1 locs ht hvm hw hB hz1 hk1 hS => ?_)
      obtain ⟨s436, rfl⟩ : ∃ z, z = u := ⟨_, rfl⟩
      obtain ⟨hP1, hK1, hD1⟩ := hB
      rw [ht] at hP1
      try dsimp only at hw
      obtain ⟨hP, hD⟩ := va_join (wr := [(qO, .inl (kO, 1, .inr (.inl f108)))]) (w1 := [(aZ, .inr (15, s436)), (q_things, .inl (k_things, 5, .inl f_things))]) hP hD [0, 1] [2] rfl rfl (by decide) (by decide) hk1 hFc hP1 hD1
      have hK := hK.sub (tys' := [(kO, .long), (k_things, .int)]) [1, 0] rfl
      generalize H1 = H at hP hS ⊢
      have hP : va_P (dC, dI) vwCl [(qO, .inl (kO, 1, .inr (.inl f108))), (aZ, .inr (15, s436)), (q_things, .inl (k_things, 5, .inl f_things))] H := hP
      have hD : va_D A [(qO, .inl (kO, 1, .inr (.inl f108))), (aZ, .inr (15, s436)), (q_things, .inl (k_things, 5, .inl f_things))] := hD
      rcases hw with ⟨c437, er438, o_s436⟩ | ⟨c439, c440, er441, o_s436⟩ | ⟨c442, c443, c444, er445, o_s436⟩ | ⟨c446, c447, c448, c449, er450, o_s436⟩ | ⟨c451, c452, c453, c454, c455, er456, o_s436⟩ | ⟨c457, c458, c459, c460, c461, c462, c463, c464, er465, o_s436⟩ | ⟨c466, c467, c468, c469, c470, c471, c472, c473, er474, o_s436⟩ | ⟨c475, c476, c477, c478, c479, c480, c481, c482, er483, o_s436⟩ | ⟨c484, c485, c486, c487, c488, c489, er490, o_s436⟩
      · exact (by exfalso; (try simp only [i_lt, i_le, i_eq, kc_0, kc_4] at c123 c124 c437); omega)
      · exact (by exfalso; (try simp only [i_lt, i_le, i_eq, kc_0, kc_4] at c123 c124 c439 c440); omega)
      · exact (by exfalso; (try simp only [i_lt, i_le, i_eq, kc_0, kc_4] at c125 c126 c444); omega)
      · exact (by exfalso; (try simp only [i_lt, i_le, i_eq, kc_0, kc_4] at c125 c126 c448 c449); omega)
      · skip
        subst er456
        have o_s436 := ow_on o_fsZ o_s436 (l' := [(0, .int 1), (48, .ref q_things), (75, .int 0), (48, .ref q_things), (75, .int 0)]) (w' := [0]) rfl rfl
        refine lv_istore (lv' := [(6, .int 0), (5, .int 1), (0, .ref b), (1, .ref aX), (2, .ref aZ), (3, .ref qO), (4, .int 0)]) hx hb dL_law_2327 hl (by decide) rfl (fun ls hl => ?_)
        refine lv_aload_n hx hb dL_law_2329 rfl (lv_at hl 4 rfl) ?_
        have hPc := hP.sub (ws' := [(aZ, .inr (15, s436))]) [1] rfl
        have hDc := hD.sub (ws' := [(aZ, .inr (15, s436))]) [1] (by decide) rfl
        have hKc := hK.sub (tys' := []) [] rfl
        have hFc := va_free (wc := [(aZ, .inr (15, s436))]) hD hS hA [1] rfl
        refine va_calli (va_runV (As := []) (rest := []) ⟨hx, hb, hml, hown, hts⟩ (z_X12_thrown l dC dI H.size aZ s436 (fh_sub o_s436.2 [0] rfl) ) (cwV 0 hts g_lk_35_z_X12_thrown_149 rfl rfl rfl (by decide +kernel) ⟨Nat.le_of_ble_eq_true rfl, Nat.le_of_ble_eq_true rfl⟩) ⟨fun a U g mk q => by obtain ⟨q0, q1, qP, qK, qD⟩ := q; exact ⟨q0, q1, qP, va_K.moved (u := U) (U := U.calling g mk a) (Vm.Alike.refl U.vm) qK, qD⟩, va_recv hK hP (ci := 15) (q0 := 1) rfl rfl, fun U hU hW => ⟨rfl, by rw [hU], by rw [hU]; exact hPc, va_K.moved hW.alike hKc, hDc.weaken (fun _ _ _ _ => trivial)⟩⟩ rfl rfl hl.1 rfl (lv_room (Nat.le_of_ble_eq_true rfl)) dL_law_2330 ⟨Nat.le_of_ble_eq_true rfl, Nat.le_of_ble_eq_true rfl⟩) hS (fun q _ h => hFc q h) hFc (fun r491 u t H1 locs ht hvm hw hB hz1 hk1 hS => ?_)
        obtain ⟨hP1, hK1, hD1⟩ := hB
        rw [ht] at hP1
        try dsimp only at hw
        obtain ⟨hP, hD⟩ := va_join (wr := [(qO, .inl (kO, 1, .inr (.inl f108))), (q_things, .inl (k_things, 5, .inl f_things))]) (w1 := [(aZ, .inr (15, s436))]) hP hD [1] [0, 2] rfl rfl (by decide) (by decide) hk1 hFc hP1 hD1
        have hK := hK.sub (tys' := [(kO, .long), (k_things, .int)]) [0, 1] rfl
        generalize H1 = H at hP hS ⊢
        have hP : va_P (dC, dI) vwCl [(qO, .inl (kO, 1, .inr (.inl f108))), (q_things, .inl (k_things, 5, .inl f_things)), (aZ, .inr (15, s436))] H := hP
        have hD : va_D A [(qO, .inl (kO, 1, .inr (.inl f108))), (q_things, .inl (k_things, 5, .inl f_things)), (aZ, .inr (15, s436))] := hD
        have er492 := hw
        subst er492
        refine lv_iload hx hb dL_law_2333 (lv_at hl 1 rfl) ?_
        refine lv_icmp_eq (tgt := 2340) hx hb dL_law_2335 (by decide) (fun c493 => ?_) (fun c493 => absurd c493 (by decide))
        refine lv_iload hx hb dL_law_2340 (lv_at hl 1 rfl) ?_
        refine lv_if_ne (tgt := 2357) hx hb dL_law_2342 (by decide) (fun c494 => ?_) (fun c494 => absurd c494 (by decide))
        refine lv_goto (tgt := 3111) hx hb dL_law_2357 (by decide) ?_
        exact lw_end hst C0 hA hAf hZ hY (Nat.le_of_ble_eq_true rfl) (Nat.le_of_ble_eq_true rfl) dC dI P0k P0 D0 hS ls (lv_sub hl [2, 6] rfl)
      · exact (by exfalso; (try simp only [i_lt, i_le, i_eq, kc_0, kc_2, kc_1] at c127 c461 c462 c463 c464); omega)
      · exact (by exfalso; (try simp only [i_lt, i_le, i_eq, kc_0, kc_2, kc_1] at c127 c470 c471 c472 c473); omega)
      · exact (by exfalso; (try simp only [i_lt, i_le, i_eq, kc_0, kc_2, kc_1] at c127 c479 c480 c481 c482); omega)
      · exact (by exfalso; (try simp only [i_lt, i_le, i_eq, kc_0, kc_2] at c127 c488 c489); omega)
    · skip
      subst er135
      refine lv_istore (lv' := [(5, .int 1), (0, .ref b), (1, .ref aX), (2, .ref aZ), (3, .ref qO), (4, .int 0)]) hx hb dL_law_2303 hl (by decide) rfl (fun ls hl => ?_)
      refine lv_aload_n hx hb dL_law_2305 rfl (lv_at hl 3 rfl) ?_
      refine lv_aload_n hx hb dL_law_2306 rfl (lv_at hl 1 rfl) ?_
      refine lv_iload hx hb dL_law_2307 (lv_at hl 5 rfl) ?_
      refine lv_iconst (v := 1) hx hb dL_law_2309 (by decide) ?_
      refine lv_iadd hx hb dL_law_2310  ?_
      refine lv_topi (fun x495 ex495 => ?_)
      obtain rfl : x495 = 1 := ex495.trans (by decide)
      refine va_sld hx hb hX hbl hbA hS (show vp_in 1 6 from by unfold vp_in; decide) dL_law_2311 ?_
      refine lv_topi (fun x496 ex496 => ?_)
      obtain rfl : w1 = x496 := hw1.trans ex496.symm
      refine lv_aload_n hx hb dL_law_2312 rfl (lv_at hl 1 rfl) ?_
      refine lv_iload hx hb dL_law_2313 (lv_at hl 5 rfl) ?_
      refine lv_iconst (v := 2) hx hb dL_law_2315 (by decide) ?_
      refine lv_iadd hx hb dL_law_2316  ?_
      refine lv_topi (fun x497 ex497 => ?_)
      obtain rfl : x497 = 2 := ex497.trans (by decide)
      refine va_sld hx hb hX hbl hbA hS (show vp_in 2 6 from by unfold vp_in; decide) dL_law_2317 ?_
      refine lv_topi (fun x498 ex498 => ?_)
      obtain rfl : w2 = x498 := hw2.trans ex498.symm
      refine lv_aload_n hx hb dL_law_2318 rfl (lv_at hl 1 rfl) ?_
      refine lv_iload hx hb dL_law_2319 (lv_at hl 5 rfl) ?_
      refine lv_iconst (v := 3) hx hb dL_law_2321 (by decide) ?_
      refine lv_iadd hx hb dL_law_2322  ?_
      refine lv_topi (fun x499 ex499 => ?_)
      obtain rfl : x499 = 3 := ex499.trans (by decide)
      refine va_sld hx hb hX hbl hbA hS (show vp_in 3 6 from by unfold vp_in; decide) dL_law_2323 ?_
      refine lv_topi (fun x500 ex500 => ?_)
      obtain rfl : w3 = x500 := hw3.trans ex500.symm
      have hPc := hP.sub (ws' := [(aZ, .inr (15, fsZ)), (q_things, .inl (k_things, 5, .inl f_things))]) [0, 1] rfl
      have hDc := hD.sub (ws' := [(aZ, .inr (15, fsZ)), (q_things, .inl (k_things, 5, .inl f_things))]) [0, 1] (by decide) rfl
      have hKc := hK.sub (tys' := [(k_things, .int)]) [0] rfl
      have hFc := va_free (wc := [(aZ, .inr (15, fsZ)), (q_things, .inl (k_things, 5, .inl f_things))]) hD hS hA [0, 1] rfl
      refine va_calli (va_runV (As := [.int w1, .int w2, .int w3]) (rest := []) ⟨hx, hb, hml, hown, hts⟩ (z_X12_growth l dC dI H.size aZ fsZ q_things f_things k_things w1 w2 w3 (fh_sub o_fsZ.2 [0, 1, 2] rfl) hz_f_things) (cwV 3 hts g_lk_35_z_X12_growth_263 rfl rfl rfl (by decide +kernel) ⟨Nat.le_of_ble_eq_true rfl, Nat.le_of_ble_eq_true rfl⟩) ⟨fun a U g mk q => by obtain ⟨q0, q1, qP, qK, qD⟩ := q; exact ⟨q0, q1, qP, va_K.moved (u := U) (U := U.calling g mk a) (Vm.Alike.refl U.vm) qK, qD⟩, va_recv hK hP (ci := 15) (q0 := 0) rfl rfl, fun U hU hW => ⟨rfl, by rw [hU], by rw [hU]; exact hPc, va_K.moved hW.alike hKc, hDc.weaken (fun _ _ _ _ => trivial)⟩⟩ rfl rfl hl.1 rfl (lv_room (Nat.le_of_ble_eq_true rfl)) dL_law_2324 ⟨Nat.le_of_ble_eq_true rfl, Nat.le_of_ble_eq_true rfl⟩) hS (fun q _ h => hFc q h) hFc (fun r501 u t H1 locs ht hvm hw hB hz1 hk1 hS => ?_)
      obtain ⟨s502, rfl⟩ : ∃ z, z = u := ⟨_, rfl⟩
      obtain ⟨hP1, hK1, hD1⟩ := hB
      rw [ht] at hP1
      try dsimp only at hw
      obtain ⟨hP, hD⟩ := va_join (wr := [(qO, .inl (kO, 1, .inr (.inl f108)))]) (w1 := [(aZ, .inr (15, s502)), (q_things, .inl (k_things, 5, .inl f_things))]) hP hD [0, 1] [2] rfl rfl (by decide) (by decide) hk1 hFc hP1 hD1
      have hK := hK.sub (tys' := [(kO, .long), (k_things, .int)]) [1, 0] rfl
      generalize H1 = H at hP hS ⊢
      have hP : va_P (dC, dI) vwCl [(qO, .inl (kO, 1, .inr (.inl f108))), (aZ, .inr (15, s502)), (q_things, .inl (k_things, 5, .inl f_things))] H := hP
      have hD : va_D A [(qO, .inl (kO, 1, .inr (.inl f108))), (aZ, .inr (15, s502)), (q_things, .inl (k_things, 5, .inl f_things))] := hD
      rcases hw with ⟨c503, er504, o_s502⟩ | ⟨c505, c506, er507, o_s502⟩ | ⟨c508, c509, c510, er511, o_s502⟩ | ⟨c512, c513, c514, c515, er516, o_s502⟩ | ⟨c517, c518, c519, c520, c521, er522, o_s502⟩ | ⟨c523, c524, c525, c526, c527, c528, c529, c530, er531, o_s502⟩ | ⟨c532, c533, c534, c535, c536, c537, c538, c539, er540, o_s502⟩ | ⟨c541, c542, c543, c544, c545, c546, c547, c548, er549, o_s502⟩ | ⟨c550, c551, c552, c553, c554, c555, er556, o_s502⟩
      · exact (by exfalso; (try simp only [i_lt, i_le, i_eq, kc_0, kc_4] at c129 c130 c503); omega)
      · exact (by exfalso; (try simp only [i_lt, i_le, i_eq, kc_0, kc_4] at c129 c130 c505 c506); omega)
      · exact (by exfalso; (try simp only [i_lt, i_le, i_eq, kc_0, kc_4] at c131 c132 c510); omega)
      · exact (by exfalso; (try simp only [i_lt, i_le, i_eq, kc_0, kc_4] at c131 c132 c514 c515); omega)
      · exact (by exfalso; (try simp only [i_lt, i_le, i_eq, kc_0, kc_2] at c133 c134 c521); omega)
      · exact (by exfalso; (try simp only [i_lt, i_le, i_eq, kc_0, kc_2, kc_1] at c133 c134 c527 c528 c529 c530); omega)
      · exact (by exfalso; (try simp only [i_lt, i_le, i_eq, kc_0, kc_2, kc_1] at c133 c134 c536 c537 c538 c539); omega)
      · exact (by exfalso; (try simp only [i_lt, i_le, i_eq, kc_0, kc_2, kc_1] at c133 c134 c545 c546 c547 c548); omega)
      · skip
        subst er556
        have o_s502 := ow_on o_fsZ o_s502 (l' := [(0, .int 1), (48, .ref q_things), (75, .int 0), (48, .ref q_things), (75, .int 0)]) (w' := [0]) rfl rfl
        refine lv_istore (lv' := [(6, .int 0), (5, .int 1), (0, .ref b), (1, .ref aX), (2, .ref aZ), (3, .ref qO), (4, .int 0)]) hx hb dL_law_2327 hl (by decide) rfl (fun ls hl => ?_)
        refine lv_aload_n hx hb dL_law_2329 rfl (lv_at hl 4 rfl) ?_
        have hPc := hP.sub (ws' := [(aZ, .inr (15, s502))]) [1] rfl
        have hDc := hD.sub (ws' := [(aZ, .inr (15, s502))]) [1] (by decide) rfl
        have hKc := hK.sub (tys' := []) [] rfl
        have hFc := va_free (wc := [(aZ, .inr (15, s502))]) hD hS hA [1] rfl
        refine va_calli (va_runV (As := []) (rest := []) ⟨hx, hb, hml, hown, hts⟩ (z_X12_thrown l dC dI H.size aZ s502 (fh_sub o_s502.2 [0] rfl) ) (cwV 0 hts g_lk_35_z_X12_thrown_149 rfl rfl rfl (by decide +kernel) ⟨Nat.le_of_ble_eq_true rfl, Nat.le_of_ble_eq_true rfl⟩) ⟨fun a U g mk q => by obtain ⟨q0, q1, qP, qK, qD⟩ := q; exact ⟨q0, q1, qP, va_K.moved (u := U) (U := U.calling g mk a) (Vm.Alike.refl U.vm) qK, qD⟩, va_recv hK hP (ci := 15) (q0 := 1) rfl rfl, fun U hU hW => ⟨rfl, by rw [hU], by rw [hU]; exact hPc, va_K.moved hW.alike hKc, hDc.weaken (fun _ _ _ _ => trivial)⟩⟩ rfl rfl hl.1 rfl (lv_room (Nat.le_of_ble_eq_true rfl)) dL_law_2330 ⟨Nat.le_of_ble_eq_true rfl, Nat.le_of_ble_eq_true rfl⟩) hS (fun q _ h => hFc q h) hFc (fun r557 u t H1 locs ht hvm hw hB hz1 hk1 hS => ?_)
        obtain ⟨hP1, hK1, hD1⟩ := hB
        rw [ht] at hP1
        try dsimp only at hw
        obtain ⟨hP, hD⟩ := va_join (wr := [(qO, .inl (kO, 1, .inr (.inl f108))), (q_things, .inl (k_things, 5, .inl f_things))]) (w1 := [(aZ, .inr (15, s502))]) hP hD [1] [0, 2] rfl rfl (by decide) (by decide) hk1 hFc hP1 hD1
        have hK := hK.sub (tys' := [(kO, .long), (k_things, .int)]) [0, 1] rfl
        generalize H1 = H at hP hS ⊢
        have hP : va_P (dC, dI) vwCl [(qO, .inl (kO, 1, .inr (.inl f108))), (q_things, .inl (k_things, 5, .inl f_things)), (aZ, .inr (15, s502))] H := hP
        have hD : va_D A [(qO, .inl (kO, 1, .inr (.inl f108))), (q_things, .inl (k_things, 5, .inl f_things)), (aZ, .inr (15, s502))] := hD
        have er558 := hw
        subst er558
        refine lv_iload hx hb dL_law_2333 (lv_at hl 1 rfl) ?_
        refine lv_icmp_eq (tgt := 2340) hx hb dL_law_2335 (by decide) (fun c559 => ?_) (fun c559 => absurd c559 (by decide))
        refine lv_iload hx hb dL_law_2340 (lv_at hl 1 rfl) ?_
        refine lv_if_ne (tgt := 2357) hx hb dL_law_2342 (by decide) (fun c560 => ?_) (fun c560 => absurd c560 (by decide))
        refine lv_goto (tgt := 3111) hx hb dL_law_2357 (by decide) ?_
        exact lw_end hst C0 hA hAf hZ hY (Nat.le_of_ble_eq_true rfl) (Nat.le_of_ble_eq_true rfl) dC dI P0k P0 D0 hS ls (lv_sub hl [2, 6] rfl)
    · skip
      subst er144
      refine lv_istore (lv' := [(5, .int 0), (0, .ref b), (1, .ref aX), (2, .ref aZ), (3, .ref qO), (4, .int 0)]) hx hb dL_law_2303 hl (by decide) rfl (fun ls hl => ?_)
      refine lv_aload_n hx hb dL_law_2305 rfl (lv_at hl 3 rfl) ?_
      refine lv_aload_n hx hb dL_law_2306 rfl (lv_at hl 1 rfl) ?_
      refine lv_iload hx hb dL_law_2307 (lv_at hl 5 rfl) ?_
      refine lv_iconst (v := 1) hx hb dL_law_2309 (by decide) ?_
      refine lv_iadd hx hb dL_law_2310  ?_
      refine lv_topi (fun x561 ex561 => ?_)
      obtain rfl : x561 = 1 := ex561.trans (by decide)
      refine va_sld hx hb hX hbl hbA hS (show vp_in 1 6 from by unfold vp_in; decide) dL_law_2311 ?_
      refine lv_topi (fun x562 ex562 => ?_)
      obtain rfl : w1 = x562 := hw1.trans ex562.symm
      refine lv_aload_n hx hb dL_law_2312 rfl (lv_at hl 1 rfl) ?_
      refine lv_iload hx hb dL_law_2313 (lv_at hl 5 rfl) ?_
      refine lv_iconst (v := 2) hx hb dL_law_2315 (by decide) ?_
      refine lv_iadd hx hb dL_law_2316  ?_
      refine lv_topi (fun x563 ex563 => ?_)
      obtain rfl : x563 = 2 := ex563.trans (by decide)
      refine va_sld hx hb hX hbl hbA hS (show vp_in 2 6 from by unfold vp_in; decide) dL_law_2317 ?_
      refine lv_topi (fun x564 ex564 => ?_)
      obtain rfl : w2 = x564 := hw2.trans ex564.symm
      refine lv_aload_n hx hb dL_law_2318 rfl (lv_at hl 1 rfl) ?_
      refine lv_iload hx hb dL_law_2319 (lv_at hl 5 rfl) ?_
      refine lv_iconst (v := 3) hx hb dL_law_2321 (by decide) ?_
      refine lv_iadd hx hb dL_law_2322  ?_
      refine lv_topi (fun x565 ex565 => ?_)
      obtain rfl : x565 = 3 := ex565.trans (by decide)
      refine va_sld hx hb hX hbl hbA hS (show vp_in 3 6 from by unfold vp_in; decide) dL_law_2323 ?_
      refine lv_topi (fun x566 ex566 => ?_)
      obtain rfl : w3 = x566 := hw3.trans ex566.symm
      have hPc := hP.sub (ws' := [(aZ, .inr (15, fsZ)), (q_things, .inl (k_things, 5, .inl f_things))]) [0, 1] rfl
      have hDc := hD.sub (ws' := [(aZ, .inr (15, fsZ)), (q_things, .inl (k_things, 5, .inl f_things))]) [0, 1] (by decide) rfl
      have hKc := hK.sub (tys' := [(k_things, .int)]) [0] rfl
      have hFc := va_free (wc := [(aZ, .inr (15, fsZ)), (q_things, .inl (k_things, 5, .inl f_things))]) hD hS hA [0, 1] rfl
      refine va_calli (va_runV (As := [.int w1, .int w2, .int w3]) (rest := []) ⟨hx, hb, hml, hown, hts⟩ (z_X12_growth l dC dI H.size aZ fsZ q_things f_things k_things w1 w2 w3 (fh_sub o_fsZ.2 [0, 1, 2] rfl) hz_f_things) (cwV 3 hts g_lk_35_z_X12_growth_263 rfl rfl rfl (by decide +kernel) ⟨Nat.le_of_ble_eq_true rfl, Nat.le_of_ble_eq_true rfl⟩) ⟨fun a U g mk q => by obtain ⟨q0, q1, qP, qK, qD⟩ := q; exact ⟨q0, q1, qP, va_K.moved (u := U) (U := U.calling g mk a) (Vm.Alike.refl U.vm) qK, qD⟩, va_recv hK hP (ci := 15) (q0 := 0) rfl rfl, fun U hU hW => ⟨rfl, by rw [hU], by rw [hU]; exact hPc, va_K.moved hW.alike hKc, hDc.weaken (fun _ _ _ _ => trivial)⟩⟩ rfl rfl hl.1 rfl (lv_room (Nat.le_of_ble_eq_true rfl)) dL_law_2324 ⟨Nat.le_of_ble_eq_true rfl, Nat.le_of_ble_eq_true rfl⟩) hS (fun q _ h => hFc q h) hFc (fun r567 u t H1 locs ht hvm hw hB hz1 hk1 hS => ?_)
      obtain ⟨s568, rfl⟩ : ∃ z, z = u := ⟨_, rfl⟩
      obtain ⟨hP1, hK1, hD1⟩ := hB
      rw [ht] at hP1
      try dsimp only at hw
      obtain ⟨hP, hD⟩ := va_join (wr := [(qO, .inl (kO, 1, .inr (.inl f108)))]) (w1 := [(aZ, .inr (15, s568)), (q_things, .inl (k_things, 5, .inl f_things))]) hP hD [0, 1] [2] rfl rfl (by decide) (by decide) hk1 hFc hP1 hD1
      have hK := hK.sub (tys' := [(kO, .long), (k_things, .int)]) [1, 0] rfl
      generalize H1 = H at hP hS ⊢
      have hP : va_P (dC, dI) vwCl [(qO, .inl (kO, 1, .inr (.inl f108))), (aZ, .inr (15, s568)), (q_things, .inl (k_things, 5, .inl f_things))] H := hP
      have hD : va_D A [(qO, .inl (kO, 1, .inr (.inl f108))), (aZ, .inr (15, s568)), (q_things, .inl (k_things, 5, .inl f_things))] := hD
      rcases hw with ⟨c569, er570, o_s568⟩ | ⟨c571, c572, er573, o_s568⟩ | ⟨c574, c575, c576, er577, o_s568⟩ | ⟨c578, c579, c580, c581, er582, o_s568⟩ | ⟨c583, c584, c585, c586, c587, er588, o_s568⟩ | ⟨c589, c590, c591, c592, c593, c594, c595, c596, er597, o_s568⟩ | ⟨c598, c599, c600, c601, c602, c603, c604, c605, er606, o_s568⟩ | ⟨c607, c608, c609, c610, c611, c612, c613, c614, er615, o_s568⟩ | ⟨c616, c617, c618, c619, c620, c621, er622, o_s568⟩
      · exact (by exfalso; (try simp only [i_lt, i_le, i_eq, kc_0, kc_4] at c136 c137 c569); omega)
      · exact (by exfalso; (try simp only [i_lt, i_le, i_eq, kc_0, kc_4] at c136 c137 c571 c572); omega)
      · exact (by exfalso; (try simp only [i_lt, i_le, i_eq, kc_0, kc_4] at c138 c139 c576); omega)
      · exact (by exfalso; (try simp only [i_lt, i_le, i_eq, kc_0, kc_4] at c138 c139 c580 c581); omega)
      · exact (by exfalso; (try simp only [i_lt, i_le, i_eq, kc_0, kc_2, kc_1] at c140 c141 c142 c143 c587); omega)
      · skip
        subst er597
        have o_s568 := ow_on o_fsZ o_s568 (l' := [(75, .int 0), (0, .int 0), (48, .ref q_things), (48, .ref q_things)]) (w' := [75, 0]) rfl rfl
        refine lv_istore (lv' := [(6, .int 0), (5, .int 0), (0, .ref b), (1, .ref aX), (2, .ref aZ), (3, .ref qO), (4, .int 0)]) hx hb dL_law_2327 hl (by decide) rfl (fun ls hl => ?_)
        refine lv_aload_n hx hb dL_law_2329 rfl (lv_at hl 4 rfl) ?_
        have hPc := hP.sub (ws' := [(aZ, .inr (15, s568))]) [1] rfl
        have hDc := hD.sub (ws' := [(aZ, .inr (15, s568))]) [1] (by decide) rfl
        have hKc := hK.sub (tys' := []) [] rfl
        have hFc := va_free (wc := [(aZ, .inr (15, s568))]) hD hS hA [1] rfl
        refine va_calli (va_runV (As := []) (rest := []) ⟨hx, hb, hml, hown, hts⟩ (z_X12_thrown_2 l dC dI H.size aZ s568 (fh_sub o_s568.2 [1] rfl) ) (cwV 0 hts g_lk_35_z_X12_thrown_2_149 rfl rfl rfl (by decide +kernel) ⟨Nat.le_of_ble_eq_true rfl, Nat.le_of_ble_eq_true rfl⟩) ⟨fun a U g mk q => by obtain ⟨q0, q1, qP, qK, qD⟩ := q; exact ⟨q0, q1, qP, va_K.moved (u := U) (U := U.calling g mk a) (Vm.Alike.refl U.vm) qK, qD⟩, va_recv hK hP (ci := 15) (q0 := 1) rfl rfl, fun U hU hW => ⟨rfl, by rw [hU], by rw [hU]; exact hPc, va_K.moved hW.alike hKc, hDc.weaken (fun _ _ _ _ => trivial)⟩⟩ rfl rfl hl.1 rfl (lv_room (Nat.le_of_ble_eq_true rfl)) dL_law_2330 ⟨Nat.le_of_ble_eq_true rfl, Nat.le_of_ble_eq_true rfl⟩) hS (fun q _ h => hFc q h) hFc (fun r623 u t H1 locs ht hvm hw hB hz1 hk1 hS => ?_)
        obtain ⟨hP1, hK1, hD1⟩ := hB
        rw [ht] at hP1
        try dsimp only at hw
        obtain ⟨hP, hD⟩ := va_join (wr := [(qO, .inl (kO, 1, .inr (.inl f108))), (q_things, .inl (k_things, 5, .inl f_things))]) (w1 := [(aZ, .inr (15, s568))]) hP hD [1] [0, 2] rfl rfl (by decide) (by decide) hk1 hFc hP1 hD1
        have hK := hK.sub (tys' := [(kO, .long), (k_things, .int)]) [0, 1] rfl
        generalize H1 = H at hP hS ⊢
        have hP : va_P (dC, dI) vwCl [(qO, .inl (kO, 1, .inr (.inl f108))), (q_things, .inl (k_things, 5, .inl f_things)), (aZ, .inr (15, s568))] H := hP
        have hD : va_D A [(qO, .inl (kO, 1, .inr (.inl f108))), (q_things, .inl (k_things, 5, .inl f_things)), (aZ, .inr (15, s568))] := hD
        have er624 := hw
        subst er624
        refine lv_iload hx hb dL_law_2333 (lv_at hl 1 rfl) ?_
        refine lv_icmp_eq (tgt := 2340) hx hb dL_law_2335 (by decide) (fun c625 => ?_) (fun c625 => absurd c625 (by decide))
        refine lv_iload hx hb dL_law_2340 (lv_at hl 1 rfl) ?_
        refine lv_if_ne (tgt := 2357) hx hb dL_law_2342 (by decide) (fun c626 => absurd c626 (by decide)) (fun c626 => ?_)
        refine lv_aload_n hx hb dL_law_2345 rfl (lv_at hl 5 rfl) ?_
        refine lv_iconst (v := 0) hx hb dL_law_2346 (by decide) ?_
        refine va_lald hx hb hK hP 0 0 rfl rfl (show vp_in 0 1 from by unfold vp_in; decide) dL_law_2347 ?_
        refine lv_topl (fun x627 ex627 => ?_)
        obtain rfl : 0 = x627 := (ex627.trans q145).symm
        refine lv_iload hx hb dL_law_2348 (lv_at hl 0 rfl) ?_
        refine lv_i2l hx hb dL_law_2350 rfl ?_
        refine lv_topl (fun x628 ex628 => ?_)
        obtain rfl : x628 = 0 := ex628.trans (by decide)
        refine W.lcmp hx hb dL_law_2351  ?_
        refine lv_topi (fun x629 ex629 => ?_)
        obtain rfl : x629 = 0 := ex629.trans (by decide)
        refine lv_if_eq (tgt := 2357) hx hb dL_law_2352 (by decide) (fun c630 => ?_) (fun c630 => absurd c630 (by decide))
        refine lv_goto (tgt := 3111) hx hb dL_law_2357 (by decide) ?_
        exact lw_end hst C0 hA hAf hZ hY (Nat.le_of_ble_eq_true rfl) (Nat.le_of_ble_eq_true rfl) dC dI P0k P0 D0 hS ls (lv_sub hl [2, 6] rfl)
      · exact (by exfalso; (try simp only [i_lt, i_le, i_eq, kc_0, kc_2, kc_1] at c140 c141 c142 c143 c602 c603 c604 c605); omega)
      · exact (by exfalso; (try simp only [i_lt, i_le, i_eq, kc_0, kc_2, kc_1] at c140 c141 c142 c143 c611 c612 c613 c614); omega)
      · exact (by exfalso; (try simp only [i_lt, i_le, i_eq, kc_0, kc_2, kc_1] at c140 c141 c142 c143 c620 c621); omega)
    · skip
      subst er154
      refine lv_istore (lv' := [(5, .int 0), (0, .ref b), (1, .ref aX), (2, .ref aZ), (3, .ref qO), (4, .int 0)]) hx hb dL_law_2303 hl (by decide) rfl (fun ls hl => ?_)
      refine lv_aload_n hx hb dL_law_2305 rfl (lv_at hl 3 rfl) ?_
      refine lv_aload_n hx hb dL_law_2306 rfl (lv_at hl 1 rfl) ?_
      refine lv_iload hx hb dL_law_2307 (lv_at hl 5 rfl) ?_
      refine lv_iconst (v := 1) hx hb dL_law_2309 (by decide) ?_
      refine lv_iadd hx hb dL_law_2310  ?_
      refine lv_topi (fun x631 ex631 => ?_)
      obtain rfl : x631 = 1 := ex631.trans (by decide)
      refine va_sld hx hb hX hbl hbA hS (show vp_in 1 6 from by unfold vp_in; decide) dL_law_2311 ?_
      refine lv_topi (fun x632 ex632 => ?_)
      obtain rfl : w1 = x632 := hw1.trans ex632.symm
      refine lv_aload_n hx hb dL_law_2312 rfl (lv_at hl 1 rfl) ?_
      refine lv_iload hx hb dL_law_2313 (lv_at hl 5 rfl) ?_
      refine lv_iconst (v := 2) hx hb dL_law_2315 (by decide) ?_
      refine lv_iadd hx hb dL_law_2316  ?_
      refine lv_topi (fun x633 ex633 => ?_)
      obtain rfl : x633 = 2 := ex633.trans (by decide)
      refine va_sld hx hb hX hbl hbA hS (show vp_in 2 6 from by unfold vp_in; decide) dL_law_2317 ?_
      refine lv_topi (fun x634 ex634 => ?_)
      obtain rfl : w2 = x634 := hw2.trans ex634.symm
      refine lv_aload_n hx hb dL_law_2318 rfl (lv_at hl 1 rfl) ?_
      refine lv_iload hx hb dL_law_2319 (lv_at hl 5 rfl) ?_
      refine lv_iconst (v := 3) hx hb dL_law_2321 (by decide) ?_
      refine lv_iadd hx hb dL_law_2322  ?_
      refine lv_topi (fun x635 ex635 => ?_)
      obtain rfl : x635 = 3 := ex635.trans (by decide)
      refine va_sld hx hb hX hbl hbA hS (show vp_in 3 6 from by unfold vp_in; decide) dL_law_2323 ?_
      refine lv_topi (fun x636 ex636 => ?_)
      obtain rfl : w3 = x636 := hw3.trans ex636.symm
      have hPc := hP.sub (ws' := [(aZ, .inr (15, fsZ)), (q_things, .inl (k_things, 5, .inl f_things))]) [0, 1] rfl
      have hDc := hD.sub (ws' := [(aZ, .inr (15, fsZ)), (q_things, .inl (k_things, 5, .inl f_things))]) [0, 1] (by decide) rfl
      have hKc := hK.sub (tys' := [(k_things, .int)]) [0] rfl
      have hFc := va_free (wc := [(aZ, .inr (15, fsZ)), (q_things, .inl (k_things, 5, .inl f_things))]) hD hS hA [0, 1] rfl
      refine va_calli (va_runV (As := [.int w1, .int w2, .int w3]) (rest := []) ⟨hx, hb, hml, hown, hts⟩ (z_X12_growth l dC dI H.size aZ fsZ q_things f_things k_things w1 w2 w3 (fh_sub o_fsZ.2 [0, 1, 2] rfl) hz_f_things) (cwV 3 hts g_lk_35_z_X12_growth_263 rfl rfl rfl (by decide +kernel) ⟨Nat.le_of_ble_eq_true rfl, Nat.le_of_ble_eq_true rfl⟩) ⟨fun a U g mk q => by obtain ⟨q0, q1, qP, qK, qD⟩ := q; exact ⟨q0, q1, qP, va_K.moved (u := U) (U := U.calling g mk a) (Vm.Alike.refl U.vm) qK, qD⟩, va_recv hK hP (ci := 15) (q0 := 0) rfl rfl, fun U hU hW => ⟨rfl, by rw [hU], by rw [hU]; exact hPc, va_K.moved hW.alike hKc, hDc.weaken (fun _ _ _ _ => trivial)⟩⟩ rfl rfl hl.1 rfl (lv_room (Nat.le_of_ble_eq_true rfl)) dL_law_2324 ⟨Nat.le_of_ble_eq_true rfl, Nat.le_of_ble_eq_true rfl⟩) hS (fun q _ h => hFc q h) hFc (fun r637 u t H1 locs ht hvm hw hB hz1 hk1 hS => ?_)
      obtain ⟨s638, rfl⟩ : ∃ z, z = u := ⟨_, rfl⟩
      obtain ⟨hP1, hK1, hD1⟩ := hB
      rw [ht] at hP1
      try dsimp only at hw
      obtain ⟨hP, hD⟩ := va_join (wr := [(qO, .inl (kO, 1, .inr (.inl f108)))]) (w1 := [(aZ, .inr (15, s638)), (q_things, .inl (k_things, 5, .inl f_things))]) hP hD [0, 1] [2] rfl rfl (by decide) (by decide) hk1 hFc hP1 hD1
      have hK := hK.sub (tys' := [(kO, .long), (k_things, .int)]) [1, 0] rfl
      generalize H1 = H at hP hS ⊢
      have hP : va_P (dC, dI) vwCl [(qO, .inl (kO, 1, .inr (.inl f108))), (aZ, .inr (15, s638)), (q_things, .inl (k_things, 5, .inl f_things))] H := hP
      have hD : va_D A [(qO, .inl (kO, 1, .inr (.inl f108))), (aZ, .inr (15, s638)), (q_things, .inl (k_things, 5, .inl f_things))] := hD
      rcases hw with ⟨c639, er640, o_s638⟩ | ⟨c641, c642, er643, o_s638⟩ | ⟨c644, c645, c646, er647, o_s638⟩ | ⟨c648, c649, c650, c651, er652, o_s638⟩ | ⟨c653, c654, c655, c656, c657, er658, o_s638⟩ | ⟨c659, c660, c661, c662, c663, c664, c665, c666, er667, o_s638⟩ | ⟨c668, c669, c670, c671, c672, c673, c674, c675, er676, o_s638⟩ | ⟨c677, c678, c679, c680, c681, c682, c683, c684, er685, o_s638⟩ | ⟨c686, c687, c688, c689, c690, c691, er692, o_s638⟩
      · exact (by exfalso; (try simp only [i_lt, i_le, i_eq, kc_0, kc_4] at c146 c147 c639); omega)
      · exact (by exfalso; (try simp only [i_lt, i_le, i_eq, kc_0, kc_4] at c146 c147 c641 c642); omega)
      · exact (by exfalso; (try simp only [i_lt, i_le, i_eq, kc_0, kc_4] at c148 c149 c646); omega)
      · exact (by exfalso; (try simp only [i_lt, i_le, i_eq, kc_0, kc_4] at c148 c149 c650 c651); omega)
      · exact (by exfalso; (try simp only [i_lt, i_le, i_eq, kc_0, kc_2, kc_1] at c150 c151 c152 c153 c657); omega)
      · exact (by exfalso; (try simp only [i_lt, i_le, i_eq, kc_0, kc_2, kc_1] at c150 c151 c152 c153 c663 c664 c665 c666); omega)
      · exact (by exfalso; (try simp only [i_lt, i_le, i_eq, kc_0, kc_2, kc_1] at c150 c151 c152 c153 c672 c673 c674 c675); omega)
      · skip
        subst er685
        have o_s638 := ow_on o_fsZ o_s638 (l' := [(75, .int 0), (0, .int 0), (48, .ref q_things), (48, .ref q_things)]) (w' := [75, 0]) rfl rfl
        refine lv_istore (lv' := [(6, .int 0), (5, .int 0), (0, .ref b), (1, .ref aX), (2, .ref aZ), (3, .ref qO), (4, .int 0)]) hx hb dL_law_2327 hl (by decide) rfl (fun ls hl => ?_)
        refine lv_aload_n hx hb dL_law_2329 rfl (lv_at hl 4 rfl) ?_
        have hPc := hP.sub (ws' := [(aZ, .inr (15, s638))]) [1] rfl
        have hDc := hD.sub (ws' := [(aZ, .inr (15, s638))]) [1] (by decide) rfl
        have hKc := hK.sub (tys' := []) [] rfl
        have hFc := va_free (wc := [(aZ, .inr (15, s638))]) hD hS hA [1] rfl
        refine va_calli (va_runV (As := []) (rest := []) ⟨hx, hb, hml, hown, hts⟩ (z_X12_thrown_2 l dC dI H.size aZ s638 (fh_sub o_s638.2 [1] rfl) ) (cwV 0 hts g_lk_35_z_X12_thrown_2_149 rfl rfl rfl (by decide +kernel) ⟨Nat.le_of_ble_eq_true rfl, Nat.le_of_ble_eq_true rfl⟩) ⟨fun a U g mk q => by obtain ⟨q0, q1, qP, qK, qD⟩ := q; exact ⟨q0, q1, qP, va_K.moved (u := U) (U := U.calling g mk a) (Vm.Alike.refl U.vm) qK, qD⟩, va_recv hK hP (ci := 15) (q0 := 1) rfl rfl, fun U hU hW => ⟨rfl, by rw [hU], by rw [hU]; exact hPc, va_K.moved hW.alike hKc, hDc.weaken (fun _ _ _ _ => trivial)⟩⟩ rfl rfl hl.1 rfl (lv_room (Nat.le_of_ble_eq_true rfl)) dL_law_2330 ⟨Nat.le_of_ble_eq_true rfl, Nat.le_of_ble_eq_true rfl⟩) hS (fun q _ h => hFc q h) hFc (fun r693 u t H1 locs ht hvm hw hB hz1 hk1 hS => ?_)
        obtain ⟨hP1, hK1, hD1⟩ := hB
        rw [ht] at hP1
        try dsimp only at hw
        obtain ⟨hP, hD⟩ := va_join (wr := [(qO, .inl (kO, 1, .inr (.inl f108))), (q_things, .inl (k_things, 5, .inl f_things))]) (w1 := [(aZ, .inr (15, s638))]) hP hD [1] [0, 2] rfl rfl (by decide) (by decide) hk1 hFc hP1 hD1
        have hK := hK.sub (tys' := [(kO, .long), (k_things, .int)]) [0, 1] rfl
        generalize H1 = H at hP hS ⊢
        have hP : va_P (dC, dI) vwCl [(qO, .inl (kO, 1, .inr (.inl f108))), (q_things, .inl (k_things, 5, .inl f_things)), (aZ, .inr (15, s638))] H := hP
        have hD : va_D A [(qO, .inl (kO, 1, .inr (.inl f108))), (q_things, .inl (k_things, 5, .inl f_things)), (aZ, .inr (15, s638))] := hD
        have er694 := hw
        subst er694
        refine lv_iload hx hb dL_law_2333 (lv_at hl 1 rfl) ?_
        refine lv_icmp_eq (tgt := 2340) hx hb dL_law_2335 (by decide) (fun c695 => ?_) (fun c695 => absurd c695 (by decide))
        refine lv_iload hx hb dL_law_2340 (lv_at hl 1 rfl) ?_
        refine lv_if_ne (tgt := 2357) hx hb dL_law_2342 (by decide) (fun c696 => absurd c696 (by decide)) (fun c696 => ?_)
        refine lv_aload_n hx hb dL_law_2345 rfl (lv_at hl 5 rfl) ?_
        refine lv_iconst (v := 0) hx hb dL_law_2346 (by decide) ?_
        refine va_lald hx hb hK hP 0 0 rfl rfl (show vp_in 0 1 from by unfold vp_in; decide) dL_law_2347 ?_
        refine lv_topl (fun x697 ex697 => ?_)
        obtain rfl : 0 = x697 := (ex697.trans q155).symm
        refine lv_iload hx hb dL_law_2348 (lv_at hl 0 rfl) ?_
        refine lv_i2l hx hb dL_law_2350 rfl ?_
        refine lv_topl (fun x698 ex698 => ?_)
        obtain rfl : x698 = 0 := ex698.trans (by decide)
        refine W.lcmp hx hb dL_law_2351  ?_
        refine lv_topi (fun x699 ex699 => ?_)
        obtain rfl : x699 = 0 := ex699.trans (by decide)
        refine lv_if_eq (tgt := 2357) hx hb dL_law_2352 (by decide) (fun c700 => ?_) (fun c700 => absurd c700 (by decide))
        refine lv_goto (tgt := 3111) hx hb dL_law_2357 (by decide) ?_
        exact lw_end hst C0 hA hAf hZ hY (Nat.le_of_ble_eq_true rfl) (Nat.le_of_ble_eq_true rfl) dC dI P0k P0 D0 hS ls (lv_sub hl [2, 6] rfl)
      · exact (by exfalso; (try simp only [i_lt, i_le, i_eq, kc_0, kc_2, kc_1] at c150 c151 c152 c153 c690 c691); omega)
    · skip
      subst er163
      refine lv_istore (lv' := [(5, .int 0), (0, .ref b), (1, .ref aX), (2, .ref aZ), (3, .ref qO), (4, .int 0)]) hx hb dL_law_2303 hl (by decide) rfl (fun ls hl => ?_)
      refine lv_aload_n hx hb dL_law_2305 rfl (lv_at hl 3 rfl) ?_
      refine lv_aload_n hx hb dL_law_2306 rfl (lv_at hl 1 rfl) ?_
      refine lv_iload hx hb dL_law_2307 (lv_at hl 5 rfl) ?_
      refine lv_iconst (v := 1) hx hb dL_law_2309 (by decide) ?_
      refine lv_iadd hx hb dL_law_2310  ?_
      refine lv_topi (fun x701 ex701 => ?_)
      obtain rfl : x701 = 1 := ex701.trans (by decide)
      refine va_sld hx hb hX hbl hbA hS (show vp_in 1 6 from by unfold vp_in; decide) dL_law_2311 ?_
      refine lv_topi (fun x702 ex702 => ?_)
      obtain rfl : w1 = x702 := hw1.trans ex702.symm
      refine lv_aload_n hx hb dL_law_2312 rfl (lv_at hl 1 rfl) ?_
      refine lv_iload hx hb dL_law_2313 (lv_at hl 5 rfl) ?_
      refine lv_iconst (v := 2) hx hb dL_law_2315 (by decide) ?_
      refine lv_iadd hx hb dL_law_2316  ?_
      refine lv_topi (fun x703 ex703 => ?_)
      obtain rfl : x703 = 2 := ex703.trans (by decide)
      refine va_sld hx hb hX hbl hbA hS (show vp_in 2 6 from by unfold vp_in; decide) dL_law_2317 ?_
      refine lv_topi (fun x704 ex704 => ?_)
      obtain rfl : w2 = x704 := hw2.trans ex704.symm
      refine lv_aload_n hx hb dL_law_2318 rfl (lv_at hl 1 rfl) ?_
      refine lv_iload hx hb dL_law_2319 (lv_at hl 5 rfl) ?_
      refine lv_iconst (v := 3) hx hb dL_law_2321 (by decide) ?_
      refine lv_iadd hx hb dL_law_2322  ?_
      refine lv_topi (fun x705 ex705 => ?_)
      obtain rfl : x705 = 3 := ex705.trans (by decide)
      refine va_sld hx hb hX hbl hbA hS (show vp_in 3 6 from by unfold vp_in; decide) dL_law_2323 ?_
      refine lv_topi (fun x706 ex706 => ?_)
      obtain rfl : w3 = x706 := hw3.trans ex706.symm
      have hPc := hP.sub (ws' := [(aZ, .inr (15, fsZ)), (q_things, .inl (k_things, 5, .inl f_things))]) [0, 1] rfl
      have hDc := hD.sub (ws' := [(aZ, .inr (15, fsZ)), (q_things, .inl (k_things, 5, .inl f_things))]) [0, 1] (by decide) rfl
      have hKc := hK.sub (tys' := [(k_things, .int)]) [0] rfl
      have hFc := va_free (wc := [(aZ, .inr (15, fsZ)), (q_things, .inl (k_things, 5, .inl f_things))]) hD hS hA [0, 1] rfl
      refine va_calli (va_runV (As := [.int w1, .int w2, .int w3]) (rest := []) ⟨hx, hb, hml, hown, hts⟩ (z_X12_growth l dC dI H.size aZ fsZ q_things f_things k_things w1 w2 w3 (fh_sub o_fsZ.2 [0, 1, 2] rfl) hz_f_things) (cwV 3 hts g_lk_35_z_X12_growth_263 rfl rfl rfl (by decide +kernel) ⟨Nat.le_of_ble_eq_true rfl, Nat.le_of_ble_eq_true rfl⟩) ⟨fun a U g mk q => by obtain ⟨q0, q1, qP, qK, qD⟩ := q; exact ⟨q0, q1, qP, va_K.moved (u := U) (U := U.calling g mk a) (Vm.Alike.refl U.vm) qK, qD⟩, va_recv hK hP (ci := 15) (q0 := 0) rfl rfl, fun U hU hW => ⟨rfl, by rw [hU], by rw [hU]; exact hPc, va_K.moved hW.alike hKc, hDc.weaken (fun _ _ _ _ => trivial)⟩⟩ rfl rfl hl.1 rfl (lv_room (Nat.le_of_ble_eq_true rfl)) dL_law_2324 ⟨Nat.le_of_ble_eq_true rfl, Nat.le_of_ble_eq_true rfl⟩) hS (fun q _ h => hFc q h) hFc (fun r707 u t H1 locs ht hvm hw hB hz1 hk1 hS => ?_)
      obtain ⟨s708, rfl⟩ : ∃ z, z = u := ⟨_, rfl⟩
      obtain ⟨hP1, hK1, hD1⟩ := hB
      rw [ht] at hP1
      try dsimp only at hw
      obtain ⟨hP, hD⟩ := va_join (wr := [(qO, .inl (kO, 1, .inr (.inl f108)))]) (w1 := [(aZ, .inr (15, s708)), (q_things, .inl (k_things, 5, .inl f_things))]) hP hD [0, 1] [2] rfl rfl (by decide) (by decide) hk1 hFc hP1 hD1
      have hK := hK.sub (tys' := [(kO, .long), (k_things, .int)]) [1, 0] rfl
      generalize H1 = H at hP hS ⊢
      have hP : va_P (dC, dI) vwCl [(qO, .inl (kO, 1, .inr (.inl f108))), (aZ, .inr (15, s708)), (q_things, .inl (k_things, 5, .inl f_things))] H := hP
      have hD : va_D A [(qO, .inl (kO, 1, .inr (.inl f108))), (aZ, .inr (15, s708)), (q_things, .inl (k_things, 5, .inl f_things))] := hD
      rcases hw with ⟨c709, er710, o_s708⟩ | ⟨c711, c712, er713, o_s708⟩ | ⟨c714, c715, c716, er717, o_s708⟩ | ⟨c718, c719, c720, c721, er722, o_s708⟩ | ⟨c723, c724, c725, c726, c727, er728, o_s708⟩ | ⟨c729, c730, c731, c732, c733, c734, c735, c736, er737, o_s708⟩ | ⟨c738, c739, c740, c741, c742, c743, c744, c745, er746, o_s708⟩ | ⟨c747, c748, c749, c750, c751, c752, c753, c754, er755, o_s708⟩ | ⟨c756, c757, c758, c759, c760, c761, er762, o_s708⟩
      · exact (by exfalso; (try simp only [i_lt, i_le, i_eq, kc_0, kc_4] at c156 c157 c709); omega)
      · exact (by exfalso; (try simp only [i_lt, i_le, i_eq, kc_0, kc_4] at c156 c157 c711 c712); omega)
      · exact (by exfalso; (try simp only [i_lt, i_le, i_eq, kc_0, kc_4] at c158 c159 c716); omega)
      · exact (by exfalso; (try simp only [i_lt, i_le, i_eq, kc_0, kc_4] at c158 c159 c720 c721); omega)
      · exact (by exfalso; (try simp only [i_lt, i_le, i_eq, kc_0, kc_2] at c160 c161 c162 c727); omega)
      · skip
        subst er737
        have o_s708 := ow_on o_fsZ o_s708 (l' := [(75, .int 0), (0, .int 0), (48, .ref q_things), (48, .ref q_things)]) (w' := [75, 0]) rfl rfl
        refine lv_istore (lv' := [(6, .int 0), (5, .int 0), (0, .ref b), (1, .ref aX), (2, .ref aZ), (3, .ref qO), (4, .int 0)]) hx hb dL_law_2327 hl (by decide) rfl (fun ls hl => ?_)
        refine lv_aload_n hx hb dL_law_2329 rfl (lv_at hl 4 rfl) ?_
        have hPc := hP.sub (ws' := [(aZ, .inr (15, s708))]) [1] rfl
        have hDc := hD.sub (ws' := [(aZ, .inr (15, s708))]) [1] (by decide) rfl
        have hKc := hK.sub (tys' := []) [] rfl
        have hFc := va_free (wc := [(aZ, .inr (15, s708))]) hD hS hA [1] rfl
        refine va_calli (va_runV (As := []) (rest := []) ⟨hx, hb, hml, hown, hts⟩ (z_X12_thrown_2 l dC dI H.size aZ s708 (fh_sub o_s708.2 [1] rfl) ) (cwV 0 hts g_lk_35_z_X12_thrown_2_149 rfl rfl rfl (by decide +kernel) ⟨Nat.le_of_ble_eq_true rfl, Nat.le_of_ble_eq_true rfl⟩) ⟨fun a U g mk q => by obtain ⟨q0, q1, qP, qK, qD⟩ := q; exact ⟨q0, q1, qP, va_K.moved (u := U) (U := U.calling g mk a) (Vm.Alike.refl U.vm) qK, qD⟩, va_recv hK hP (ci := 15) (q0 := 1) rfl rfl, fun U hU hW => ⟨rfl, by rw [hU], by rw [hU]; exact hPc, va_K.moved hW.alike hKc, hDc.weaken (fun _ _ _ _ => trivial)⟩⟩ rfl rfl hl.1 rfl (lv_room (Nat.le_of_ble_eq_true rfl)) dL_law_2330 ⟨Nat.le_of_ble_eq_true rfl, Nat.le_of_ble_eq_true rfl⟩) hS (fun q _ h => hFc q h) hFc (fun r763 u t H1 locs ht hvm hw hB hz1 hk1 hS => ?_)
        obtain ⟨hP1, hK1, hD1⟩ := hB
        rw [ht] at hP1
        try dsimp only at hw
        obtain ⟨hP, hD⟩ := va_join (wr := [(qO, .inl (kO, 1, .inr (.inl f108))), (q_things, .inl (k_things, 5, .inl f_things))]) (w1 := [(aZ, .inr (15, s708))]) hP hD [1] [0, 2] rfl rfl (by decide) (by decide) hk1 hFc hP1 hD1
        have hK := hK.sub (tys' := [(kO, .long), (k_things, .int)]) [0, 1] rfl
        generalize H1 = H at hP hS ⊢
        have hP : va_P (dC, dI) vwCl [(qO, .inl (kO, 1, .inr (.inl f108))), (q_things, .inl (k_things, 5, .inl f_things)), (aZ, .inr (15, s708))] H := hP
        have hD : va_D A [(qO, .inl (kO, 1, .inr (.inl f108))), (q_things, .inl (k_things, 5, .inl f_things)), (aZ, .inr (15, s708))] := hD
        have er764 := hw
        subst er764
        refine lv_iload hx hb dL_law_2333 (lv_at hl 1 rfl) ?_
        refine lv_icmp_eq (tgt := 2340) hx hb dL_law_2335 (by decide) (fun c765 => ?_) (fun c765 => absurd c765 (by decide))
        refine lv_iload hx hb dL_law_2340 (lv_at hl 1 rfl) ?_
        refine lv_if_ne (tgt := 2357) hx hb dL_law_2342 (by decide) (fun c766 => absurd c766 (by decide)) (fun c766 => ?_)
        refine lv_aload_n hx hb dL_law_2345 rfl (lv_at hl 5 rfl) ?_
        refine lv_iconst (v := 0) hx hb dL_law_2346 (by decide) ?_
        refine va_lald hx hb hK hP 0 0 rfl rfl (show vp_in 0 1 from by unfold vp_in; decide) dL_law_2347 ?_
        refine lv_topl (fun x767 ex767 => ?_)
        obtain rfl : 0 = x767 := (ex767.trans q164).symm
        refine lv_iload hx hb dL_law_2348 (lv_at hl 0 rfl) ?_
        refine lv_i2l hx hb dL_law_2350 rfl ?_
        refine lv_topl (fun x768 ex768 => ?_)
        obtain rfl : x768 = 0 := ex768.trans (by decide)
        refine W.lcmp hx hb dL_law_2351  ?_
        refine lv_topi (fun x769 ex769 => ?_)
        obtain rfl : x769 = 0 := ex769.trans (by decide)
        refine lv_if_eq (tgt := 2357) hx hb dL_law_2352 (by decide) (fun c770 => ?_) (fun c770 => absurd c770 (by decide))
        refine lv_goto (tgt := 3111) hx hb dL_law_2357 (by decide) ?_
        exact lw_end hst C0 hA hAf hZ hY (Nat.le_of_ble_eq_true rfl) (Nat.le_of_ble_eq_true rfl) dC dI P0k P0 D0 hS ls (lv_sub hl [2, 6] rfl)
      · exact (by exfalso; (try simp only [i_lt, i_le, i_eq, kc_0, kc_2, kc_1] at c160 c161 c162 c742 c743 c744 c745); omega)
      · exact (by exfalso; (try simp only [i_lt, i_le, i_eq, kc_0, kc_2, kc_1] at c160 c161 c162 c751 c752 c753 c754); omega)
      · exact (by exfalso; (try simp only [i_lt, i_le, i_eq, kc_0, kc_2] at c160 c161 c162 c760 c761); omega)

set_option maxRecDepth 20000 in
theorem g_lk_35b_z_L_growth_1_261 : GoodIn lwW (va_wsS RL 261 yL_growth w_z_L_growth_1) := goodIn_app (goodIn_sub (ws := ([.methodLink RL 261 yL_growth, .static yL_growth, .initialized RL] : List Cond)) (gm_c (gm_at lwV_72_in 3 rfl) (gm_c (gm_at lwV_72_in 4 rfl) (gm_c (gm_at lwV_5_in 10 rfl) gm_nil))) (by decide +kernel)) (goodIn_ca (goodIn_sub (ws := .codeWith yL_growth cL_growth 6 (some .int) [(0, 12, 15, 13)] :: l_z_L_growth_1) (gm_c (gm_at lwV_72_in 8 rfl) (gm_c (gm_at lwV_72_in 9 rfl) (gm_c (gm_at lwV_72_in 10 rfl) (gm_c (gm_at lwV_72_in 11 rfl) (gm_c (gm_at lwV_0_in 3 rfl) (gm_c (gm_at lwV_6_in 9 rfl) (gm_c (gm_at lwV_73_in 0 rfl) (gm_c (gm_at lwV_54_in 10 rfl) (gm_c (gm_at lwV_54_in 11 rfl) (gm_c (gm_at lwV_7_in 0 rfl) (gm_c (gm_at lwV_7_in 1 rfl) (gm_c (gm_at lwV_55_in 0 rfl) (gm_c (gm_at lwV_73_in 1 rfl) (gm_c (gm_at lwV_73_in 2 rfl) (gm_c (gm_at lwV_73_in 3 rfl) (gm_c (gm_at lwV_73_in 4 rfl) (gm_c (gm_at lwV_55_in 4 rfl) (gm_c (gm_at lwV_73_in 5 rfl) (gm_c (gm_at lwV_73_in 6 rfl) (gm_c (gm_at lwV_73_in 7 rfl) (gm_c (gm_at lwV_73_in 8 rfl) (gm_c (gm_at lwV_55_in 6 rfl) (gm_c (gm_at lwV_55_in 7 rfl) (gm_c (gm_at lwV_55_in 8 rfl) (gm_c (gm_at lwV_55_in 9 rfl) (gm_c (gm_at lwV_73_in 9 rfl) (gm_c (gm_at lwV_56_in 5 rfl) (gm_c (gm_at lwV_73_in 10 rfl) gm_nil)))))))))))))))))))))))))))) (by decide +kernel)) (goodIn_app (goodIn_in il_at0_X11_122 gd_at0_X11_122) (goodIn_app (goodIn_in il_X11 gd_X11) (goodIn_in il_X5 gd_X5))))
set_option maxRecDepth 20000 in
theorem g_lk_35b_z_X12_growth_263 : GoodIn lwW (wsV RL 263 RX12 yX12_growth w_z_X12_growth) := goodIn_app (goodIn_sub (ws := ([.methodLink RL 263 yX12_growth, .instanceMethod yX12_growth, .selects RX12 yX12_growth yX12_growth, .initialized RX12] : List Cond)) (gm_c (gm_at lwV_72_in 5 rfl) (gm_c (gm_at lwV_72_in 6 rfl) (gm_c (gm_at lwV_72_in 7 rfl) (gm_c (gm_at lwV_0_in 7 rfl) gm_nil)))) (by decide +kernel)) (goodIn_ca (goodIn_sub (ws := .code yX12_growth cX12_growth 8 (some .int) :: l_z_X12_growth) (gm_c (gm_at lwV_73_in 11 rfl) (gm_c (gm_at lwV_57_in 0 rfl) (gm_c (gm_at lwV_57_in 1 rfl) (gm_c (gm_at lwV_57_in 2 rfl) (gm_c (gm_at lwV_0_in 7 rfl) (gm_c (gm_at lwV_1_in 5 rfl) (gm_c (gm_at lwV_74_in 0 rfl) (gm_c (gm_at lwV_57_in 9 rfl) (gm_c (gm_at lwV_57_in 10 rfl) gm_nil))))))))) (by decide +kernel)) (goodIn_in il_X12 gd_X12))
set_option maxRecDepth 20000 in
theorem g_lk_35b_z_X12_thrown_149 : GoodIn lwW (wsV RL 149 RX12 yX12_thrown w_z_X12_thrown) := goodIn_app (goodIn_sub (ws := ([.methodLink RL 149 yX12_thrown, .instanceMethod yX12_thrown, .selects RX12 yX12_thrown yX12_thrown, .initialized RX12] : List Cond)) (gm_c (gm_at lwV_6_in 2 rfl) (gm_c (gm_at lwV_6_in 3 rfl) (gm_c (gm_at lwV_6_in 4 rfl) (gm_c (gm_at lwV_0_in 7 rfl) gm_nil)))) (by decide +kernel)) (goodIn_ca (goodIn_sub (ws := .code yX12_thrown cX12_thrown 1 (some .int) :: l_z_X12_thrown) (gm_c (gm_at lwV_9_in 9 rfl) (gm_c (gm_at lwV_1_in 5 rfl) gm_nil)) (by decide +kernel)) (goodIn_in il_X12 gd_X12))
set_option maxRecDepth 20000 in
theorem g_lk_35b_z_X12_thrown_2_149 : GoodIn lwW (wsV RL 149 RX12 yX12_thrown w_z_X12_thrown_2) := goodIn_app (goodIn_sub (ws := ([.methodLink RL 149 yX12_thrown, .instanceMethod yX12_thrown, .selects RX12 yX12_thrown yX12_thrown, .initialized RX12] : List Cond)) (gm_c (gm_at lwV_6_in 2 rfl) (gm_c (gm_at lwV_6_in 3 rfl) (gm_c (gm_at lwV_6_in 4 rfl) (gm_c (gm_at lwV_0_in 7 rfl) gm_nil)))) (by decide +kernel)) (goodIn_ca (goodIn_sub (ws := .code yX12_thrown cX12_thrown 1 (some .int) :: l_z_X12_thrown_2) (gm_c (gm_at lwV_9_in 9 rfl) (gm_c (gm_at lwV_1_in 5 rfl) gm_nil)) (by decide +kernel)) (goodIn_in il_X12 gd_X12))
set_option maxHeartbeats 4000000 in
set_option maxRecDepth 100000 in
/-- the law, one call: growth -/
theorem lk_35b {p : Program} {l : Launch} {e : Env} {s : State} {m : MethodId} {below : List Frame} {meth : Method} {c : Code} {b : Nat} {xs : Nat → Int32} (hst : l.stackTraces = false) (C0 : lw_At p s m meth c b 6 xs) {A : Nat → Prop} (hA : ∀ q : Nat, s.heap.size ≤ q → A q) (hAf : ∀ q : Nat, A q → s.heap.size ≤ q) (hZ : Zz A s) (hY : Yy s) (dC : Nat → ClassId) (dI : Nat → Nat → Nat) (aX : Nat) (fsX : List Value) (qP : Nat) (gP : Nat → Option Nat) (kP : ClassId) (ap : Nat) (fsp : List Value) (aZ : Nat) (fsZ : List Value) (q_things : Nat) (f_things : Nat → Int32) (k_things : ClassId) (qO : Nat) (fO : Nat → Int64) (kO : ClassId) (qW : Nat) (w1 : Int32) (hw1 : w1 = xs (1 : Int32).toNatClampNeg) (w2 : Int32) (hw2 : w2 = xs (2 : Int32).toNatClampNeg) (w3 : Int32) (hw3 : w3 = xs (3 : Int32).toNatClampNeg) (w4 : Int32) (hw4 : w4 = xs (4 : Int32).toNatClampNeg) (w5 : Int32) (hw5 : w5 = xs (5 : Int32).toNatClampNeg) (k_fsX : fh fsX 18 [(4, .ref qP), (15, .int 0), (14, .ref qW)]) (k_fsp : fh fsp 21 [(0, .int 0)]) (k_fsZ : fh fsZ 150 [(0, .int 0), (48, .ref q_things), (75, .int 0)]) (hg1 : gP w2.toNatClampNeg = some ap) (hg : gP w1.toNatClampNeg = some ap) (hz_f_things : ∀ j, f_things j = 0) {H : Heap} {locs : List Loc} (hK : va_K (dC, dI) vwCl [(kP, .object "HeapWorks$Picture"), (k_things, .int), (kO, .long)] s) (hP : va_P (dC, dI) vwCl [(aX, .inr (14, fsX)), (qP, .inl (kP, 4, .inr (.inr (.inr (.inr gP))))), (ap, .inr (8, fsp)), (aZ, .inr (15, fsZ)), (q_things, .inl (k_things, 5, .inl f_things)), (qO, .inl (kO, 1, .inr (.inl fO)))] H) (hD : va_D A [(aX, .inr (14, fsX)), (qP, .inl (kP, 4, .inr (.inr (.inr (.inr gP))))), (ap, .inr (8, fsp)), (aZ, .inr (15, fsZ)), (q_things, .inl (k_things, 5, .inl f_things)), (qO, .inl (kO, 1, .inr (.inl fO)))]) (hS : va_S A s.heap H locs) (ls : Array Slot) (hl : lv_has ls 8 [(0, .ref b), (1, .ref aX), (2, .ref aZ), (3, .ref qO), (4, .int 0)]) : W p l e room_1 s m #[Value.ref b] below meth c H locs 390 571359 (lw_Z below #[Value.ref b] s) (F0 m 2280 ls []) := by
  obtain ⟨hx, hb, hr, hml, hown0, hts0, hX, hbl, hlocks, hgv⟩ := id C0
  have hown : s.vm.findClass RL = some m.cls := hown0
  have hts : ∀ w ∈ lwW, w.before #[Value.ref b] s = true := fun w h => hts0 w (lwW_in w h)
  have hbA : ¬ A b := fun h => absurd (hAf b h) (Nat.not_le.mpr hbl)
  have o_fsX := ow_0 k_fsX
  have o_fsp := ow_0 k_fsp
  have o_fsZ := ow_0 k_fsZ
  refine lv_aload_n hx hb dL_law_2280 rfl (lv_at hl 1 rfl) ?_
  refine lv_aload_n hx hb dL_law_2281 rfl (lv_at hl 0 rfl) ?_
  refine lv_iload hx hb dL_law_2282 (lv_at hl 4 rfl) ?_
  refine lv_iconst (v := 1) hx hb dL_law_2284 (by decide) ?_
  refine lv_iadd hx hb dL_law_2285  ?_
  refine lv_topi (fun x101 ex101 => ?_)
  obtain rfl : x101 = 1 := ex101.trans (by decide)
  refine va_sld hx hb hX hbl hbA hS (show vp_in 1 6 from by unfold vp_in; decide) dL_law_2286 ?_
  refine lv_topi (fun x102 ex102 => ?_)
  obtain rfl : w1 = x102 := hw1.trans ex102.symm
  refine lv_aload_n hx hb dL_law_2287 rfl (lv_at hl 0 rfl) ?_
  refine lv_iload hx hb dL_law_2288 (lv_at hl 4 rfl) ?_
  refine lv_iconst (v := 2) hx hb dL_law_2290 (by decide) ?_
  refine lv_iadd hx hb dL_law_2291  ?_
  refine lv_topi (fun x103 ex103 => ?_)
  obtain rfl : x103 = 2 := ex103.trans (by decide)
  refine va_sld hx hb hX hbl hbA hS (show vp_in 2 6 from by unfold vp_in; decide) dL_law_2292 ?_
  refine lv_topi (fun x104 ex104 => ?_)
  obtain rfl : w2 = x104 := hw2.trans ex104.symm
  refine lv_aload_n hx hb dL_law_2293 rfl (lv_at hl 0 rfl) ?_
  refine lv_iload hx hb dL_law_2294 (lv_at hl 4 rfl) ?_
  refine lv_iconst (v := 3) hx hb dL_law_2296 (by decide) ?_
  refine lv_iadd hx hb dL_law_2297  ?_
  refine lv_topi (fun x105 ex105 => ?_)
  obtain rfl : x105 = 3 := ex105.trans (by decide)
  refine va_sld hx hb hX hbl hbA hS (show vp_in 3 6 from by unfold vp_in; decide) dL_law_2298 ?_
  refine lv_topi (fun x106 ex106 => ?_)
  obtain rfl : w3 = x106 := hw3.trans ex106.symm
  refine lv_aload_n hx hb dL_law_2299 rfl (lv_at hl 3 rfl) ?_
  have hPc := hP.sub (ws' := [(aX, .inr (14, fsX)), (qP, .inl (kP, 4, .inr (.inr (.inr (.inr gP))))), (ap, .inr (8, fsp)), (qO, .inl (kO, 1, .inr (.inl fO)))]) [0, 1, 2, 5] rfl
  have hDc := hD.sub (ws' := [(aX, .inr (14, fsX)), (qP, .inl (kP, 4, .inr (.inr (.inr (.inr gP))))), (ap, .inr (8, fsp)), (qO, .inl (kO, 1, .inr (.inl fO)))]) [0, 1, 2, 5] (by decide) rfl
  have hKc := hK.sub (tys' := [(kP, .object "HeapWorks$Picture"), (kO, .long)]) [0, 2] rfl
  have hFc := va_free (wc := [(aX, .inr (14, fsX)), (qP, .inl (kP, 4, .inr (.inr (.inr (.inr gP))))), (ap, .inr (8, fsp)), (qO, .inl (kO, 1, .inr (.inl fO)))]) hD hS hA [0, 1, 2, 5] rfl
  refine vx_calli (vx_runSX (As := [.ref aX, .int w1, .int w2, .int w3, .ref qO]) (rest := []) ⟨hx, hb, hml, hown, hts⟩ (z_L_growth_1 l dC dI H.size aX fsX qP gP kP ap fsp qO fO kO w1 w2 w3 qW (fh_sub o_fsX.2 [0, 1, 2] rfl) (fh_sub o_fsp.2 [0] rfl) hst hg1 hg) (vx_cwSW 5 hts g_lk_35b_z_L_growth_1_261 rfl rfl rfl (by decide +kernel) ⟨Nat.le_of_ble_eq_true rfl, Nat.le_of_ble_eq_true rfl⟩) ⟨fun a U g mk q => by obtain ⟨q0, q1, qZ, qY, qP, qK, qD⟩ := q; exact ⟨q0, q1, Zz_call qZ, Yy_call qY, qP, va_K.moved (u := U) (U := U.calling g mk a) (Vm.Alike.refl U.vm) qK, qD⟩, fun U hU hW => ⟨rfl, by rw [hU], Zz_go hZ hS hFc hU hW, Yy_go hY hW, by rw [hU]; exact hPc, va_K.moved hW.alike hKc, hDc.weaken (fun _ _ _ _ => trivial)⟩⟩ rfl rfl hl.1 rfl (lv_room (Nat.le_of_ble_eq_true rfl)) dL_law_2300 ⟨Nat.le_of_ble_eq_true rfl, Nat.le_of_ble_eq_true rfl⟩) hS (fun q _ h => hFc q h) hFc (fun q _ h => hFc q h) (fun E ce q9 u t H1 locs ht hvm hpx hBX hz1 hk1 hS hce hcv hcl => ?_) (fun r107 u t H1 locs ht hvm hw hB hz1 hk1 hS => ?_)
  · exact False.elim hBX
  · skip
    obtain ⟨f108, rfl⟩ : ∃ z, z = u := ⟨_, rfl⟩
    obtain ⟨hP1, hK1, hD1⟩ := hB
    rw [ht] at hP1
    try dsimp only at hw
    obtain ⟨hP, hD⟩ := va_join (wr := [(aZ, .inr (15, fsZ)), (q_things, .inl (k_things, 5, .inl f_things))]) (w1 := [(qO, .inl (kO, 1, .inr (.inl f108)))]) hP hD [0, 1, 2, 5] [3, 4] rfl rfl (by decide) (by decide) hk1 hFc hP1 hD1
    have hK := hK.sub (tys' := [(k_things, .int), (kO, .long)]) [1, 2] rfl
    generalize H1 = H at hP hS ⊢
    refine W.widen (k := 393) (n := 571377) (by omega) (by omega) ?_
    have hP : va_P (dC, dI) vwCl [(aZ, .inr (15, fsZ)), (q_things, .inl (k_things, 5, .inl f_things)), (qO, .inl (kO, 1, .inr (.inl f108)))] H := hP
    have hD : va_D A [(aZ, .inr (15, fsZ)), (q_things, .inl (k_things, 5, .inl f_things)), (qO, .inl (kO, 1, .inr (.inl f108)))] := hD
    rcases hw with ⟨c109, er110⟩ | ⟨c111, c112, er113⟩ | ⟨c114, c115, c116, er117⟩ | ⟨c118, c119, c120, c121, er122⟩ | ⟨c123, c124, c125, c126, c127, er128⟩ | ⟨c129, c130, c131, c132, c133, c134, er135⟩ | ⟨c136, c137, c138, c139, c140, c141, c142, c143, er144, q145⟩ | ⟨c146, c147, c148, c149, c150, c151, c152, c153, er154, q155⟩ | ⟨c156, c157, c158, c159, c160, c161, c162, er163, q164⟩
    · skip
      subst er110
      refine lv_istore (lv' := [(5, .int 1), (0, .ref b), (1, .ref aX), (2, .ref aZ), (3, .ref qO), (4, .int 0)]) hx hb dL_law_2303 hl (by decide) rfl (fun ls hl => ?_)
      refine lv_aload_n hx hb dL_law_2305 rfl (lv_at hl 3 rfl) ?_
      refine lv_aload_n hx hb dL_law_2306 rfl (lv_at hl 1 rfl) ?_
      refine lv_iload hx hb dL_law_2307 (lv_at hl 5 rfl) ?_
      refine lv_iconst (v := 1) hx hb dL_law_2309 (by decide) ?_
      refine lv_iadd hx hb dL_law_2310  ?_
      refine lv_topi (fun x165 ex165 => ?_)
      obtain rfl : x165 = 1 := ex165.trans (by decide)
      refine va_sld hx hb hX hbl hbA hS (show vp_in 1 6 from by unfold vp_in; decide) dL_law_2311 ?_
      refine lv_topi (fun x166 ex166 => ?_)
      obtain rfl : w1 = x166 := hw1.trans ex166.symm
      refine lv_aload_n hx hb dL_law_2312 rfl (lv_at hl 1 rfl) ?_
      refine lv_iload hx hb dL_law_2313 (lv_at hl 5 rfl) ?_
      refine lv_iconst (v := 2) hx hb dL_law_2315 (by decide) ?_
      refine lv_iadd hx hb dL_law_2316  ?_
      refine lv_topi (fun x167 ex167 => ?_)
      obtain rfl : x167 = 2 := ex167.trans (by decide)
      refine va_sld hx hb hX hbl hbA hS (show vp_in 2 6 from by unfold vp_in; decide) dL_law_2317 ?_
      refine lv_topi (fun x168 ex168 => ?_)
      obtain rfl : w2 = x168 := hw2.trans ex168.symm
      refine lv_aload_n hx hb dL_law_2318 rfl (lv_at hl 1 rfl) ?_
      refine lv_iload hx hb dL_law_2319 (lv_at hl 5 rfl) ?_
      refine lv_iconst (v := 3) hx hb dL_law_2321 (by decide) ?_
      refine lv_iadd hx hb dL_law_2322  ?_
      refine lv_topi (fun x169 ex169 => ?_)
      obtain rfl : x169 = 3 := ex169.trans (by decide)
      refine va_sld hx hb hX hbl hbA hS (show vp_in 3 6 from by unfold vp_in; decide) dL_law_2323 ?_
      refine lv_topi (fun x170 ex170 => ?_)
      obtain rfl : w3 = x170 := hw3.trans ex170.symm
      have hPc := hP.sub (ws' := [(aZ, .inr (15, fsZ)), (q_things, .inl (k_things, 5, .inl f_things))]) [0, 1] rfl
      have hDc := hD.sub (ws' := [(aZ, .inr (15, fsZ)), (q_things, .inl (k_things, 5, .inl f_things))]) [0, 1] (by decide) rfl
      have hKc := hK.sub (tys' := [(k_things, .int)]) [0] rfl
      have hFc := va_free (wc := [(aZ, .inr (15, fsZ)), (q_things, .inl (k_things, 5, .inl f_things))]) hD hS hA [0, 1] rfl
      refine va_calli (va_runV (As := [.int w1, .int w2, .int w3]) (rest := []) ⟨hx, hb, hml, hown, hts⟩ (z_X12_growth l dC dI H.size aZ fsZ q_things f_things k_things w1 w2 w3 (fh_sub o_fsZ.2 [0, 1, 2] rfl) hz_f_things) (cwV 3 hts g_lk_35b_z_X12_growth_263 rfl rfl rfl (by decide +kernel) ⟨Nat.le_of_ble_eq_true rfl, Nat.le_of_ble_eq_true rfl⟩) ⟨fun a U g mk q => by obtain ⟨q0, q1, qP, qK, qD⟩ := q; exact ⟨q0, q1, qP, va_K.moved (u := U) (U := U.calling g mk a) (Vm.Alike.refl U.vm) qK, qD⟩, va_recv hK hP (ci := 15) (q0 := 0) rfl rfl, fun U hU hW => ⟨rfl, by rw [hU], by rw [hU]; exact hPc, va_K.moved hW.alike hKc, hDc.weaken (fun _ _ _ _ => trivial)⟩⟩ rfl rfl hl.1 rfl (lv_room (Nat.le_of_ble_eq_true rfl)) dL_law_2324 ⟨Nat.le_of_ble_eq_true rfl, Nat.le_of_ble_eq_true rfl⟩) hS (fun q _ h => hFc q h) hFc (fun r171 u t H1 locs ht hvm hw hB hz1 hk1 hS => ?_)
      obtain ⟨s172, rfl⟩ : ∃ z, z = u := ⟨_, rfl⟩
      obtain ⟨hP1, hK1, hD1⟩ := hB
      rw [ht] at hP1
      try dsimp only at hw
      obtain ⟨hP, hD⟩ := va_join (wr := [(qO, .inl (kO, 1, .inr (.inl f108)))]) (w1 := [(aZ, .inr (15, s172)), (q_things, .inl (k_things, 5, .inl f_things))]) hP hD [0, 1] [2] rfl rfl (by decide) (by decide) hk1 hFc hP1 hD1
      have hK := hK.sub (tys' := [(kO, .long), (k_things, .int)]) [1, 0] rfl
      generalize H1 = H at hP hS ⊢
      have hP : va_P (dC, dI) vwCl [(qO, .inl (kO, 1, .inr (.inl f108))), (aZ, .inr (15, s172)), (q_things, .inl (k_things, 5, .inl f_things))] H := hP
      have hD : va_D A [(qO, .inl (kO, 1, .inr (.inl f108))), (aZ, .inr (15, s172)), (q_things, .inl (k_things, 5, .inl f_things))] := hD
      rcases hw with ⟨c173, er174, o_s172⟩ | ⟨c175, c176, er177, o_s172⟩ | ⟨c178, c179, c180, er181, o_s172⟩ | ⟨c182, c183, c184, c185, er186, o_s172⟩ | ⟨c187, c188, c189, c190, c191, er192, o_s172⟩ | ⟨c193, c194, c195, c196, c197, c198, c199, c200, er201, o_s172⟩ | ⟨c202, c203, c204, c205, c206, c207, c208, c209, er210, o_s172⟩ | ⟨c211, c212, c213, c214, c215, c216, c217, c218, er219, o_s172⟩ | ⟨c220, c221, c222, c223, c224, c225, er226, o_s172⟩
      · skip
        subst er174
        have o_s172 := ow_on o_fsZ o_s172 (l' := [(0, .int 1), (48, .ref q_things), (75, .int 0), (48, .ref q_things), (75, .int 0)]) (w' := [0]) rfl rfl
        refine lv_istore (lv' := [(6, .int 0), (5, .int 1), (0, .ref b), (1, .ref aX), (2, .ref aZ), (3, .ref qO), (4, .int 0)]) hx hb dL_law_2327 hl (by decide) rfl (fun ls hl => ?_)
        refine lv_aload_n hx hb dL_law_2329 rfl (lv_at hl 4 rfl) ?_
        have hPc := hP.sub (ws' := [(aZ, .inr (15, s172))]) [1] rfl
        have hDc := hD.sub (ws' := [(aZ, .inr (15, s172))]) [1] (by decide) rfl
        have hKc := hK.sub (tys' := []) [] rfl
        have hFc := va_free (wc := [(aZ, .inr (15, s172))]) hD hS hA [1] rfl
        refine va_calli (va_runV (As := []) (rest := []) ⟨hx, hb, hml, hown, hts⟩ (z_X12_thrown l dC dI H.size aZ s172 (fh_sub o_s172.2 [0] rfl) ) (cwV 0 hts g_lk_35b_z_X12_thrown_149 rfl rfl rfl (by decide +kernel) ⟨Nat.le_of_ble_eq_true rfl, Nat.le_of_ble_eq_true rfl⟩) ⟨fun a U g mk q => by obtain ⟨q0, q1, qP, qK, qD⟩ := q; exact ⟨q0, q1, qP, va_K.moved (u := U) (U := U.calling g mk a) (Vm.Alike.refl U.vm) qK, qD⟩, va_recv hK hP (ci := 15) (q0 := 1) rfl rfl, fun U hU hW => ⟨rfl, by rw [hU], by rw [hU]; exact hPc, va_K.moved hW.alike hKc, hDc.weaken (fun _ _ _ _ => trivial)⟩⟩ rfl rfl hl.1 rfl (lv_room (Nat.le_of_ble_eq_true rfl)) dL_law_2330 ⟨Nat.le_of_ble_eq_true rfl, Nat.le_of_ble_eq_true rfl⟩) hS (fun q _ h => hFc q h) hFc (fun r227 u t H1 locs ht hvm hw hB hz1 hk1 hS => ?_)
        obtain ⟨hP1, hK1, hD1⟩ := hB
        rw [ht] at hP1
        try dsimp only at hw
        obtain ⟨hP, hD⟩ := va_join (wr := [(qO, .inl (kO, 1, .inr (.inl f108))), (q_things, .inl (k_things, 5, .inl f_things))]) (w1 := [(aZ, .inr (15, s172))]) hP hD [1] [0, 2] rfl rfl (by decide) (by decide) hk1 hFc hP1 hD1
        have hK := hK.sub (tys' := [(kO, .long), (k_things, .int)]) [0, 1] rfl
        generalize H1 = H at hP hS ⊢
        have hP : va_P (dC, dI) vwCl [(qO, .inl (kO, 1, .inr (.inl f108))), (q_things, .inl (k_things, 5, .inl f_things)), (aZ, .inr (15, s172))] H := hP
        have hD : va_D A [(qO, .inl (kO, 1, .inr (.inl f108))), (q_things, .inl (k_things, 5, .inl f_things)), (aZ, .inr (15, s172))] := hD
        have er228 := hw
        subst er228
        refine lv_iload hx hb dL_law_2333 (lv_at hl 1 rfl) ?_
        refine lv_icmp_eq (tgt := 2340) hx hb dL_law_2335 (by decide) (fun c229 => ?_) (fun c229 => absurd c229 (by decide))
        refine lv_iload hx hb dL_law_2340 (lv_at hl 1 rfl) ?_
        refine lv_if_ne (tgt := 2357) hx hb dL_law_2342 (by decide) (fun c230 => ?_) (fun c230 => absurd c230 (by decide))
        refine lv_goto (tgt := 3111) hx hb dL_law_2357 (by decide) ?_
        exact lw_end hst C0 hA hAf hZ hY (Nat.le_of_ble_eq_true rfl) (Nat.le_of_ble_eq_true rfl) dC dI P0k P0 D0 hS ls (lv_sub hl [2, 6] rfl)
      · exact (by exfalso; (try simp only [i_lt, i_le, i_eq, kc_0, kc_4] at c109 c175 c176); omega)
      · exact (by exfalso; (try simp only [i_lt, i_le, i_eq, kc_0, kc_4] at c109 c178 c179); omega)
      · exact (by exfalso; (try simp only [i_lt, i_le, i_eq, kc_0, kc_4] at c109 c182 c183); omega)
      · exact (by exfalso; (try simp only [i_lt, i_le, i_eq, kc_0, kc_4] at c109 c187 c188); omega)
      · exact (by exfalso; (try simp only [i_lt, i_le, i_eq, kc_0, kc_4] at c109 c193 c194); omega)
      · exact (by exfalso; (try simp only [i_lt, i_le, i_eq, kc_0, kc_4] at c109 c202 c203); omega)
      · exact (by exfalso; (try simp only [i_lt, i_le, i_eq, kc_0, kc_4] at c109 c211 c212); omega)
      · exact (by exfalso; (try simp only [i_lt, i_le, i_eq, kc_0, kc_4] at c109 c220 c221); omega)
    · skip
      subst er113
      refine lv_istore (lv' := [(5, .int 1), (0, .ref b), (1, .ref aX), (2, .ref aZ), (3, .ref qO), (4, .int 0)]) hx hb dL_law_2303 hl (by decide) rfl (fun ls hl => ?_)
      refine lv_aload_n hx hb dL_law_2305 rfl (lv_at hl 3 rfl) ?_
      refine lv_aload_n hx hb dL_law_2306 rfl (lv_at hl 1 rfl) ?_
      refine lv_iload hx hb dL_law_2307 (lv_at hl 5 rfl) ?_
      refine lv_iconst (v := 1) hx hb dL_law_2309 (by decide) ?_
      refine lv_iadd hx hb dL_law_2310  ?_
      refine lv_topi (fun x231 ex231 => ?_)
      obtain rfl : x231 = 1 := ex231.trans (by decide)
      refine va_sld hx hb hX hbl hbA hS (show vp_in 1 6 from by unfold vp_in; decide) dL_law_2311 ?_
      refine lv_topi (fun x232 ex232 => ?_)
      obtain rfl : w1 = x232 := hw1.trans ex232.symm
      refine lv_aload_n hx hb dL_law_2312 rfl (lv_at hl 1 rfl) ?_
      refine lv_iload hx hb dL_law_2313 (lv_at hl 5 rfl) ?_
      refine lv_iconst (v := 2) hx hb dL_law_2315 (by decide) ?_
      refine lv_iadd hx hb dL_law_2316  ?_
      refine lv_topi (fun x233 ex233 => ?_)
      obtain rfl : x233 = 2 := ex233.trans (by decide)
      refine va_sld hx hb hX hbl hbA hS (show vp_in 2 6 from by unfold vp_in; decide) dL_law_2317 ?_
      refine lv_topi (fun x234 ex234 => ?_)
      obtain rfl : w2 = x234 := hw2.trans ex234.symm
      refine lv_aload_n hx hb dL_law_2318 rfl (lv_at hl 1 rfl) ?_
      refine lv_iload hx hb dL_law_2319 (lv_at hl 5 rfl) ?_
      refine lv_iconst (v := 3) hx hb dL_law_2321 (by decide) ?_
      refine lv_iadd hx hb dL_law_2322  ?_
      refine lv_topi (fun x235 ex235 => ?_)
      obtain rfl : x235 = 3 := ex235.trans (by decide)
      refine va_sld hx hb hX hbl hbA hS (show vp_in 3 6 from by unfold vp_in; decide) dL_law_2323 ?_
      refine lv_topi (fun x236 ex236 => ?_)
      obtain rfl : w3 = x236 := hw3.trans ex236.symm
      have hPc := hP.sub (ws' := [(aZ, .inr (15, fsZ)), (q_things, .inl (k_things, 5, .inl f_things))]) [0, 1] rfl
      have hDc := hD.sub (ws' := [(aZ, .inr (15, fsZ)), (q_things, .inl (k_things, 5, .inl f_things))]) [0, 1] (by decide) rfl
      have hKc := hK.sub (tys' := [(k_things, .int)]) [0] rfl
      have hFc := va_free (wc := [(aZ, .inr (15, fsZ)), (q_things, .inl (k_things, 5, .inl f_things))]) hD hS hA [0, 1] rfl
      refine va_calli (va_runV (As := [.int w1, .int w2, .int w3]) (rest := []) ⟨hx, hb, hml, hown, hts⟩ (z_X12_growth l dC dI H.size aZ fsZ q_things f_things k_things w1 w2 w3 (fh_sub o_fsZ.2 [0, 1, 2] rfl) hz_f_things) (cwV 3 hts g_lk_35b_z_X12_growth_263 rfl rfl rfl (by decide +kernel) ⟨Nat.le_of_ble_eq_true rfl, Nat.le_of_ble_eq_true rfl⟩) ⟨fun a U g mk q => by obtain ⟨q0, q1, qP, qK, qD⟩ := q; exact ⟨q0, q1, qP, va_K.moved (u := U) (U := U.calling g mk a) (Vm.Alike.refl U.vm) qK, qD⟩, va_recv hK hP (ci := 15) (q0 := 0) rfl rfl, fun U hU hW => ⟨rfl, by rw [hU], by rw [hU]; exact hPc, va_K.moved hW.alike hKc, hDc.weaken (fun _ _ _ _ => trivial)⟩⟩ rfl rfl hl.1 rfl (lv_room (Nat.le_of_ble_eq_true rfl)) dL_law_2324 ⟨Nat.le_of_ble_eq_true rfl, Nat.le_of_ble_eq_true rfl⟩) hS (fun q _ h => hFc q h) hFc (fun r237 u t H1 locs ht hvm hw hB hz1 hk1 hS => ?_)
      obtain ⟨s238, rfl⟩ : ∃ z, z = u := ⟨_, rfl⟩
      obtain ⟨hP1, hK1, hD1⟩ := hB
      rw [ht] at hP1
      try dsimp only at hw
      obtain ⟨hP, hD⟩ := va_join (wr := [(qO, .inl (kO, 1, .inr (.inl f108)))]) (w1 := [(aZ, .inr (15, s238)), (q_things, .inl (k_things, 5, .inl f_things))]) hP hD [0, 1] [2] rfl rfl (by decide) (by decide) hk1 hFc hP1 hD1
      have hK := hK.sub (tys' := [(kO, .long), (k_things, .int)]) [1, 0] rfl
      generalize H1 = H at hP hS ⊢
      have hP : va_P (dC, dI) vwCl [(qO, .inl (kO, 1, .inr (.inl f108))), (aZ, .inr (15, s238)), (q_things, .inl (k_things, 5, .inl f_things))] H := hP
      have hD : va_D A [(qO, .inl (kO, 1, .inr (.inl f108))), (aZ, .inr (15, s238)), (q_things, .inl (k_things, 5, .inl f_things))] := hD
      rcases hw with ⟨c239, er240, o_s238⟩ | ⟨c241, c242, er243, o_s238⟩ | ⟨c244, c245, c246, er247, o_s238⟩ | ⟨c248, c249, c250, c251, er252, o_s238⟩ | ⟨c253, c254, c255, c256, c257, er258, o_s238⟩ | ⟨c259, c260, c261, c262, c263, c264, c265, c266, er267, o_s238⟩ | ⟨c268, c269, c270, c271, c272, c273, c274, c275, er276, o_s238⟩ | ⟨c277, c278, c279, c280, c281, c282, c283, c284, er285, o_s238⟩ | ⟨c286, c287, c288, c289, c290, c291, er292, o_s238⟩
      · exact (by exfalso; (try simp only [i_lt, i_le, i_eq, kc_0, kc_4] at c111 c112 c239); omega)
      · skip
        subst er243
        have o_s238 := ow_on o_fsZ o_s238 (l' := [(0, .int 1), (48, .ref q_things), (75, .int 0), (48, .ref q_things), (75, .int 0)]) (w' := [0]) rfl rfl
        refine lv_istore (lv' := [(6, .int 0), (5, .int 1), (0, .ref b), (1, .ref aX), (2, .ref aZ), (3, .ref qO), (4, .int 0)]) hx hb dL_law_2327 hl (by decide) rfl (fun ls hl => ?_)
        refine lv_aload_n hx hb dL_law_2329 rfl (lv_at hl 4 rfl) ?_
        have hPc := hP.sub (ws' := [(aZ, .inr (15, s238))]) [1] rfl
        have hDc := hD.sub (ws' := [(aZ, .inr (15, s238))]) [1] (by decide) rfl
        have hKc := hK.sub (tys' := []) [] rfl
        have hFc := va_free (wc := [(aZ, .inr (15, s238))]) hD hS hA [1] rfl
        refine va_calli (va_runV (As := []) (rest := []) ⟨hx, hb, hml, hown, hts⟩ (z_X12_thrown l dC dI H.size aZ s238 (fh_sub o_s238.2 [0] rfl) ) (cwV 0 hts g_lk_35b_z_X12_thrown_149 rfl rfl rfl (by decide +kernel) ⟨Nat.le_of_ble_eq_true rfl, Nat.le_of_ble_eq_true rfl⟩) ⟨fun a U g mk q => by obtain ⟨q0, q1, qP, qK, qD⟩ := q; exact ⟨q0, q1, qP, va_K.moved (u := U) (U := U.calling g mk a) (Vm.Alike.refl U.vm) qK, qD⟩, va_recv hK hP (ci := 15) (q0 := 1) rfl rfl, fun U hU hW => ⟨rfl, by rw [hU], by rw [hU]; exact hPc, va_K.moved hW.alike hKc, hDc.weaken (fun _ _ _ _ => trivial)⟩⟩ rfl rfl hl.1 rfl (lv_room (Nat.le_of_ble_eq_true rfl)) dL_law_2330 ⟨Nat.le_of_ble_eq_true rfl, Nat.le_of_ble_eq_true rfl⟩) hS (fun q _ h => hFc q h) hFc (fun r293 u t H1 locs ht hvm hw hB hz1 hk1 hS => ?_)
        obtain ⟨hP1, hK1, hD1⟩ := hB
        rw [ht] at hP1
        try dsimp only at hw
        obtain ⟨hP, hD⟩ := va_join (wr := [(qO, .inl (kO, 1, .inr (.inl f108))), (q_things, .inl (k_things, 5, .inl f_things))]) (w1 := [(aZ, .inr (15, s238))]) hP hD [1] [0, 2] rfl rfl (by decide) (by decide) hk1 hFc hP1 hD1
        have hK := hK.sub (tys' := [(kO, .long), (k_things, .int)]) [0, 1] rfl
        generalize H1 = H at hP hS ⊢
        have hP : va_P (dC, dI) vwCl [(qO, .inl (kO, 1, .inr (.inl f108))), (q_things, .inl (k_things, 5, .inl f_things)), (aZ, .inr (15, s238))] H := hP
        have hD : va_D A [(qO, .inl (kO, 1, .inr (.inl f108))), (q_things, .inl (k_things, 5, .inl f_things)), (aZ, .inr (15, s238))] := hD
        have er294 := hw
        subst er294
        refine lv_iload hx hb dL_law_2333 (lv_at hl 1 rfl) ?_
        refine lv_icmp_eq (tgt := 2340) hx hb dL_law_2335 (by decide) (fun c295 => ?_) (fun c295 => absurd c295 (by decide))
        refine lv_iload hx hb dL_law_2340 (lv_at hl 1 rfl) ?_
        refine lv_if_ne (tgt := 2357) hx hb dL_law_2342 (by decide) (fun c296 => ?_) (fun c296 => absurd c296 (by decide))
        refine lv_goto (tgt := 3111) hx hb dL_law_2357 (by decide) ?_
        exact lw_end hst C0 hA hAf hZ hY (Nat.le_of_ble_eq_true rfl) (Nat.le_of_ble_eq_true rfl) dC dI P0k P0 D0 hS ls (lv_sub hl [2, 6] rfl)
      · exact (by exfalso; (try simp only [i_lt, i_le, i_eq, kc_0, kc_4] at c111 c112 c244 c245); omega)
      · exact (by exfalso; (try simp only [i_lt, i_le, i_eq, kc_0, kc_4] at c111 c112 c248 c249); omega)
      · exact (by exfalso; (try simp only [i_lt, i_le, i_eq, kc_0, kc_4] at c111 c112 c253 c254); omega)
      · exact (by exfalso; (try simp only [i_lt, i_le, i_eq, kc_0, kc_4] at c111 c112 c259 c260); omega)
      · exact (by exfalso; (try simp only [i_lt, i_le, i_eq, kc_0, kc_4] at c111 c112 c268 c269); omega)
      · exact (by exfalso; (try simp only [i_lt, i_le, i_eq, kc_0, kc_4] at c111 c112 c277 c278); omega)
      · exact (by exfalso; (try simp only [i_lt, i_le, i_eq, kc_0, kc_4] at c111 c112 c286 c287); omega)
    · skip
      subst er117
      refine lv_istore (lv' := [(5, .int 1), (0, .ref b), (1, .ref aX), (2, .ref aZ), (3, .ref qO), (4, .int 0)]) hx hb dL_law_2303 hl (by decide) rfl (fun ls hl => ?_)
      refine lv_aload_n hx hb dL_law_2305 rfl (lv_at hl 3 rfl) ?_
      refine lv_aload_n hx hb dL_law_2306 rfl (lv_at hl 1 rfl) ?_
      refine lv_iload hx hb dL_law_2307 (lv_at hl 5 rfl) ?_
      refine lv_iconst (v := 1) hx hb dL_law_2309 (by decide) ?_
      refine lv_iadd hx hb dL_law_2310  ?_
      refine lv_topi (fun x297 ex297 => ?_)
      obtain rfl : x297 = 1 := ex297.trans (by decide)
      refine va_sld hx hb hX hbl hbA hS (show vp_in 1 6 from by unfold vp_in; decide) dL_law_2311 ?_
      refine lv_topi (fun x298 ex298 => ?_)
      obtain rfl : w1 = x298 := hw1.trans ex298.symm
      refine lv_aload_n hx hb dL_law_2312 rfl (lv_at hl 1 rfl) ?_
      refine lv_iload hx hb dL_law_2313 (lv_at hl 5 rfl) ?_
      refine lv_iconst (v := 2) hx hb dL_law_2315 (by decide) ?_
      refine lv_iadd hx hb dL_law_2316  ?_
      refine lv_topi (fun x299 ex299 => ?_)
      obtain rfl : x299 = 2 := ex299.trans (by decide)
      refine va_sld hx hb hX hbl hbA hS (show vp_in 2 6 from by unfold vp_in; decide) dL_law_2317 ?_
      refine lv_topi (fun x300 ex300 => ?_)
      obtain rfl : w2 = x300 := hw2.trans ex300.symm
      refine lv_aload_n hx hb dL_law_2318 rfl (lv_at hl 1 rfl) ?_
      refine lv_iload hx hb dL_law_2319 (lv_at hl 5 rfl) ?_
      refine lv_iconst (v := 3) hx hb dL_law_2321 (by decide) ?_
      refine lv_iadd hx hb dL_law_2322  ?_
      refine lv_topi (fun x301 ex301 => ?_)
      obtain rfl : x301 = 3 := ex301.trans (by decide)
      refine va_sld hx hb hX hbl hbA hS (show vp_in 3 6 from by unfold vp_in; decide) dL_law_2323 ?_
      refine lv_topi (fun x302 ex302 => ?_)
      obtain rfl : w3 = x302 := hw3.trans ex302.symm
      have hPc := hP.sub (ws' := [(aZ, .inr (15, fsZ)), (q_things, .inl (k_things, 5, .inl f_things))]) [0, 1] rfl
      have hDc := hD.sub (ws' := [(aZ, .inr (15, fsZ)), (q_things, .inl (k_things, 5, .inl f_things))]) [0, 1] (by decide) rfl
      have hKc := hK.sub (tys' := [(k_things, .int)]) [0] rfl
      have hFc := va_free (wc := [(aZ, .inr (15, fsZ)), (q_things, .inl (k_things, 5, .inl f_things))]) hD hS hA [0, 1] rfl
      refine va_calli (va_runV (As := [.int w1, .int w2, .int w3]) (rest := []) ⟨hx, hb, hml, hown, hts⟩ (z_X12_growth l dC dI H.size aZ fsZ q_things f_things k_things w1 w2 w3 (fh_sub o_fsZ.2 [0, 1, 2] rfl) hz_f_things) (cwV 3 hts g_lk_35b_z_X12_growth_263 rfl rfl rfl (by decide +kernel) ⟨Nat.le_of_ble_eq_true rfl, Nat.le_of_ble_eq_true rfl⟩) ⟨fun a U g mk q => by obtain ⟨q0, q1, qP, qK, qD⟩ := q; exact ⟨q0, q1, qP, va_K.moved (u := U) (U := U.calling g mk a) (Vm.Alike.refl U.vm) qK, qD⟩, va_recv hK hP (ci := 15) (q0 := 0) rfl rfl, fun U hU hW => ⟨rfl, by rw [hU], by rw [hU]; exact hPc, va_K.moved hW.alike hKc, hDc.weaken (fun _ _ _ _ => trivial)⟩⟩ rfl rfl hl.1 rfl (lv_room (Nat.le_of_ble_eq_true rfl)) dL_law_2324 ⟨Nat.le_of_ble_eq_true rfl, Nat.le_of_ble_eq_true rfl⟩) hS (fun q _ h => hFc q h) hFc (fun r303 u t H1 locs ht hvm hw hB hz1 hk1 hS => ?_)
      obtain ⟨s304, rfl⟩ : ∃ z, z = u := ⟨_, rfl⟩
      obtain ⟨hP1, hK1, hD1⟩ := hB
      rw [ht] at hP1
      try dsimp only at hw
      obtain ⟨hP, hD⟩ := va_join (wr := [(qO, .inl (kO, 1, .inr (.inl f108)))]) (w1 := [(aZ, .inr (15, s304)), (q_things, .inl (k_things, 5, .inl f_things))]) hP hD [0, 1] [2] rfl rfl (by decide) (by decide) hk1 hFc hP1 hD1
      have hK := hK.sub (tys' := [(kO, .long), (k_things, .int)]) [1, 0] rfl
      generalize H1 = H at hP hS ⊢
      have hP : va_P (dC, dI) vwCl [(qO, .inl (kO, 1, .inr (.inl f108))), (aZ, .inr (15, s304)), (q_things, .inl (k_things, 5, .inl f_things))] H := hP
      have hD : va_D A [(qO, .inl (kO, 1, .inr (.inl f108))), (aZ, .inr (15, s304)), (q_things, .inl (k_things, 5, .inl f_things))] := hD
      rcases hw with ⟨c305, er306, o_s304⟩ | ⟨c307, c308, er309, o_s304⟩ | ⟨c310, c311, c312, er313, o_s304⟩ | ⟨c314, c315, c316, c317, er318, o_s304⟩ | ⟨c319, c320, c321, c322, c323, er324, o_s304⟩ | ⟨c325, c326, c327, c328, c329, c330, c331, c332, er333, o_s304⟩ | ⟨c334, c335, c336, c337, c338, c339, c340, c341, er342, o_s304⟩ | ⟨c343, c344, c345, c346, c347, c348, c349, c350, er351, o_s304⟩ | ⟨c352, c353, c354, c355, c356, c357, er358, o_s304⟩
      · exact (by exfalso; (try simp only [i_lt, i_le, i_eq, kc_0, kc_4] at c114 c115 c305); omega)
      · exact (by exfalso; (try simp only [i_lt, i_le, i_eq, kc_0, kc_4] at c114 c115 c307 c308); omega)
      · skip
        subst er313
        have o_s304 := ow_on o_fsZ o_s304 (l' := [(0, .int 1), (48, .ref q_things), (75, .int 0), (48, .ref q_things), (75, .int 0)]) (w' := [0]) rfl rfl
        refine lv_istore (lv' := [(6, .int 0), (5, .int 1), (0, .ref b), (1, .ref aX), (2, .ref aZ), (3, .ref qO), (4, .int 0)]) hx hb dL_law_2327 hl (by decide) rfl (fun ls hl => ?_)
        refine lv_aload_n hx hb dL_law_2329 rfl (lv_at hl 4 rfl) ?_
        have hPc := hP.sub (ws' := [(aZ, .inr (15, s304))]) [1] rfl
        have hDc := hD.sub (ws' := [(aZ, .inr (15, s304))]) [1] (by decide) rfl
        have hKc := hK.sub (tys' := []) [] rfl
        have hFc := va_free (wc := [(aZ, .inr (15, s304))]) hD hS hA [1] rfl
        refine va_calli (va_runV (As := []) (rest := []) ⟨hx, hb, hml, hown, hts⟩ (z_X12_thrown l dC dI H.size aZ s304 (fh_sub o_s304.2 [0] rfl) ) (cwV 0 hts g_lk_35b_z_X12_thrown_149 rfl rfl rfl (by decide +kernel) ⟨Nat.le_of_ble_eq_true rfl, Nat.le_of_ble_eq_true rfl⟩) ⟨fun a U g mk q => by obtain ⟨q0, q1, qP, qK, qD⟩ := q; exact ⟨q0, q1, qP, va_K.moved (u := U) (U := U.calling g mk a) (Vm.Alike.refl U.vm) qK, qD⟩, va_recv hK hP (ci := 15) (q0 := 1) rfl rfl, fun U hU hW => ⟨rfl, by rw [hU], by rw [hU]; exact hPc, va_K.moved hW.alike hKc, hDc.weaken (fun _ _ _ _ => trivial)⟩⟩ rfl rfl hl.1 rfl (lv_room (Nat.le_of_ble_eq_true rfl)) dL_law_2330 ⟨Nat.le_of_ble_eq_true rfl, Nat.le_of_ble_eq_true rfl⟩) hS (fun q _ h => hFc q h) hFc (fun r359 u t H1 locs ht hvm hw hB hz1 hk1 hS => ?_)
        obtain ⟨hP1, hK1, hD1⟩ := hB
        rw [ht] at hP1
        try dsimp only at hw
        obtain ⟨hP, hD⟩ := va_join (wr := [(qO, .inl (kO, 1, .inr (.inl f108))), (q_things, .inl (k_things, 5, .inl f_things))]) (w1 := [(aZ, .inr (15, s304))]) hP hD [1] [0, 2] rfl rfl (by decide) (by decide) hk1 hFc hP1 hD1
        have hK := hK.sub (tys' := [(kO, .long), (k_things, .int)]) [0, 1] rfl
        generalize H1 = H at hP hS ⊢
        have hP : va_P (dC, dI) vwCl [(qO, .inl (kO, 1, .inr (.inl f108))), (q_things, .inl (k_things, 5, .inl f_things)), (aZ, .inr (15, s304))] H := hP
        have hD : va_D A [(qO, .inl (kO, 1, .inr (.inl f108))), (q_things, .inl (k_things, 5, .inl f_things)), (aZ, .inr (15, s304))] := hD
        have er360 := hw
        subst er360
        refine lv_iload hx hb dL_law_2333 (lv_at hl 1 rfl) ?_
        refine lv_icmp_eq (tgt := 2340) hx hb dL_law_2335 (by decide) (fun c361 => ?_) (fun c361 => absurd c361 (by decide))
        refine lv_iload hx hb dL_law_2340 (lv_at hl 1 rfl) ?_
        refine lv_if_ne (tgt := 2357) hx hb dL_law_2342 (by decide) (fun c362 => ?_) (fun c362 => absurd c362 (by decide))
        refine lv_goto (tgt := 3111) hx hb dL_law_2357 (by decide) ?_
        exact lw_end hst C0 hA hAf hZ hY (Nat.le_of_ble_eq_true rfl) (Nat.le_of_ble_eq_true rfl) dC dI P0k P0 D0 hS ls (lv_sub hl [2, 6] rfl)
      · exact (by exfalso; (try simp only [i_lt, i_le, i_eq, kc_0, kc_4] at c116 c316 c317); omega)
      · exact (by exfalso; (try simp only [i_lt, i_le, i_eq, kc_0, kc_4] at c116 c321 c322); omega)
      · exact (by exfalso; (try simp only [i_lt, i_le, i_eq, kc_0, kc_4] at c116 c327 c328); omega)
      · exact (by exfalso; (try simp only [i_lt, i_le, i_eq, kc_0, kc_4] at c116 c336 c337); omega)
      · exact (by exfalso; (try simp only [i_lt, i_le, i_eq, kc_0, kc_4] at c116 c345 c346); omega)
      · exact (by exfalso; (try simp only [i_lt, i_le, i_eq, kc_0, kc_4] at c116 c354 c355); omega)
    · skip
      subst er122
      refine lv_istore (lv' := [(5, .int 1), (0, .ref b), (1, .ref aX), (2, .ref aZ), (3, .ref qO), (4, .int 0)]) hx hb dL_law_2303 hl (by decide) rfl (fun ls hl => ?_)
      refine lv_aload_n hx hb dL_law_2305 rfl (lv_at hl 3 rfl) ?_
      refine lv_aload_n hx hb dL_law_2306 rfl (lv_at hl 1 rfl) ?_
      refine lv_iload hx hb dL_law_2307 (lv_at hl 5 rfl) ?_
      refine lv_iconst (v := 1) hx hb dL_law_2309 (by decide) ?_
      refine lv_iadd hx hb dL_law_2310  ?_
      refine lv_topi (fun x363 ex363 => ?_)
      obtain rfl : x363 = 1 := ex363.trans (by decide)
      refine va_sld hx hb hX hbl hbA hS (show vp_in 1 6 from by unfold vp_in; decide) dL_law_2311 ?_
      refine lv_topi (fun x364 ex364 => ?_)
      obtain rfl : w1 = x364 := hw1.trans ex364.symm
      refine lv_aload_n hx hb dL_law_2312 rfl (lv_at hl 1 rfl) ?_
      refine lv_iload hx hb dL_law_2313 (lv_at hl 5 rfl) ?_
      refine lv_iconst (v := 2) hx hb dL_law_2315 (by decide) ?_
      refine lv_iadd hx hb dL_law_2316  ?_
      refine lv_topi (fun x365 ex365 => ?_)
      obtain rfl : x365 = 2 := ex365.trans (by decide)
      refine va_sld hx hb hX hbl hbA hS (show vp_in 2 6 from by unfold vp_in; decide) dL_law_2317 ?_
      refine lv_topi (fun x366 ex366 => ?_)
      obtain rfl : w2 = x366 := hw2.trans ex366.symm
      refine lv_aload_n hx hb dL_law_2318 rfl (lv_at hl 1 rfl) ?_
      refine lv_iload hx hb dL_law_2319 (lv_at hl 5 rfl) ?_
      refine lv_iconst (v := 3) hx hb dL_law_2321 (by decide) ?_
      refine lv_iadd hx hb dL_law_2322  ?_
      refine lv_topi (fun x367 ex367 => ?_)
      obtain rfl : x367 = 3 := ex367.trans (by decide)
      refine va_sld hx hb hX hbl hbA hS (show vp_in 3 6 from by unfold vp_in; decide) dL_law_2323 ?_
      refine lv_topi (fun x368 ex368 => ?_)
      obtain rfl : w3 = x368 := hw3.trans ex368.symm
      have hPc := hP.sub (ws' := [(aZ, .inr (15, fsZ)), (q_things, .inl (k_things, 5, .inl f_things))]) [0, 1] rfl
      have hDc := hD.sub (ws' := [(aZ, .inr (15, fsZ)), (q_things, .inl (k_things, 5, .inl f_things))]) [0, 1] (by decide) rfl
      have hKc := hK.sub (tys' := [(k_things, .int)]) [0] rfl
      have hFc := va_free (wc := [(aZ, .inr (15, fsZ)), (q_things, .inl (k_things, 5, .inl f_things))]) hD hS hA [0, 1] rfl
      refine va_calli (va_runV (As := [.int w1, .int w2, .int w3]) (rest := []) ⟨hx, hb, hml, hown, hts⟩ (z_X12_growth l dC dI H.size aZ fsZ q_things f_things k_things w1 w2 w3 (fh_sub o_fsZ.2 [0, 1, 2] rfl) hz_f_things) (cwV 3 hts g_lk_35b_z_X12_growth_263 rfl rfl rfl (by decide +kernel) ⟨Nat.le_of_ble_eq_true rfl, Nat.le_of_ble_eq_true rfl⟩) ⟨fun a U g mk q => by obtain ⟨q0, q1, qP, qK, qD⟩ := q; exact ⟨q0, q1, qP, va_K.moved (u := U) (U := U.calling g mk a) (Vm.Alike.refl U.vm) qK, qD⟩, va_recv hK hP (ci := 15) (q0 := 0) rfl rfl, fun U hU hW => ⟨rfl, by rw [hU], by rw [hU]; exact hPc, va_K.moved hW.alike hKc, hDc.weaken (fun _ _ _ _ => trivial)⟩⟩ rfl rfl hl.1 rfl (lv_room (Nat.le_of_ble_eq_true rfl)) dL_law_2324 ⟨Nat.le_of_ble_eq_true rfl, Nat.le_of_ble_eq_true rfl⟩) hS (fun q _ h => hFc q h) hFc (fun r369 u t H1 locs ht hvm hw hB hz1 hk1 hS => ?_)
      obtain ⟨s370, rfl⟩ : ∃ z, z = u := ⟨_, rfl⟩
      obtain ⟨hP1, hK1, hD1⟩ := hB
      rw [ht] at hP1
      try dsimp only at hw
      obtain ⟨hP, hD⟩ := va_join (wr := [(qO, .inl (kO, 1, .inr (.inl f108)))]) (w1 := [(aZ, .inr (15, s370)), (q_things, .inl (k_things, 5, .inl f_things))]) hP hD [0, 1] [2] rfl rfl (by decide) (by decide) hk1 hFc hP1 hD1
      have hK := hK.sub (tys' := [(kO, .long), (k_things, .int)]) [1, 0] rfl
      generalize H1 = H at hP hS ⊢
      have hP : va_P (dC, dI) vwCl [(qO, .inl (kO, 1, .inr (.inl f108))), (aZ, .inr (15, s370)), (q_things, .inl (k_things, 5, .inl f_things))] H := hP
      have hD : va_D A [(qO, .inl (kO, 1, .inr (.inl f108))), (aZ, .inr (15, s370)), (q_things, .inl (k_things, 5, .inl f_things))] := hD
      rcases hw with ⟨c371, er372, o_s370⟩ | ⟨c373, c374, er375, o_s370⟩ | ⟨c376, c377, c378, er379, o_s370⟩ | ⟨c380, c381, c382, c383, er384, o_s370⟩ | ⟨c385, c386, c387, c388, c389, er390, o_s370⟩ | ⟨c391, c392, c393, c394, c395, c396, c397, c398, er399, o_s370⟩ | ⟨c400, c401, c402, c403, c404, c405, c406, c407, er408, o_s370⟩ | ⟨c409, c410, c411, c412, c413, c414, c415, c416, er417, o_s370⟩ | ⟨c418, c419, c420, c421, c422, c423, er424, o_s370⟩
      · exact (by exfalso; (try simp only [i_lt, i_le, i_eq, kc_0, kc_4] at c118 c119 c371); omega)
      · exact (by exfalso; (try simp only [i_lt, i_le, i_eq, kc_0, kc_4] at c118 c119 c373 c374); omega)
      · exact (by exfalso; (try simp only [i_lt, i_le, i_eq, kc_0, kc_4] at c120 c121 c378); omega)
      · skip
        subst er384
        have o_s370 := ow_on o_fsZ o_s370 (l' := [(0, .int 1), (48, .ref q_things), (75, .int 0), (48, .ref q_things), (75, .int 0)]) (w' := [0]) rfl rfl
        refine lv_istore (lv' := [(6, .int 0), (5, .int 1), (0, .ref b), (1, .ref aX), (2, .ref aZ), (3, .ref qO), (4, .int 0)]) hx hb dL_law_2327 hl (by decide) rfl (fun ls hl => ?_)
        refine lv_aload_n hx hb dL_law_2329 rfl (lv_at hl 4 rfl) ?_
        have hPc := hP.sub (ws' := [(aZ, .inr (15, s370))]) [1] rfl
        have hDc := hD.sub (ws' := [(aZ, .inr (15, s370))]) [1] (by decide) rfl
        have hKc := hK.sub (tys' := []) [] rfl
        have hFc := va_free (wc := [(aZ, .inr (15, s370))]) hD hS hA [1] rfl
        refine va_calli (va_runV (As := []) (rest := []) ⟨hx, hb, hml, hown, hts⟩ (z_X12_thrown l dC dI H.size aZ s370 (fh_sub o_s370.2 [0] rfl) ) (cwV 0 hts g_lk_35b_z_X12_thrown_149 rfl rfl rfl (by decide +kernel) ⟨Nat.le_of_ble_eq_true rfl, Nat.le_of_ble_eq_true rfl⟩) ⟨fun a U g mk q => by obtain ⟨q0, q1, qP, qK, qD⟩ := q; exact ⟨q0, q1, qP, va_K.moved (u := U) (U := U.calling g mk a) (Vm.Alike.refl U.vm) qK, qD⟩, va_recv hK hP (ci := 15) (q0 := 1) rfl rfl, fun U hU hW => ⟨rfl, by rw [hU], by rw [hU]; exact hPc, va_K.moved hW.alike hKc, hDc.weaken (fun _ _ _ _ => trivial)⟩⟩ rfl rfl hl.1 rfl (lv_room (Nat.le_of_ble_eq_true rfl)) dL_law_2330 ⟨Nat.le_of_ble_eq_true rfl, Nat.le_of_ble_eq_true rfl⟩) hS (fun q _ h => hFc q h) hFc (fun r425 u t H1 locs ht hvm hw hB hz1 hk1 hS => ?_)
        obtain ⟨hP1, hK1, hD1⟩ := hB
        rw [ht] at hP1
        try dsimp only at hw
        obtain ⟨hP, hD⟩ := va_join (wr := [(qO, .inl (kO, 1, .inr (.inl f108))), (q_things, .inl (k_things, 5, .inl f_things))]) (w1 := [(aZ, .inr (15, s370))]) hP hD [1] [0, 2] rfl rfl (by decide) (by decide) hk1 hFc hP1 hD1
        have hK := hK.sub (tys' := [(kO, .long), (k_things, .int)]) [0, 1] rfl
        generalize H1 = H at hP hS ⊢
        have hP : va_P (dC, dI) vwCl [(qO, .inl (kO, 1, .inr (.inl f108))), (q_things, .inl (k_things, 5, .inl f_things)), (aZ, .inr (15, s370))] H := hP
        have hD : va_D A [(qO, .inl (kO, 1, .inr (.inl f108))), (q_things, .inl (k_things, 5, .inl f_things)), (aZ, .inr (15, s370))] := hD
        have er426 := hw
        subst er426
        refine lv_iload hx hb dL_law_2333 (lv_at hl 1 rfl) ?_
        refine lv_icmp_eq (tgt := 2340) hx hb dL_law_2335 (by decide) (fun c427 => ?_) (fun c427 => absurd c427 (by decide))
        refine lv_iload hx hb dL_law_2340 (lv_at hl 1 rfl) ?_
        refine lv_if_ne (tgt := 2357) hx hb dL_law_2342 (by decide) (fun c428 => ?_) (fun c428 => absurd c428 (by decide))
        refine lv_goto (tgt := 3111) hx hb dL_law_2357 (by decide) ?_
        exact lw_end hst C0 hA hAf hZ hY (Nat.le_of_ble_eq_true rfl) (Nat.le_of_ble_eq_true rfl) dC dI P0k P0 D0 hS ls (lv_sub hl [2, 6] rfl)
      · exact (by exfalso; (try simp only [i_lt, i_le, i_eq, kc_0, kc_4] at c120 c121 c387 c388); omega)
      · exact (by exfalso; (try simp only [i_lt, i_le, i_eq, kc_0, kc_4] at c120 c121 c393 c394); omega)
      · exact (by exfalso; (try simp only [i_lt, i_le, i_eq, kc_0, kc_4] at c120 c121 c402 c403); omega)
      · exact (by exfalso; (try simp only [i_lt, i_le, i_eq, kc_0, kc_4] at c120 c121 c411 c412); omega)
      · exact (by exfalso; (try simp only [i_lt, i_le, i_eq, kc_0, kc_4] at c120 c121 c420 c421); omega)
    · skip
      subst er128
      refine lv_istore (lv' := [(5, .int 1), (0, .ref b), (1, .ref aX), (2, .ref aZ), (3, .ref qO), (4, .int 0)]) hx hb dL_law_2303 hl (by decide) rfl (fun ls hl => ?_)
      refine lv_aload_n hx hb dL_law_2305 rfl (lv_at hl 3 rfl) ?_
      refine lv_aload_n hx hb dL_law_2306 rfl (lv_at hl 1 rfl) ?_
      refine lv_iload hx hb dL_law_2307 (lv_at hl 5 rfl) ?_
      refine lv_iconst (v := 1) hx hb dL_law_2309 (by decide) ?_
      refine lv_iadd hx hb dL_law_2310  ?_
      refine lv_topi (fun x429 ex429 => ?_)
      obtain rfl : x429 = 1 := ex429.trans (by decide)
      refine va_sld hx hb hX hbl hbA hS (show vp_in 1 6 from by unfold vp_in; decide) dL_law_2311 ?_
      refine lv_topi (fun x430 ex430 => ?_)
      obtain rfl : w1 = x430 := hw1.trans ex430.symm
      refine lv_aload_n hx hb dL_law_2312 rfl (lv_at hl 1 rfl) ?_
      refine lv_iload hx hb dL_law_2313 (lv_at hl 5 rfl) ?_
      refine lv_iconst (v := 2) hx hb dL_law_2315 (by decide) ?_
      refine lv_iadd hx hb dL_law_2316  ?_
      refine lv_topi (fun x431 ex431 => ?_)
      obtain rfl : x431 = 2 := ex431.trans (by decide)
      refine va_sld hx hb hX hbl hbA hS (show vp_in 2 6 from by unfold vp_in; decide) dL_law_2317 ?_
      refine lv_topi (fun x432 ex432 => ?_)
      obtain rfl : w2 = x432 := hw2.trans ex432.symm
      refine lv_aload_n hx hb dL_law_2318 rfl (lv_at hl 1 rfl) ?_
      refine lv_iload hx hb dL_law_2319 (lv_at hl 5 rfl) ?_
      refine lv_iconst (v := 3) hx hb dL_law_2321 (by decide) ?_
      refine lv_iadd hx hb dL_law_2322  ?_
      refine lv_topi (fun x433 ex433 => ?_)
      obtain rfl : x433 = 3 := ex433.trans (by decide)
      refine va_sld hx hb hX hbl hbA hS (show vp_in 3 6 from by unfold vp_in; decide) dL_law_2323 ?_
      refine lv_topi (fun x434 ex434 => ?_)
      obtain rfl : w3 = x434 := hw3.trans ex434.symm
      have hPc := hP.sub (ws' := [(aZ, .inr (15, fsZ)), (q_things, .inl (k_things, 5, .inl f_things))]) [0, 1] rfl
      have hDc := hD.sub (ws' := [(aZ, .inr (15, fsZ)), (q_things, .inl (k_things, 5, .inl f_things))]) [0, 1] (by decide) rfl
      have hKc := hK.sub (tys' := [(k_things, .int)]) [0] rfl
      have hFc := va_free (wc := [(aZ, .inr (15, fsZ)), (q_things, .inl (k_things, 5, .inl f_things))]) hD hS hA [0, 1] rfl
      refine va_calli (va_runV (As := [.int w1, .int w2, .int w3]) (rest := []) ⟨hx, hb, hml, hown, hts⟩ (z_X12_growth l dC dI H.size aZ fsZ q_things f_things k_things w1 w2 w3 (fh_sub o_fsZ.2 [0, 1, 2] rfl) hz_f_things) (cwV 3 hts g_lk_35b_z_X12_growth_263 rfl rfl rfl (by decide +kernel) ⟨Nat.le_of_ble_eq_true rfl, Nat.le_of_ble_eq_true rfl⟩) ⟨fun a U g mk q => by obtain ⟨q0, q1, qP, qK, qD⟩ := q; exact ⟨q0, q1, qP, va_K.moved (u := U) (U := U.calling g mk a) (Vm.Alike.refl U.vm) qK, qD⟩, va_recv hK hP (ci := 15) (q0 := 0) rfl rfl, fun U hU hW => ⟨rfl, by rw [hU], by rw [hU]; exact hPc, va_K.moved hW.alike hKc, hDc.weaken (fun _ _ _ _ => trivial)⟩⟩ rfl rfl hl.1 rfl (lv_room (Nat.le_of_ble_eq_true rfl)) dL_law_2324 ⟨Nat.le_of_ble_eq_true rfl, Nat.le_of_ble_eq_true rfl⟩) hS (fun q _ h => hFc q h) hFc (fun r435 u t H1 locs ht hvm hw hB hz1 hk1 hS => ?_)
      obtain ⟨s436, rfl⟩ : ∃ z, z = u := ⟨_, rfl⟩
      obtain ⟨hP1, hK1, hD1⟩ := hB
      rw [ht] at hP1
      try dsimp only at hw
      obtain ⟨hP, hD⟩ := va_join (wr := [(qO, .inl (kO, 1, .inr (.inl f108)))]) (w1 := [(aZ, .inr (15, s436)), (q_things, .inl (k_things, 5, .inl f_things))]) hP hD [0, 1] [2] rfl rfl (by decide) (by decide) hk1 hFc hP1 hD1
      have hK := hK.sub (tys' := [(kO, .long), (k_things, .int)]) [1, 0] rfl
      generalize H1 = H at hP hS ⊢
      have hP : va_P (dC, dI) vwCl [(qO, .inl (kO, 1, .inr (.inl f108))), (aZ, .inr (15, s436)), (q_things, .inl (k_things, 5, .inl f_things))] H := hP
      have hD : va_D A [(qO, .inl (kO, 1, .inr (.inl f108))), (aZ, .inr (15, s436)), (q_things, .inl (k_things, 5, .inl f_things))] := hD
      rcases hw with ⟨c437, er438, o_s436⟩ | ⟨c439, c440, er441, o_s436⟩ | ⟨c442, c443, c444, er445, o_s436⟩ | ⟨c446, c447, c448, c449, er450, o_s436⟩ | ⟨c451, c452, c453, c454, c455, er456, o_s436⟩ | ⟨c457, c458, c459, c460, c461, c462, c463, c464, er465, o_s436⟩ | ⟨c466, c467, c468, c469, c470, c471, c472, c473, er474, o_s436⟩ | ⟨c475, c476, c477, c478, c479, c480, c481, c482, er483, o_s436⟩ | ⟨c484, c485, c486, c487, c488, c489, er490, o_s436⟩
      · exact (by exfalso; (try simp only [i_lt, i_le, i_eq, kc_0, kc_4] at c123 c124 c437); omega)
      · exact (by exfalso; (try simp only [i_lt, i_le, i_eq, kc_0, kc_4] at c123 c124 c439 c440); omega)
      · exact (by exfalso; (try simp only [i_lt, i_le, i_eq, kc_0, kc_4] at c125 c126 c444); omega)
      · exact (by exfalso; (try simp only [i_lt, i_le, i_eq, kc_0, kc_4] at c125 c126 c448 c449); omega)
      · skip
        subst er456
        have o_s436 := ow_on o_fsZ o_s436 (l' := [(0, .int 1), (48, .ref q_things), (75, .int 0), (48, .ref q_things), (75, .int 0)]) (w' := [0]) rfl rfl
        refine lv_istore (lv' := [(6, .int 0), (5, .int 1), (0, .ref b), (1, .ref aX), (2, .ref aZ), (3, .ref qO), (4, .int 0)]) hx hb dL_law_2327 hl (by decide) rfl (fun ls hl => ?_)
        refine lv_aload_n hx hb dL_law_2329 rfl (lv_at hl 4 rfl) ?_
        have hPc := hP.sub (ws' := [(aZ, .inr (15, s436))]) [1] rfl
        have hDc := hD.sub (ws' := [(aZ, .inr (15, s436))]) [1] (by decide) rfl
        have hKc := hK.sub (tys' := []) [] rfl
        have hFc := va_free (wc := [(aZ, .inr (15, s436))]) hD hS hA [1] rfl
        refine va_calli (va_runV (As := []) (rest := []) ⟨hx, hb, hml, hown, hts⟩ (z_X12_thrown l dC dI H.size aZ s436 (fh_sub o_s436.2 [0] rfl) ) (cwV 0 hts g_lk_35b_z_X12_thrown_149 rfl rfl rfl (by decide +kernel) ⟨Nat.le_of_ble_eq_true rfl, Nat.le_of_ble_eq_true rfl⟩) ⟨fun a U g mk q => by obtain ⟨q0, q1, qP, qK, qD⟩ := q; exact ⟨q0, q1, qP, va_K.moved (u := U) (U := U.calling g mk a) (Vm.Alike.refl U.vm) qK, qD⟩, va_recv hK hP (ci := 15) (q0 := 1) rfl rfl, fun U hU hW => ⟨rfl, by rw [hU], by rw [hU]; exact hPc, va_K.moved hW.alike hKc, hDc.weaken (fun _ _ _ _ => trivial)⟩⟩ rfl rfl hl.1 rfl (lv_room (Nat.le_of_ble_eq_true rfl)) dL_law_2330 ⟨Nat.le_of_ble_eq_true rfl, Nat.le_of_ble_eq_true rfl⟩) hS (fun q _ h => hFc q h) hFc (fun r491 u t H1 locs ht hvm hw hB hz1 hk1 hS => ?_)
        obtain ⟨hP1, hK1, hD1⟩ := hB
        rw [ht] at hP1
        try dsimp only at hw
        obtain ⟨hP, hD⟩ := va_join (wr := [(qO, .inl (kO, 1, .inr (.inl f108))), (q_things, .inl (k_things, 5, .inl f_things))]) (w1 := [(aZ, .inr (15, s436))]) hP hD [1] [0, 2] rfl rfl (by decide) (by decide) hk1 hFc hP1 hD1
        have hK := hK.sub (tys' := [(kO, .long), (k_things, .int)]) [0, 1] rfl
        generalize H1 = H at hP hS ⊢
        have hP : va_P (dC, dI) vwCl [(qO, .inl (kO, 1, .inr (.inl f108))), (q_things, .inl (k_things, 5, .inl f_things)), (aZ, .inr (15, s436))] H := hP
        have hD : va_D A [(qO, .inl (kO, 1, .inr (.inl f108))), (q_things, .inl (k_things, 5, .inl f_things)), (aZ, .inr (15, s436))] := hD
        have er492 := hw
        subst er492
        refine lv_iload hx hb dL_law_2333 (lv_at hl 1 rfl) ?_
        refine lv_icmp_eq (tgt := 2340) hx hb dL_law_2335 (by decide) (fun c493 => ?_) (fun c493 => absurd c493 (by decide))
        refine lv_iload hx hb dL_law_2340 (lv_at hl 1 rfl) ?_
        refine lv_if_ne (tgt := 2357) hx hb dL_law_2342 (by decide) (fun c494 => ?_) (fun c494 => absurd c494 (by decide))
        refine lv_goto (tgt := 3111) hx hb dL_law_2357 (by decide) ?_
        exact lw_end hst C0 hA hAf hZ hY (Nat.le_of_ble_eq_true rfl) (Nat.le_of_ble_eq_true rfl) dC dI P0k P0 D0 hS ls (lv_sub hl [2, 6] rfl)
      · exact (by exfalso; (try simp only [i_lt, i_le, i_eq, kc_0, kc_2, kc_1] at c127 c461 c462 c463 c464); omega)
      · exact (by exfalso; (try simp only [i_lt, i_le, i_eq, kc_0, kc_2, kc_1] at c127 c470 c471 c472 c473); omega)
      · exact (by exfalso; (try simp only [i_lt, i_le, i_eq, kc_0, kc_2, kc_1] at c127 c479 c480 c481 c482); omega)
      · exact (by exfalso; (try simp only [i_lt, i_le, i_eq, kc_0, kc_2] at c127 c488 c489); omega)
    · skip
      subst er135
      refine lv_istore (lv' := [(5, .int 1), (0, .ref b), (1, .ref aX), (2, .ref aZ), (3, .ref qO), (4, .int 0)]) hx hb dL_law_2303 hl (by decide) rfl (fun ls hl => ?_)
      refine lv_aload_n hx hb dL_law_2305 rfl (lv_at hl 3 rfl) ?_
      refine lv_aload_n hx hb dL_law_2306 rfl (lv_at hl 1 rfl) ?_
      refine lv_iload hx hb dL_law_2307 (lv_at hl 5 rfl) ?_
      refine lv_iconst (v := 1) hx hb dL_law_2309 (by decide) ?_
      refine lv_iadd hx hb dL_law_2310  ?_
      refine lv_topi (fun x495 ex495 => ?_)
      obtain rfl : x495 = 1 := ex495.trans (by decide)
      refine va_sld hx hb hX hbl hbA hS (show vp_in 1 6 from by unfold vp_in; decide) dL_law_2311 ?_
      refine lv_topi (fun x496 ex496 => ?_)
      obtain rfl : w1 = x496 := hw1.trans ex496.symm
      refine lv_aload_n hx hb dL_law_2312 rfl (lv_at hl 1 rfl) ?_
      refine lv_iload hx hb dL_law_2313 (lv_at hl 5 rfl) ?_
      refine lv_iconst (v := 2) hx hb dL_law_2315 (by decide) ?_
      refine lv_iadd hx hb dL_law_2316  ?_
      refine lv_topi (fun x497 ex497 => ?_)
      obtain rfl : x497 = 2 := ex497.trans (by decide)
      refine va_sld hx hb hX hbl hbA hS (show vp_in 2 6 from by unfold vp_in; decide) dL_law_2317 ?_
      refine lv_topi (fun x498 ex498 => ?_)
      obtain rfl : w2 = x498 := hw2.trans ex498.symm
      refine lv_aload_n hx hb dL_law_2318 rfl (lv_at hl 1 rfl) ?_
      refine lv_iload hx hb dL_law_2319 (lv_at hl 5 rfl) ?_
      refine lv_iconst (v := 3) hx hb dL_law_2321 (by decide) ?_
      refine lv_iadd hx hb dL_law_2322  ?_
      refine lv_topi (fun x499 ex499 => ?_)
      obtain rfl : x499 = 3 := ex499.trans (by decide)
      refine va_sld hx hb hX hbl hbA hS (show vp_in 3 6 from by unfold vp_in; decide) dL_law_2323 ?_
      refine lv_topi (fun x500 ex500 => ?_)
      obtain rfl : w3 = x500 := hw3.trans ex500.symm
      have hPc := hP.sub (ws' := [(aZ, .inr (15, fsZ)), (q_things, .inl (k_things, 5, .inl f_things))]) [0, 1] rfl
      have hDc := hD.sub (ws' := [(aZ, .inr (15, fsZ)), (q_things, .inl (k_things, 5, .inl f_things))]) [0, 1] (by decide) rfl
      have hKc := hK.sub (tys' := [(k_things, .int)]) [0] rfl
      have hFc := va_free (wc := [(aZ, .inr (15, fsZ)), (q_things, .inl (k_things, 5, .inl f_things))]) hD hS hA [0, 1] rfl
      refine va_calli (va_runV (As := [.int w1, .int w2, .int w3]) (rest := []) ⟨hx, hb, hml, hown, hts⟩ (z_X12_growth l dC dI H.size aZ fsZ q_things f_things k_things w1 w2 w3 (fh_sub o_fsZ.2 [0, 1, 2] rfl) hz_f_things) (cwV 3 hts g_lk_35b_z_X12_growth_263 rfl rfl rfl (by decide +kernel) ⟨Nat.le_of_ble_eq_true rfl, Nat.le_of_ble_eq_true rfl⟩) ⟨fun a U g mk q => by obtain ⟨q0, q1, qP, qK, qD⟩ := q; exact ⟨q0, q1, qP, va_K.moved (u := U) (U := U.calling g mk a) (Vm.Alike.refl U.vm) qK, qD⟩, va_recv hK hP (ci := 15) (q0 := 0) rfl rfl, fun U hU hW => ⟨rfl, by rw [hU], by rw [hU]; exact hPc, va_K.moved hW.alike hKc, hDc.weaken (fun _ _ _ _ => trivial)⟩⟩ rfl rfl hl.1 rfl (lv_room (Nat.le_of_ble_eq_true rfl)) dL_law_2324 ⟨Nat.le_of_ble_eq_true rfl, Nat.le_of_ble_eq_true rfl⟩) hS (fun q _ h => hFc q h) hFc (fun r501 u t H1 locs ht hvm hw hB hz1 hk1 hS => ?_)
      obtain ⟨s502, rfl⟩ : ∃ z, z = u := ⟨_, rfl⟩
      obtain ⟨hP1, hK1, hD1⟩ := hB
      rw [ht] at hP1
      try dsimp only at hw
      obtain ⟨hP, hD⟩ := va_join (wr := [(qO, .inl (kO, 1, .inr (.inl f108)))]) (w1 := [(aZ, .inr (15, s502)), (q_things, .inl (k_things, 5, .inl f_things))]) hP hD [0, 1] [2] rfl rfl (by decide) (by decide) hk1 hFc hP1 hD1
      have hK := hK.sub (tys' := [(kO, .long), (k_things, .int)]) [1, 0] rfl
      generalize H1 = H at hP hS ⊢
      have hP : va_P (dC, dI) vwCl [(qO, .inl (kO, 1, .inr (.inl f108))), (aZ, .inr (15, s502)), (q_things, .inl (k_things, 5, .inl f_things))] H := hP
      have hD : va_D A [(qO, .inl (kO, 1, .inr (.inl f108))), (aZ, .inr (15, s502)), (q_things, .inl (k_things, 5, .inl f_things))] := hD
      rcases hw with ⟨c503, er504, o_s502⟩ | ⟨c505, c506, er507, o_s502⟩ | ⟨c508, c509, c510, er511, o_s502⟩ | ⟨c512, c513, c514, c515, er516, o_s502⟩ | ⟨c517, c518, c519, c520, c521, er522, o_s502⟩ | ⟨c523, c524, c525, c526, c527, c528, c529, c530, er531, o_s502⟩ | ⟨c532, c533, c534, c535, c536, c537, c538, c539, er540, o_s502⟩ | ⟨c541, c542, c543, c544, c545, c546, c547, c548, er549, o_s502⟩ | ⟨c550, c551, c552, c553, c554, c555, er556, o_s502⟩
      · exact (by exfalso; (try simp only [i_lt, i_le, i_eq, kc_0, kc_4] at c129 c130 c503); omega)
      · exact (by exfalso; (try simp only [i_lt, i_le, i_eq, kc_0, kc_4] at c129 c130 c505 c506); omega)
      · exact (by exfalso; (try simp only [i_lt, i_le, i_eq, kc_0, kc_4] at c131 c132 c510); omega)
      · exact (by exfalso; (try simp only [i_lt, i_le, i_eq, kc_0, kc_4] at c131 c132 c514 c515); omega)
      · exact (by exfalso; (try simp only [i_lt, i_le, i_eq, kc_0, kc_2] at c133 c134 c521); omega)
      · exact (by exfalso; (try simp only [i_lt, i_le, i_eq, kc_0, kc_2, kc_1] at c133 c134 c527 c528 c529 c530); omega)
      · exact (by exfalso; (try simp only [i_lt, i_le, i_eq, kc_0, kc_2, kc_1] at c133 c134 c536 c537 c538 c539); omega)
      · exact (by exfalso; (try simp only [i_lt, i_le, i_eq, kc_0, kc_2, kc_1] at c133 c134 c545 c546 c547 c548); omega)
      · skip
        subst er556
        have o_s502 := ow_on o_fsZ o_s502 (l' := [(0, .int 1), (48, .ref q_things), (75, .int 0), (48, .ref q_things), (75, .int 0)]) (w' := [0]) rfl rfl
        refine lv_istore (lv' := [(6, .int 0), (5, .int 1), (0, .ref b), (1, .ref aX), (2, .ref aZ), (3, .ref qO), (4, .int 0)]) hx hb dL_law_2327 hl (by decide) rfl (fun ls hl => ?_)
        refine lv_aload_n hx hb dL_law_2329 rfl (lv_at hl 4 rfl) ?_
        have hPc := hP.sub (ws' := [(aZ, .inr (15, s502))]) [1] rfl
        have hDc := hD.sub (ws' := [(aZ, .inr (15, s502))]) [1] (by decide) rfl
        have hKc := hK.sub (tys' := []) [] rfl
        have hFc := va_free (wc := [(aZ, .inr (15, s502))]) hD hS hA [1] rfl
        refine va_calli (va_runV (As := []) (rest := []) ⟨hx, hb, hml, hown, hts⟩ (z_X12_thrown l dC dI H.size aZ s502 (fh_sub o_s502.2 [0] rfl) ) (cwV 0 hts g_lk_35b_z_X12_thrown_149 rfl rfl rfl (by decide +kernel) ⟨Nat.le_of_ble_eq_true rfl, Nat.le_of_ble_eq_true rfl⟩) ⟨fun a U g mk q => by obtain ⟨q0, q1, qP, qK, qD⟩ := q; exact ⟨q0, q1, qP, va_K.moved (u := U) (U := U.calling g mk a) (Vm.Alike.refl U.vm) qK, qD⟩, va_recv hK hP (ci := 15) (q0 := 1) rfl rfl, fun U hU hW => ⟨rfl, by rw [hU], by rw [hU]; exact hPc, va_K.moved hW.alike hKc, hDc.weaken (fun _ _ _ _ => trivial)⟩⟩ rfl rfl hl.1 rfl (lv_room (Nat.le_of_ble_eq_true rfl)) dL_law_2330 ⟨Nat.le_of_ble_eq_true rfl, Nat.le_of_ble_eq_true rfl⟩) hS (fun q _ h => hFc q h) hFc (fun r557 u t H1 locs ht hvm hw hB hz1 hk1 hS => ?_)
        obtain ⟨hP1, hK1, hD1⟩ := hB
        rw [ht] at hP1
        try dsimp only at hw
        obtain ⟨hP, hD⟩ := va_join (wr := [(qO, .inl (kO, 1, .inr (.inl f108))), (q_things, .inl (k_things, 5, .inl f_things))]) (w1 := [(aZ, .inr (15, s502))]) hP hD [1] [0, 2] rfl rfl (by decide) (by decide) hk1 hFc hP1 hD1
        have hK := hK.sub (tys' := [(kO, .long), (k_things, .int)]) [0, 1] rfl
        generalize H1 = H at hP hS ⊢
        have hP : va_P (dC, dI) vwCl [(qO, .inl (kO, 1, .inr (.inl f108))), (q_things, .inl (k_things, 5, .inl f_things)), (aZ, .inr (15, s502))] H := hP
        have hD : va_D A [(qO, .inl (kO, 1, .inr (.inl f108))), (q_things, .inl (k_things, 5, .inl f_things)), (aZ, .inr (15, s502))] := hD
        have er558 := hw
        subst er558
        refine lv_iload hx hb dL_law_2333 (lv_at hl 1 rfl) ?_
        refine lv_icmp_eq (tgt := 2340) hx hb dL_law_2335 (by decide) (fun c559 => ?_) (fun c559 => absurd c559 (by decide))
        refine lv_iload hx hb dL_law_2340 (lv_at hl 1 rfl) ?_
        refine lv_if_ne (tgt := 2357) hx hb dL_law_2342 (by decide) (fun c560 => ?_) (fun c560 => absurd c560 (by decide))
        refine lv_goto (tgt := 3111) hx hb dL_law_2357 (by decide) ?_
        exact lw_end hst C0 hA hAf hZ hY (Nat.le_of_ble_eq_true rfl) (Nat.le_of_ble_eq_true rfl) dC dI P0k P0 D0 hS ls (lv_sub hl [2, 6] rfl)
    · skip
      subst er144
      refine lv_istore (lv' := [(5, .int 0), (0, .ref b), (1, .ref aX), (2, .ref aZ), (3, .ref qO), (4, .int 0)]) hx hb dL_law_2303 hl (by decide) rfl (fun ls hl => ?_)
      refine lv_aload_n hx hb dL_law_2305 rfl (lv_at hl 3 rfl) ?_
      refine lv_aload_n hx hb dL_law_2306 rfl (lv_at hl 1 rfl) ?_
      refine lv_iload hx hb dL_law_2307 (lv_at hl 5 rfl) ?_
      refine lv_iconst (v := 1) hx hb dL_law_2309 (by decide) ?_
      refine lv_iadd hx hb dL_law_2310  ?_
      refine lv_topi (fun x561 ex561 => ?_)
      obtain rfl : x561 = 1 := ex561.trans (by decide)
      refine va_sld hx hb hX hbl hbA hS (show vp_in 1 6 from by unfold vp_in; decide) dL_law_2311 ?_
      refine lv_topi (fun x562 ex562 => ?_)
      obtain rfl : w1 = x562 := hw1.trans ex562.symm
      refine lv_aload_n hx hb dL_law_2312 rfl (lv_at hl 1 rfl) ?_
      refine lv_iload hx hb dL_law_2313 (lv_at hl 5 rfl) ?_
      refine lv_iconst (v := 2) hx hb dL_law_2315 (by decide) ?_
      refine lv_iadd hx hb dL_law_2316  ?_
      refine lv_topi (fun x563 ex563 => ?_)
      obtain rfl : x563 = 2 := ex563.trans (by decide)
      refine va_sld hx hb hX hbl hbA hS (show vp_in 2 6 from by unfold vp_in; decide) dL_law_2317 ?_
      refine lv_topi (fun x564 ex564 => ?_)
      obtain rfl : w2 = x564 := hw2.trans ex564.symm
      refine lv_aload_n hx hb dL_law_2318 rfl (lv_at hl 1 rfl) ?_
      refine lv_iload hx hb dL_law_2319 (lv_at hl 5 rfl) ?_
      refine lv_iconst (v := 3) hx hb dL_law_2321 (by decide) ?_
      refine lv_iadd hx hb dL_law_2322  ?_
      refine lv_topi (fun x565 ex565 => ?_)
      obtain rfl : x565 = 3 := ex565.trans (by decide)
      refine va_sld hx hb hX hbl hbA hS (show vp_in 3 6 from by unfold vp_in; decide) dL_law_2323 ?_
      refine lv_topi (fun x566 ex566 => ?_)
      obtain rfl : w3 = x566 := hw3.trans ex566.symm
      have hPc := hP.sub (ws' := [(aZ, .inr (15, fsZ)), (q_things, .inl (k_things, 5, .inl f_things))]) [0, 1] rfl
      have hDc := hD.sub (ws' := [(aZ, .inr (15, fsZ)), (q_things, .inl (k_things, 5, .inl f_things))]) [0, 1] (by decide) rfl
      have hKc := hK.sub (tys' := [(k_things, .int)]) [0] rfl
      have hFc := va_free (wc := [(aZ, .inr (15, fsZ)), (q_things, .inl (k_things, 5, .inl f_things))]) hD hS hA [0, 1] rfl
      refine va_calli (va_runV (As := [.int w1, .int w2, .int w3]) (rest := []) ⟨hx, hb, hml, hown, hts⟩ (z_X12_growth l dC dI H.size aZ fsZ q_things f_things k_things w1 w2 w3 (fh_sub o_fsZ.2 [0, 1, 2] rfl) hz_f_things) (cwV 3 hts g_lk_35b_z_X12_growth_263 rfl rfl rfl (by decide +kernel) ⟨Nat.le_of_ble_eq_true rfl, Nat.le_of_ble_eq_true rfl⟩) ⟨fun a U g mk q => by obtain ⟨q0, q1, qP, qK, qD⟩ := q; exact ⟨q0, q1, qP, va_K.moved (u := U) (U := U.calling g mk a) (Vm.Alike.refl U.vm) qK, qD⟩, va_recv hK hP (ci := 15) (q0 := 0) rfl rfl, fun U hU hW => ⟨rfl, by rw [hU], by rw [hU]; exact hPc, va_K.moved hW.alike hKc, hDc.weaken (fun _ _ _ _ => trivial)⟩⟩ rfl rfl hl.1 rfl (lv_room (Nat.le_of_ble_eq_true rfl)) dL_law_2324 ⟨Nat.le_of_ble_eq_true rfl, Nat.le_of_ble_eq_true rfl⟩) hS (fun q _ h => hFc q h) hFc (fun r567 u t H1 locs ht hvm hw hB hz1 hk1 hS => ?_)
      obtain ⟨s568, rfl⟩ : ∃ z, z = u := ⟨_, rfl⟩
      obtain ⟨hP1, hK1, hD1⟩ := hB
      rw [ht] at hP1
      try dsimp only at hw
      obtain ⟨hP, hD⟩ := va_join (wr := [(qO, .inl (kO, 1, .inr (.inl f108)))]) (w1 := [(aZ, .inr (15, s568)), (q_things, .inl (k_things, 5, .inl f_things))]) hP hD [0, 1] [2] rfl rfl (by decide) (by decide) hk1 hFc hP1 hD1
      have hK := hK.sub (tys' := [(kO, .long), (k_things, .int)]) [1, 0] rfl
      generalize H1 = H at hP hS ⊢
      have hP : va_P (dC, dI) vwCl [(qO, .inl (kO, 1, .inr (.inl f108))), (aZ, .inr (15, s568)), (q_things, .inl (k_things, 5, .inl f_things))] H := hP
      have hD : va_D A [(qO, .inl (kO, 1, .inr (.inl f108))), (aZ, .inr (15, s568)), (q_things, .inl (k_things, 5, .inl f_things))] := hD
      rcases hw with ⟨c569, er570, o_s568⟩ | ⟨c571, c572, er573, o_s568⟩ | ⟨c574, c575, c576, er577, o_s568⟩ | ⟨c578, c579, c580, c581, er582, o_s568⟩ | ⟨c583, c584, c585, c586, c587, er588, o_s568⟩ | ⟨c589, c590, c591, c592, c593, c594, c595, c596, er597, o_s568⟩ | ⟨c598, c599, c600, c601, c602, c603, c604, c605, er606, o_s568⟩ | ⟨c607, c608, c609, c610, c611, c612, c613, c614, er615, o_s568⟩ | ⟨c616, c617, c618, c619, c620, c621, er622, o_s568⟩
      · exact (by exfalso; (try simp only [i_lt, i_le, i_eq, kc_0, kc_4] at c136 c137 c569); omega)
      · exact (by exfalso; (try simp only [i_lt, i_le, i_eq, kc_0, kc_4] at c136 c137 c571 c572); omega)
      · exact (by exfalso; (try simp only [i_lt, i_le, i_eq, kc_0, kc_4] at c138 c139 c576); omega)
      · exact (by exfalso; (try simp only [i_lt, i_le, i_eq, kc_0, kc_4] at c138 c139 c580 c581); omega)
      · exact (by exfalso; (try simp only [i_lt, i_le, i_eq, kc_0, kc_2, kc_1] at c140 c141 c142 c143 c587); omega)
      · skip
        subst er597
        have o_s568 := ow_on o_fsZ o_s568 (l' := [(75, .int 0), (0, .int 0), (48, .ref q_things), (48, .ref q_things)]) (w' := [75, 0]) rfl rfl
        refine lv_istore (lv' := [(6, .int 0), (5, .int 0), (0, .ref b), (1, .ref aX), (2, .ref aZ), (3, .ref qO), (4, .int 0)]) hx hb dL_law_2327 hl (by decide) rfl (fun ls hl => ?_)
        refine lv_aload_n hx hb dL_law_2329 rfl (lv_at hl 4 rfl) ?_
        have hPc := hP.sub (ws' := [(aZ, .inr (15, s568))]) [1] rfl
        have hDc := hD.sub (ws' := [(aZ, .inr (15, s568))]) [1] (by decide) rfl
        have hKc := hK.sub (tys' := []) [] rfl
        have hFc := va_free (wc := [(aZ, .inr (15, s568))]) hD hS hA [1] rfl
        refine va_calli (va_runV (As := []) (rest := []) ⟨hx, hb, hml, hown, hts⟩ (z_X12_thrown_2 l dC dI H.size aZ s568 (fh_sub o_s568.2 [1] rfl) ) (cwV 0 hts g_lk_35b_z_X12_thrown_2_149 rfl rfl rfl (by decide +kernel) ⟨Nat.le_of_ble_eq_true rfl, Nat.le_of_ble_eq_true rfl⟩) ⟨fun a U g mk q => by obtain ⟨q0, q1, qP, qK, qD⟩ := q; exact ⟨q0, q1, qP, va_K.moved (u := U) (U := U.calling g mk a) (Vm.Alike.refl U.vm) qK, qD⟩, va_recv hK hP (ci := 15) (q0 := 1) rfl rfl, fun U hU hW => ⟨rfl, by rw [hU], by rw [hU]; exact hPc, va_K.moved hW.alike hKc, hDc.weaken (fun _ _ _ _ => trivial)⟩⟩ rfl rfl hl.1 rfl (lv_room (Nat.le_of_ble_eq_true rfl)) dL_law_2330 ⟨Nat.le_of_ble_eq_true rfl, Nat.le_of_ble_eq_true rfl⟩) hS (fun q _ h => hFc q h) hFc (fun r623 u t H1 locs ht hvm hw hB hz1 hk1 hS => ?_)
        obtain ⟨hP1, hK1, hD1⟩ := hB
        rw [ht] at hP1
        try dsimp only at hw
        obtain ⟨hP, hD⟩ := va_join (wr := [(qO, .inl (kO, 1, .inr (.inl f108))), (q_things, .inl (k_things, 5, .inl f_things))]) (w1 := [(aZ, .inr (15, s568))]) hP hD [1] [0, 2] rfl rfl (by decide) (by decide) hk1 hFc hP1 hD1
        have hK := hK.sub (tys' := [(kO, .long), (k_things, .int)]) [0, 1] rfl
        generalize H1 = H at hP hS ⊢
        have hP : va_P (dC, dI) vwCl [(qO, .inl (kO, 1, .inr (.inl f108))), (q_things, .inl (k_things, 5, .inl f_things)), (aZ, .inr (15, s568))] H := hP
        have hD : va_D A [(qO, .inl (kO, 1, .inr (.inl f108))), (q_things, .inl (k_things, 5, .inl f_things)), (aZ, .inr (15, s568))] := hD
        have er624 := hw
        subst er624
        refine lv_iload hx hb dL_law_2333 (lv_at hl 1 rfl) ?_
        refine lv_icmp_eq (tgt := 2340) hx hb dL_law_2335 (by decide) (fun c625 => ?_) (fun c625 => absurd c625 (by decide))
        refine lv_iload hx hb dL_law_2340 (lv_at hl 1 rfl) ?_
        refine lv_if_ne (tgt := 2357) hx hb dL_law_2342 (by decide) (fun c626 => absurd c626 (by decide)) (fun c626 => ?_)
        refine lv_aload_n hx hb dL_law_2345 rfl (lv_at hl 5 rfl) ?_
        refine lv_iconst (v := 0) hx hb dL_law_2346 (by decide) ?_
        refine va_lald hx hb hK hP 0 0 rfl rfl (show vp_in 0 1 from by unfold vp_in; decide) dL_law_2347 ?_
        refine lv_topl (fun x627 ex627 => ?_)
        obtain rfl : 0 = x627 := (ex627.trans q145).symm
        refine lv_iload hx hb dL_law_2348 (lv_at hl 0 rfl) ?_
        refine lv_i2l hx hb dL_law_2350 rfl ?_
        refine lv_topl (fun x628 ex628 => ?_)
        obtain rfl : x628 = 0 := ex628.trans (by decide)
        refine W.lcmp hx hb dL_law_2351  ?_
        refine lv_topi (fun x629 ex629 => ?_)
        obtain rfl : x629 = 0 := ex629.trans (by decide)
        refine lv_if_eq (tgt := 2357) hx hb dL_law_2352 (by decide) (fun c630 => ?_) (fun c630 => absurd c630 (by decide))
        refine lv_goto (tgt := 3111) hx hb dL_law_2357 (by decide) ?_
        exact lw_end hst C0 hA hAf hZ hY (Nat.le_of_ble_eq_true rfl) (Nat.le_of_ble_eq_true rfl) dC dI P0k P0 D0 hS ls (lv_sub hl [2, 6] rfl)
      · exact (by exfalso; (try simp only [i_lt, i_le, i_eq, kc_0, kc_2, kc_1] at c140 c141 c142 c143 c602 c603 c604 c605); omega)
      · exact (by exfalso; (try simp only [i_lt, i_le, i_eq, kc_0, kc_2, kc_1] at c140 c141 c142 c143 c611 c612 c613 c614); omega)
      · exact (by exfalso; (try simp only [i_lt, i_le, i_eq, kc_0, kc_2, kc_1] at c140 c141 c142 c143 c620 c621); omega)
    · skip
      subst er154
      refine lv_istore (lv' := [(5, .int 0), (0, .ref b), (1, .ref aX), (2, .ref aZ), (3, .ref qO), (4, .int 0)]) hx hb dL_law_2303 hl (by decide) rfl (fun ls hl => ?_)
      refine lv_aload_n hx hb dL_law_2305 rfl (lv_at hl 3 rfl) ?_
      refine lv_aload_n hx hb dL_law_2306 rfl (lv_at hl 1 rfl) ?_
      refine lv_iload hx hb dL_law_2307 (lv_at hl 5 rfl) ?_
      refine lv_iconst (v := 1) hx hb dL_law_2309 (by decide) ?_
      refine lv_iadd hx hb dL_law_2310  ?_
      refine lv_topi (fun x631 ex631 => ?_)
      obtain rfl : x631 = 1 := ex631.trans (by decide)
      refine va_sld hx hb hX hbl hbA hS (show vp_in 1 6 from by unfold vp_in; decide) dL_law_2311 ?_
      refine lv_topi (fun x632 ex632 => ?_)
      obtain rfl : w1 = x632 := hw1.trans ex632.symm
      refine lv_aload_n hx hb dL_law_2312 rfl (lv_at hl 1 rfl) ?_
      refine lv_iload hx hb dL_law_2313 (lv_at hl 5 rfl) ?_
      refine lv_iconst (v := 2) hx hb dL_law_2315 (by decide) ?_
      refine lv_iadd hx hb dL_law_2316  ?_
      refine lv_topi (fun x633 ex633 => ?_)
      obtain rfl : x633 = 2 := ex633.trans (by decide)
      refine va_sld hx hb hX hbl hbA hS (show vp_in 2 6 from by unfold vp_in; decide) dL_law_2317 ?_
      refine lv_topi (fun x634 ex634 => ?_)
      obtain rfl : w2 = x634 := hw2.trans ex634.symm
      refine lv_aload_n hx hb dL_law_2318 rfl (lv_at hl 1 rfl) ?_
      refine lv_iload hx hb dL_law_2319 (lv_at hl 5 rfl) ?_
      refine lv_iconst (v := 3) hx hb dL_law_2321 (by decide) ?_
      refine lv_iadd hx hb dL_law_2322  ?_
      refine lv_topi (fun x635 ex635 => ?_)
      obtain rfl : x635 = 3 := ex635.trans (by decide)
      refine va_sld hx hb hX hbl hbA hS (show vp_in 3 6 from by unfold vp_in; decide) dL_law_2323 ?_
      refine lv_topi (fun x636 ex636 => ?_)
      obtain rfl : w3 = x636 := hw3.trans ex636.symm
      have hPc := hP.sub (ws' := [(aZ, .inr (15, fsZ)), (q_things, .inl (k_things, 5, .inl f_things))]) [0, 1] rfl
      have hDc := hD.sub (ws' := [(aZ, .inr (15, fsZ)), (q_things, .inl (k_things, 5, .inl f_things))]) [0, 1] (by decide) rfl
      have hKc := hK.sub (tys' := [(k_things, .int)]) [0] rfl
      have hFc := va_free (wc := [(aZ, .inr (15, fsZ)), (q_things, .inl (k_things, 5, .inl f_things))]) hD hS hA [0, 1] rfl
      refine va_calli (va_runV (As := [.int w1, .int w2, .int w3]) (rest := []) ⟨hx, hb, hml, hown, hts⟩ (z_X12_growth l dC dI H.size aZ fsZ q_things f_things k_things w1 w2 w3 (fh_sub o_fsZ.2 [0, 1, 2] rfl) hz_f_things) (cwV 3 hts g_lk_35b_z_X12_growth_263 rfl rfl rfl (by decide +kernel) ⟨Nat.le_of_ble_eq_true rfl, Nat.le_of_ble_eq_true rfl⟩) ⟨fun a U g mk q => by obtain ⟨q0, q1, qP, qK, qD⟩ := q; exact ⟨q0, q1, qP, va_K.moved (u := U) (U := U.calling g mk a) (Vm.Alike.refl U.vm) qK, qD⟩, va_recv hK hP (ci := 15) (q0 := 0) rfl rfl, fun U hU hW => ⟨rfl, by rw [hU], by rw [hU]; exact hPc, va_K.moved hW.alike hKc, hDc.weaken (fun _ _ _ _ => trivial)⟩⟩ rfl rfl hl.1 rfl (lv_room (Nat.le_of_ble_eq_true rfl)) dL_law_2324 ⟨Nat.le_of_ble_eq_true rfl, Nat.le_of_ble_eq_true rfl⟩) hS (fun q _ h => hFc q h) hFc (fun r637 u t H1 locs ht hvm hw hB hz1 hk1 hS => ?_)
      obtain ⟨s638, rfl⟩ : ∃ z, z = u := ⟨_, rfl⟩
      obtain ⟨hP1, hK1, hD1⟩ := hB
      rw [ht] at hP1
      try dsimp only at hw
      obtain ⟨hP, hD⟩ := va_join (wr := [(qO, .inl (kO, 1, .inr (.inl f108)))]) (w1 := [(aZ, .inr (15, s638)), (q_things, .inl (k_things, 5, .inl f_things))]) hP hD [0, 1] [2] rfl rfl (by decide) (by decide) hk1 hFc hP1 hD1
      have hK := hK.sub (tys' := [(kO, .long), (k_things, .int)]) [1, 0] rfl
      generalize H1 = H at hP hS ⊢
      have hP : va_P (dC, dI) vwCl [(qO, .inl (kO, 1, .inr (.inl f108))), (aZ, .inr (15, s638)), (q_things, .inl (k_things, 5, .inl f_things))] H := hP
      have hD : va_D A [(qO, .inl (kO, 1, .inr (.inl f108))), (aZ, .inr (15, s638)), (q_things, .inl (k_things, 5, .inl f_things))] := hD
      rcases hw with ⟨c639, er640, o_s638⟩ | ⟨c641, c642, er643, o_s638⟩ | ⟨c644, c645, c646, er647, o_s638⟩ | ⟨c648, c649, c650, c651, er652, o_s638⟩ | ⟨c653, c654, c655, c656, c657, er658, o_s638⟩ | ⟨c659, c660, c661, c662, c663, c664, c665, c666, er667, o_s638⟩ | ⟨c668, c669, c670, c671, c672, c673, c674, c675, er676, o_s638⟩ | ⟨c677, c678, c679, c680, c681, c682, c683, c684, er685, o_s638⟩ | ⟨c686, c687, c688, c689, c690, c691, er692, o_s638⟩
      · exact (by exfalso; (try simp only [i_lt, i_le, i_eq, kc_0, kc_4] at c146 c147 c639); omega)
      · exact (by exfalso; (try simp only [i_lt, i_le, i_eq, kc_0, kc_4] at c146 c147 c641 c642); omega)
      · exact (by exfalso; (try simp only [i_lt, i_le, i_eq, kc_0, kc_4] at c148 c149 c646); omega)
      · exact (by exfalso; (try simp only [i_lt, i_le, i_eq, kc_0, kc_4] at c148 c149 c650 c651); omega)
      · exact (by exfalso; (try simp only [i_lt, i_le, i_eq, kc_0, kc_2, kc_1] at c150 c151 c152 c153 c657); omega)
      · exact (by exfalso; (try simp only [i_lt, i_le, i_eq, kc_0, kc_2, kc_1] at c150 c151 c152 c153 c663 c664 c665 c666); omega)
      · exact (by exfalso; (try simp only [i_lt, i_le, i_eq, kc_0, kc_2, kc_1] at c150 c151 c152 c153 c672 c673 c674 c675); omega)
      · skip
        subst er685
        have o_s638 := ow_on o_fsZ o_s638 (l' := [(75, .int 0), (0, .int 0), (48, .ref q_things), (48, .ref q_things)]) (w' := [75, 0]) rfl rfl
        refine lv_istore (lv' := [(6, .int 0), (5, .int 0), (0, .ref b), (1, .ref aX), (2, .ref aZ), (3, .ref qO), (4, .int 0)]) hx hb dL_law_2327 hl (by decide) rfl (fun ls hl => ?_)
        refine lv_aload_n hx hb dL_law_2329 rfl (lv_at hl 4 rfl) ?_
        have hPc := hP.sub (ws' := [(aZ, .inr (15, s638))]) [1] rfl
        have hDc := hD.sub (ws' := [(aZ, .inr (15, s638))]) [1] (by decide) rfl
        have hKc := hK.sub (tys' := []) [] rfl
        have hFc := va_free (wc := [(aZ, .inr (15, s638))]) hD hS hA [1] rfl
        refine va_calli (va_runV (As := []) (rest := []) ⟨hx, hb, hml, hown, hts⟩ (z_X12_thrown_2 l dC dI H.size aZ s638 (fh_sub o_s638.2 [1] rfl) ) (cwV 0 hts g_lk_35b_z_X12_thrown_2_149 rfl rfl rfl (by decide +kernel) ⟨Nat.le_of_ble_eq_true rfl, Nat.le_of_ble_eq_true rfl⟩) ⟨fun a U g mk q => by obtain ⟨q0, q1, qP, qK, qD⟩ := q; exact ⟨q0, q1, qP, va_K.moved (u := U) (U := U.calling g mk a) (Vm.Alike.refl U.vm) qK, qD⟩, va_recv hK hP (ci := 15) (q0 := 1) rfl rfl, fun U hU hW => ⟨rfl, by rw [hU], by rw [hU]; exact hPc, va_K.moved hW.alike hKc, hDc.weaken (fun _ _ _ _ => trivial)⟩⟩ rfl rfl hl.1 rfl (lv_room (Nat.le_of_ble_eq_true rfl)) dL_law_2330 ⟨Nat.le_of_ble_eq_true rfl, Nat.le_of_ble_eq_true rfl⟩) hS (fun q _ h => hFc q h) hFc (fun r693 u t H1 locs ht hvm hw hB hz1 hk1 hS => ?_)
        obtain ⟨hP1, hK1, hD1⟩ := hB
        rw [ht] at hP1
        try dsimp only at hw
        obtain ⟨hP, hD⟩ := va_join (wr := [(qO, .inl (kO, 1, .inr (.inl f108))), (q_things, .inl (k_things, 5, .inl f_things))]) (w1 := [(aZ, .inr (15, s638))]) hP hD [1] [0, 2] rfl rfl (by decide) (by decide) hk1 hFc hP1 hD1
        have hK := hK.sub (tys' := [(kO, .long), (k_things, .int)]) [0, 1] rfl
        generalize H1 = H at hP hS ⊢
        have hP : va_P (dC, dI) vwCl [(qO, .inl (kO, 1, .inr (.inl f108))), (q_things, .inl (k_things, 5, .inl f_things)), (aZ, .inr (15, s638))] H := hP
        have hD : va_D A [(qO, .inl (kO, 1, .inr (.inl f108))), (q_things, .inl (k_things, 5, .inl f_things)), (aZ, .inr (15, s638))] := hD
        have er694 := hw
        subst er694
        refine lv_iload hx hb dL_law_2333 (lv_at hl 1 rfl) ?_
        refine lv_icmp_eq (tgt := 2340) hx hb dL_law_2335 (by decide) (fun c695 => ?_) (fun c695 => absurd c695 (by decide))
        refine lv_iload hx hb dL_law_2340 (lv_at hl 1 rfl) ?_
        refine lv_if_ne (tgt := 2357) hx hb dL_law_2342 (by decide) (fun c696 => absurd c696 (by decide)) (fun c696 => ?_)
        refine lv_aload_n hx hb dL_law_2345 rfl (lv_at hl 5 rfl) ?_
        refine lv_iconst (v := 0) hx hb dL_law_2346 (by decide) ?_
        refine va_lald hx hb hK hP 0 0 rfl rfl (show vp_in 0 1 from by unfold vp_in; decide) dL_law_2347 ?_
        refine lv_topl (fun x697 ex697 => ?_)
        obtain rfl : 0 = x697 := (ex697.trans q155).symm
        refine lv_iload hx hb dL_law_2348 (lv_at hl 0 rfl) ?_
        refine lv_i2l hx hb dL_law_2350 rfl ?_
        refine lv_topl (fun x698 ex698 => ?_)
        obtain rfl : x698 = 0 := ex698.trans (by decide)
        refine W.lcmp hx hb dL_law_2351  ?_
        refine lv_topi (fun x699 ex699 => ?_)
        obtain rfl : x699 = 0 := ex699.trans (by decide)
        refine lv_if_eq (tgt := 2357) hx hb dL_law_2352 (by decide) (fun c700 => ?_) (fun c700 => absurd c700 (by decide))
        refine lv_goto (tgt := 3111) hx hb dL_law_2357 (by decide) ?_
        exact lw_end hst C0 hA hAf hZ hY (Nat.le_of_ble_eq_true rfl) (Nat.le_of_ble_eq_true rfl) dC dI P0k P0 D0 hS ls (lv_sub hl [2, 6] rfl)
      · exact (by exfalso; (try simp only [i_lt, i_le, i_eq, kc_0, kc_2, kc_1] at c150 c151 c152 c153 c690 c691); omega)
    · skip
      subst er163
      refine lv_istore (lv' := [(5, .int 0), (0, .ref b), (1, .ref aX), (2, .ref aZ), (3, .ref qO), (4, .int 0)]) hx hb dL_law_2303 hl (by decide) rfl (fun ls hl => ?_)
      refine lv_aload_n hx hb dL_law_2305 rfl (lv_at hl 3 rfl) ?_
      refine lv_aload_n hx hb dL_law_2306 rfl (lv_at hl 1 rfl) ?_
      refine lv_iload hx hb dL_law_2307 (lv_at hl 5 rfl) ?_
      refine lv_iconst (v := 1) hx hb dL_law_2309 (by decide) ?_
      refine lv_iadd hx hb dL_law_2310  ?_
      refine lv_topi (fun x701 ex701 => ?_)
      obtain rfl : x701 = 1 := ex701.trans (by decide)
      refine va_sld hx hb hX hbl hbA hS (show vp_in 1 6 from by unfold vp_in; decide) dL_law_2311 ?_
      refine lv_topi (fun x702 ex702 => ?_)
      obtain rfl : w1 = x702 := hw1.trans ex702.symm
      refine lv_aload_n hx hb dL_law_2312 rfl (lv_at hl 1 rfl) ?_
      refine lv_iload hx hb dL_law_2313 (lv_at hl 5 rfl) ?_
      refine lv_iconst (v := 2) hx hb dL_law_2315 (by decide) ?_
      refine lv_iadd hx hb dL_law_2316  ?_
      refine lv_topi (fun x703 ex703 => ?_)
      obtain rfl : x703 = 2 := ex703.trans (by decide)
      refine va_sld hx hb hX hbl hbA hS (show vp_in 2 6 from by unfold vp_in; decide) dL_law_2317 ?_
      refine lv_topi (fun x704 ex704 => ?_)
      obtain rfl : w2 = x704 := hw2.trans ex704.symm
      refine lv_aload_n hx hb dL_law_2318 rfl (lv_at hl 1 rfl) ?_
      refine lv_iload hx hb dL_law_2319 (lv_at hl 5 rfl) ?_
      refine lv_iconst (v := 3) hx hb dL_law_2321 (by decide) ?_
      refine lv_iadd hx hb dL_law_2322  ?_
      refine lv_topi (fun x705 ex705 => ?_)
      obtain rfl : x705 = 3 := ex705.trans (by decide)
      refine va_sld hx hb hX hbl hbA hS (show vp_in 3 6 from by unfold vp_in; decide) dL_law_2323 ?_
      refine lv_topi (fun x706 ex706 => ?_)
      obtain rfl : w3 = x706 := hw3.trans ex706.symm
      have hPc := hP.sub (ws' := [(aZ, .inr (15, fsZ)), (q_things, .inl (k_things, 5, .inl f_things))]) [0, 1] rfl
      have hDc := hD.sub (ws' := [(aZ, .inr (15, fsZ)), (q_things, .inl (k_things, 5, .inl f_things))]) [0, 1] (by decide) rfl
      have hKc := hK.sub (tys' := [(k_things, .int)]) [0] rfl
      have hFc := va_free (wc := [(aZ, .inr (15, fsZ)), (q_things, .inl (k_things, 5, .inl f_things))]) hD hS hA [0, 1] rfl
      refine va_calli (va_runV (As := [.int w1, .int w2, .int w3]) (rest := []) ⟨hx, hb, hml, hown, hts⟩ (z_X12_growth l dC dI H.size aZ fsZ q_things f_things k_things w1 w2 w3 (fh_sub o_fsZ.2 [0, 1, 2] rfl) hz_f_things) (cwV 3 hts g_lk_35b_z_X12_growth_263 rfl rfl rfl (by decide +kernel) ⟨Nat.le_of_ble_eq_true rfl, Nat.le_of_ble_eq_true rfl⟩) ⟨fun a U g mk q => by obtain ⟨q0, q1, qP, qK, qD⟩ := q; exact ⟨q0, q1, qP, va_K.moved (u := U) (U := U.calling g mk a) (Vm.Alike.refl U.vm) qK, qD⟩, va_recv hK hP (ci := 15) (q0 := 0) rfl rfl, fun U hU hW => ⟨rfl, by rw [hU], by rw [hU]; exact hPc, va_K.moved hW.alike hKc, hDc.weaken (fun _ _ _ _ => trivial)⟩⟩ rfl rfl hl.1 rfl (lv_room (Nat.le_of_ble_eq_true rfl)) dL_law_2324 ⟨Nat.le_of_ble_eq_true rfl, Nat.le_of_ble_eq_true rfl⟩) hS (fun q _ h => hFc q h) hFc (fun r707 u t H1 locs ht hvm hw hB hz1 hk1 hS => ?_)
      obtain ⟨s708, rfl⟩ : ∃ z, z = u := ⟨_, rfl⟩
      obtain ⟨hP1, hK1, hD1⟩ := hB
      rw [ht] at hP1
      try dsimp only at hw
      obtain ⟨hP, hD⟩ := va_join (wr := [(qO, .inl (kO, 1, .inr (.inl f108)))]) (w1 := [(aZ, .inr (15, s708)), (q_things, .inl (k_things, 5, .inl f_things))]) hP hD [0, 1] [2] rfl rfl (by decide) (by decide) hk1 hFc hP1 hD1
      have hK := hK.sub (tys' := [(kO, .long), (k_things, .int)]) [1, 0] rfl
      generalize H1 = H at hP hS ⊢
      have hP : va_P (dC, dI) vwCl [(qO, .inl (kO, 1, .inr (.inl f108))), (aZ, .inr (15, s708)), (q_things, .inl (k_things, 5, .inl f_things))] H := hP
      have hD : va_D A [(qO, .inl (kO, 1, .inr (.inl f108))), (aZ, .inr (15, s708)), (q_things, .inl (k_things, 5, .inl f_things))] := hD
      rcases hw with ⟨c709, er710, o_s708⟩ | ⟨c711, c712, er713, o_s708⟩ | ⟨c714, c715, c716, er717, o_s708⟩ | ⟨c718, c719, c720, c721, er722, o_s708⟩ | ⟨c723, c724, c725, c726, c727, er728, o_s708⟩ | ⟨c729, c730, c731, c732, c733, c734, c735, c736, er737, o_s708⟩ | ⟨c738, c739, c740, c741, c742, c743, c744, c745, er746, o_s708⟩ | ⟨c747, c748, c749, c750, c751, c752, c753, c754, er755, o_s708⟩ | ⟨c756, c757, c758, c759, c760, c761, er762, o_s708⟩
      · exact (by exfalso; (try simp only [i_lt, i_le, i_eq, kc_0, kc_4] at c156 c157 c709); omega)
      · exact (by exfalso; (try simp only [i_lt, i_le, i_eq, kc_0, kc_4] at c156 c157 c711 c712); omega)
      · exact (by exfalso; (try simp only [i_lt, i_le, i_eq, kc_0, kc_4] at c158 c159 c716); omega)
      · exact (by exfalso; (try simp only [i_lt, i_le, i_eq, kc_0, kc_4] at c158 c159 c720 c721); omega)
      · exact (by exfalso; (try simp only [i_lt, i_le, i_eq, kc_0, kc_2] at c160 c161 c162 c727); omega)
      · skip
        subst er737
        have o_s708 := ow_on o_fsZ o_s708 (l' := [(75, .int 0), (0, .int 0), (48, .ref q_things), (48, .ref q_things)]) (w' := [75, 0]) rfl rfl
        refine lv_istore (lv' := [(6, .int 0), (5, .int 0), (0, .ref b), (1, .ref aX), (2, .ref aZ), (3, .ref qO), (4, .int 0)]) hx hb dL_law_2327 hl (by decide) rfl (fun ls hl => ?_)
        refine lv_aload_n hx hb dL_law_2329 rfl (lv_at hl 4 rfl) ?_
        have hPc := hP.sub (ws' := [(aZ, .inr (15, s708))]) [1] rfl
        have hDc := hD.sub (ws' := [(aZ, .inr (15, s708))]) [1] (by decide) rfl
        have hKc := hK.sub (tys' := []) [] rfl
        have hFc := va_free (wc := [(aZ, .inr (15, s708))]) hD hS hA [1] rfl
        refine va_calli (va_runV (As := []) (rest := []) ⟨hx, hb, hml, hown, hts⟩ (z_X12_thrown_2 l dC dI H.size aZ s708 (fh_sub o_s708.2 [1] rfl) ) (cwV 0 hts g_lk_35b_z_X12_thrown_2_149 rfl rfl rfl (by decide +kernel) ⟨Nat.le_of_ble_eq_true rfl, Nat.le_of_ble_eq_true rfl⟩) ⟨fun a U g mk q => by obtain ⟨q0, q1, qP, qK, qD⟩ := q; exact ⟨q0, q1, qP, va_K.moved (u := U) (U := U.calling g mk a) (Vm.Alike.refl U.vm) qK, qD⟩, va_recv hK hP (ci := 15) (q0 := 1) rfl rfl, fun U hU hW => ⟨rfl, by rw [hU], by rw [hU]; exact hPc, va_K.moved hW.alike hKc, hDc.weaken (fun _ _ _ _ => trivial)⟩⟩ rfl rfl hl.1 rfl (lv_room (Nat.le_of_ble_eq_true rfl)) dL_law_2330 ⟨Nat.le_of_ble_eq_true rfl, Nat.le_of_ble_eq_true rfl⟩) hS (fun q _ h => hFc q h) hFc (fun r763 u t H1 locs ht hvm hw hB hz1 hk1 hS => ?_)
        obtain ⟨hP1, hK1, hD1⟩ := hB
        rw [ht] at hP1
        try dsimp only at hw
        obtain ⟨hP, hD⟩ := va_join (wr := [(qO, .inl (kO, 1, .inr (.inl f108))), (q_things, .inl (k_things, 5, .inl f_things))]) (w1 := [(aZ, .inr (15, s708))]) hP hD [1] [0, 2] rfl rfl (by decide) (by decide) hk1 hFc hP1 hD1
        have hK := hK.sub (tys' := [(kO, .long), (k_things, .int)]) [0, 1] rfl
        generalize H1 = H at hP hS ⊢
        have hP : va_P (dC, dI) vwCl [(qO, .inl (kO, 1, .inr (.inl f108))), (q_things, .inl (k_things, 5, .inl f_things)), (aZ, .inr (15, s708))] H := hP
        have hD : va_D A [(qO, .inl (kO, 1, .inr (.inl f108))), (q_things, .inl (k_things, 5, .inl f_things)), (aZ, .inr (15, s708))] := hD
        have er764 := hw
        subst er764
        refine lv_iload hx hb dL_law_2333 (lv_at hl 1 rfl) ?_
        refine lv_icmp_eq (tgt := 2340) hx hb dL_law_2335 (by decide) (fun c765 => ?_) (fun c765 => absurd c765 (by decide))
        refine lv_iload hx hb dL_law_2340 (lv_at hl 1 rfl) ?_
        refine lv_if_ne (tgt := 2357) hx hb dL_law_2342 (by decide) (fun c766 => absurd c766 (by decide)) (fun c766 => ?_)
        refine lv_aload_n hx hb dL_law_2345 rfl (lv_at hl 5 rfl) ?_
        refine lv_iconst (v := 0) hx hb dL_law_2346 (by decide) ?_
        refine va_lald hx hb hK hP 0 0 rfl rfl (show vp_in 0 1 from by unfold vp_in; decide) dL_law_2347 ?_
        refine lv_topl (fun x767 ex767 => ?_)
        obtain rfl : 0 = x767 := (ex767.trans q164).symm
        refine lv_iload hx hb dL_law_2348 (lv_at hl 0 rfl) ?_
        refine lv_i2l hx hb dL_law_2350 rfl ?_
        refine lv_topl (fun x768 ex768 => ?_)
        obtain rfl : x768 = 0 := ex768.trans (by decide)
        refine W.lcmp hx hb dL_law_2351  ?_
        refine lv_topi (fun x769 ex769 => ?_)
        obtain rfl : x769 = 0 := ex769.trans (by decide)
        refine lv_if_eq (tgt := 2357) hx hb dL_law_2352 (by decide) (fun c770 => ?_) (fun c770 => absurd c770 (by decide))
        refine lv_goto (tgt := 3111) hx hb dL_law_2357 (by decide) ?_
        exact lw_end hst C0 hA hAf hZ hY (Nat.le_of_ble_eq_true rfl) (Nat.le_of_ble_eq_true rfl) dC dI P0k P0 D0 hS ls (lv_sub hl [2, 6] rfl)
      · exact (by exfalso; (try simp only [i_lt, i_le, i_eq, kc_0, kc_2, kc_1] at c160 c161 c162 c742 c743 c744 c745); omega)
      · exact (by exfalso; (try simp only [i_lt, i_le, i_eq, kc_0, kc_2, kc_1] at c160 c161 c162 c751 c752 c753 c754); omega)
      · exact (by exfalso; (try simp only [i_lt, i_le, i_eq, kc_0, kc_2] at c160 c161 c162 c760 c761); omega)

set_option maxRecDepth 20000 in
theorem g_lk_36_z_X11_grown_264 : GoodIn lwW (wsV RL 264 RX11 yX11_grown w_z_X11_grown) := goodIn_app (goodIn_sub (ws := ([.methodLink RL 264 yX11_grown, .instanceMethod yX11_grown, .selects RX11 yX11_grown yX11_grown, .initialized RX11] : List Cond)) (gm_c (gm_at lwV_74_in 1 rfl) (gm_c (gm_at lwV_74_in 2 rfl) (gm_c (gm_at lwV_74_in 3 rfl) (gm_c (gm_at lwV_0_in 3 rfl) gm_nil)))) (by decide +kernel)) (goodIn_ca (goodIn_sub (ws := .code yX11_grown cX11_grown 2 (some .int) :: l_z_X11_grown) (gm_c (gm_at lwV_74_in 7 rfl) (gm_c (gm_at lwV_73_in 5 rfl) gm_nil)) (by decide +kernel)) (goodIn_in il_X11 gd_X11))
set_option maxRecDepth 20000 in
theorem g_lk_36_z_X12_grown_267 : GoodIn lwW (wsV RL 267 RX12 yX12_grown w_z_X12_grown) := goodIn_app (goodIn_sub (ws := ([.methodLink RL 267 yX12_grown, .instanceMethod yX12_grown, .selects RX12 yX12_grown yX12_grown, .initialized RX12] : List Cond)) (gm_c (gm_at lwV_74_in 4 rfl) (gm_c (gm_at lwV_74_in 5 rfl) (gm_c (gm_at lwV_74_in 6 rfl) (gm_c (gm_at lwV_0_in 7 rfl) gm_nil)))) (by decide +kernel)) (goodIn_ca (goodIn_sub (ws := .code yX12_grown cX12_grown 2 (some .int) :: l_z_X12_grown) (gm_c (gm_at lwV_74_in 8 rfl) (gm_c (gm_at lwV_1_in 5 rfl) (gm_c (gm_at lwV_74_in 0 rfl) gm_nil))) (by decide +kernel)) (goodIn_in il_X12 gd_X12))
set_option maxHeartbeats 4000000 in
set_option maxRecDepth 100000 in
/-- the law, one call: grown -/
theorem lk_36 {p : Program} {l : Launch} {e : Env} {s : State} {m : MethodId} {below : List Frame} {meth : Method} {c : Code} {b : Nat} {xs : Nat → Int32} (hst : l.stackTraces = false) (C0 : lw_At p s m meth c b 6 xs) {A : Nat → Prop} (hA : ∀ q : Nat, s.heap.size ≤ q → A q) (hAf : ∀ q : Nat, A q → s.heap.size ≤ q) (hZ : Zz A s) (hY : Yy s) (dC : Nat → ClassId) (dI : Nat → Nat → Nat) (aX : Nat) (fsX : List Value) (aZ : Nat) (fsZ : List Value) (qO : Nat) (w1 : Int32) (hw1 : w1 = xs (1 : Int32).toNatClampNeg) (w2 : Int32) (hw2 : w2 = xs (2 : Int32).toNatClampNeg) (w3 : Int32) (hw3 : w3 = xs (3 : Int32).toNatClampNeg) (w4 : Int32) (hw4 : w4 = xs (4 : Int32).toNatClampNeg) (w5 : Int32) (hw5 : w5 = xs (5 : Int32).toNatClampNeg) (k_fsX : fh fsX 18 [(15, .int 0)]) (k_fsZ : fh fsZ 150 [(75, .int 0)])  {H : Heap} {locs : List Loc} (hK : va_K (dC, dI) vwCl [] s) (hP : va_P (dC, dI) vwCl [(aX, .inr (14, fsX)), (aZ, .inr (15, fsZ))] H) (hD : va_D A [(aX, .inr (14, fsX)), (aZ, .inr (15, fsZ))]) (hS : va_S A s.heap H locs) (ls : Array Slot) (hl : lv_has ls 8 [(0, .ref b), (1, .ref aX), (2, .ref aZ), (3, .ref qO), (4, .int 0)]) : W p l e room_1 s m #[Value.ref b] below meth c H locs 390 571359 (lw_Z below #[Value.ref b] s) (F0 m 2360 ls []) := by
  obtain ⟨hx, hb, hr, hml, hown0, hts0, hX, hbl, hlocks, hgv⟩ := id C0
  have hown : s.vm.findClass RL = some m.cls := hown0
  have hts : ∀ w ∈ lwW, w.before #[Value.ref b] s = true := fun w h => hts0 w (lwW_in w h)
  have hbA : ¬ A b := fun h => absurd (hAf b h) (Nat.not_le.mpr hbl)
  have o_fsX := ow_0 k_fsX
  have o_fsZ := ow_0 k_fsZ
  refine lv_aload_n hx hb dL_law_2360 rfl (lv_at hl 1 rfl) ?_
  refine lv_aload_n hx hb dL_law_2361 rfl (lv_at hl 0 rfl) ?_
  refine lv_iload hx hb dL_law_2362 (lv_at hl 4 rfl) ?_
  refine lv_iconst (v := 1) hx hb dL_law_2364 (by decide) ?_
  refine lv_iadd hx hb dL_law_2365  ?_
  refine lv_topi (fun x101 ex101 => ?_)
  obtain rfl : x101 = 1 := ex101.trans (by decide)
  refine va_sld hx hb hX hbl hbA hS (show vp_in 1 6 from by unfold vp_in; decide) dL_law_2366 ?_
  refine lv_topi (fun x102 ex102 => ?_)
  obtain rfl : w1 = x102 := hw1.trans ex102.symm
  have hPc := hP.sub (ws' := [(aX, .inr (14, fsX))]) [0] rfl
  have hDc := hD.sub (ws' := [(aX, .inr (14, fsX))]) [0] (by decide) rfl
  have hKc := hK.sub (tys' := []) [] rfl
  have hFc := va_free (wc := [(aX, .inr (14, fsX))]) hD hS hA [0] rfl
  refine va_calli (va_runV (As := [.int w1]) (rest := []) ⟨hx, hb, hml, hown, hts⟩ (z_X11_grown l dC dI H.size aX fsX w1 (fh_sub o_fsX.2 [0] rfl) ) (cwV 1 hts g_lk_36_z_X11_grown_264 rfl rfl rfl (by decide +kernel) ⟨Nat.le_of_ble_eq_true rfl, Nat.le_of_ble_eq_true rfl⟩) ⟨fun a U g mk q => by obtain ⟨q0, q1, qP, qK, qD⟩ := q; exact ⟨q0, q1, qP, va_K.moved (u := U) (U := U.calling g mk a) (Vm.Alike.refl U.vm) qK, qD⟩, va_recv hK hP (ci := 14) (q0 := 0) rfl rfl, fun U hU hW => ⟨rfl, by rw [hU], by rw [hU]; exact hPc, va_K.moved hW.alike hKc, hDc.weaken (fun _ _ _ _ => trivial)⟩⟩ rfl rfl hl.1 rfl (lv_room (Nat.le_of_ble_eq_true rfl)) dL_law_2367 ⟨Nat.le_of_ble_eq_true rfl, Nat.le_of_ble_eq_true rfl⟩) hS (fun q _ h => hFc q h) hFc (fun r103 u t H1 locs ht hvm hw hB hz1 hk1 hS => ?_)
  obtain ⟨hP1, hK1, hD1⟩ := hB
  rw [ht] at hP1
  try dsimp only at hw
  obtain ⟨hP, hD⟩ := va_join (wr := [(aZ, .inr (15, fsZ))]) (w1 := [(aX, .inr (14, fsX))]) hP hD [0] [1] rfl rfl (by decide) (by decide) hk1 hFc hP1 hD1
  have hK := hK.sub (tys' := []) [] rfl
  generalize H1 = H at hP hS ⊢
  have hP : va_P (dC, dI) vwCl [(aZ, .inr (15, fsZ)), (aX, .inr (14, fsX))] H := hP
  have hD : va_D A [(aZ, .inr (15, fsZ)), (aX, .inr (14, fsX))] := hD
  rcases hw with ⟨c104, er105⟩ | ⟨c106, c107, er108⟩
  · skip
    subst er105
    refine lv_aload_n hx hb dL_law_2370 rfl (lv_at hl 2 rfl) ?_
    refine lv_aload_n hx hb dL_law_2371 rfl (lv_at hl 0 rfl) ?_
    refine lv_iload hx hb dL_law_2372 (lv_at hl 4 rfl) ?_
    refine lv_iconst (v := 1) hx hb dL_law_2374 (by decide) ?_
    refine lv_iadd hx hb dL_law_2375  ?_
    refine lv_topi (fun x109 ex109 => ?_)
    obtain rfl : x109 = 1 := ex109.trans (by decide)
    refine va_sld hx hb hX hbl hbA hS (show vp_in 1 6 from by unfold vp_in; decide) dL_law_2376 ?_
    refine lv_topi (fun x110 ex110 => ?_)
    obtain rfl : w1 = x110 := hw1.trans ex110.symm
    have hPc := hP.sub (ws' := [(aZ, .inr (15, fsZ))]) [0] rfl
    have hDc := hD.sub (ws' := [(aZ, .inr (15, fsZ))]) [0] (by decide) rfl
    have hKc := hK.sub (tys' := []) [] rfl
    have hFc := va_free (wc := [(aZ, .inr (15, fsZ))]) hD hS hA [0] rfl
    refine va_calli (va_runV (As := [.int w1]) (rest := [.int (-1)]) ⟨hx, hb, hml, hown, hts⟩ (z_X12_grown l dC dI H.size aZ fsZ w1 (fh_sub o_fsZ.2 [0] rfl) ) (cwV 1 hts g_lk_36_z_X12_grown_267 rfl rfl rfl (by decide +kernel) ⟨Nat.le_of_ble_eq_true rfl, Nat.le_of_ble_eq_true rfl⟩) ⟨fun a U g mk q => by obtain ⟨q0, q1, qP, qK, qD⟩ := q; exact ⟨q0, q1, qP, va_K.moved (u := U) (U := U.calling g mk a) (Vm.Alike.refl U.vm) qK, qD⟩, va_recv hK hP (ci := 15) (q0 := 0) rfl rfl, fun U hU hW => ⟨rfl, by rw [hU], by rw [hU]; exact hPc, va_K.moved hW.alike hKc, hDc.weaken (fun _ _ _ _ => trivial)⟩⟩ rfl rfl hl.1 rfl (lv_room (Nat.le_of_ble_eq_true rfl)) dL_law_2377 ⟨Nat.le_of_ble_eq_true rfl, Nat.le_of_ble_eq_true rfl⟩) hS (fun q _ h => hFc q h) hFc (fun r111 u t H1 locs ht hvm hw hB hz1 hk1 hS => ?_)
    obtain ⟨s112, rfl⟩ : ∃ z, z = u := ⟨_, rfl⟩
    obtain ⟨hP1, hK1, hD1⟩ := hB
    rw [ht] at hP1
    try dsimp only at hw
    obtain ⟨hP, hD⟩ := va_join (wr := [(aX, .inr (14, fsX))]) (w1 := [(aZ, .inr (15, s112))]) hP hD [0] [1] rfl rfl (by decide) (by decide) hk1 hFc hP1 hD1
    have hK := hK.sub (tys' := []) [] rfl
    generalize H1 = H at hP hS ⊢
    have hP : va_P (dC, dI) vwCl [(aX, .inr (14, fsX)), (aZ, .inr (15, s112))] H := hP
    have hD : va_D A [(aX, .inr (14, fsX)), (aZ, .inr (15, s112))] := hD
    rcases hw with ⟨c113, er114, o_s112⟩ | ⟨c115, c116, er117, o_s112⟩
    · skip
      subst er114
      have o_s112 := ow_on o_fsZ o_s112 (l' := [(0, .int 0), (75, .int 0), (75, .int 0)]) (w' := [0]) rfl rfl
      refine lv_icmp_eq (tgt := 3111) hx hb dL_law_2380 (by decide) (fun c118 => ?_) (fun c118 => absurd c118 (by decide))
      exact lw_end hst C0 hA hAf hZ hY (Nat.le_of_ble_eq_true rfl) (Nat.le_of_ble_eq_true rfl) dC dI P0k P0 D0 hS ls (lv_sub hl [0, 4] rfl)
    · exact (by exfalso; (try simp only [i_lt, i_le, i_eq, kc_0] at c104 c115 c116); omega)
  · skip
    subst er108
    refine lv_aload_n hx hb dL_law_2370 rfl (lv_at hl 2 rfl) ?_
    refine lv_aload_n hx hb dL_law_2371 rfl (lv_at hl 0 rfl) ?_
    refine lv_iload hx hb dL_law_2372 (lv_at hl 4 rfl) ?_
    refine lv_iconst (v := 1) hx hb dL_law_2374 (by decide) ?_
    refine lv_iadd hx hb dL_law_2375  ?_
    refine lv_topi (fun x119 ex119 => ?_)
    obtain rfl : x119 = 1 := ex119.trans (by decide)
    refine va_sld hx hb hX hbl hbA hS (show vp_in 1 6 from by unfold vp_in; decide) dL_law_2376 ?_
    refine lv_topi (fun x120 ex120 => ?_)
    obtain rfl : w1 = x120 := hw1.trans ex120.symm
    have hPc := hP.sub (ws' := [(aZ, .inr (15, fsZ))]) [0] rfl
    have hDc := hD.sub (ws' := [(aZ, .inr (15, fsZ))]) [0] (by decide) rfl
    have hKc := hK.sub (tys' := []) [] rfl
    have hFc := va_free (wc := [(aZ, .inr (15, fsZ))]) hD hS hA [0] rfl
    refine va_calli (va_runV (As := [.int w1]) (rest := [.int (-1)]) ⟨hx, hb, hml, hown, hts⟩ (z_X12_grown l dC dI H.size aZ fsZ w1 (fh_sub o_fsZ.2 [0] rfl) ) (cwV 1 hts g_lk_36_z_X12_grown_267 rfl rfl rfl (by decide +kernel) ⟨Nat.le_of_ble_eq_true rfl, Nat.le_of_ble_eq_true rfl⟩) ⟨fun a U g mk q => by obtain ⟨q0, q1, qP, qK, qD⟩ := q; exact ⟨q0, q1, qP, va_K.moved (u := U) (U := U.calling g mk a) (Vm.Alike.refl U.vm) qK, qD⟩, va_recv hK hP (ci := 15) (q0 := 0) rfl rfl, fun U hU hW => ⟨rfl, by rw [hU], by rw [hU]; exact hPc, va_K.moved hW.alike hKc, hDc.weaken (fun _ _ _ _ => trivial)⟩⟩ rfl rfl hl.1 rfl (lv_room (Nat.le_of_ble_eq_true rfl)) dL_law_2377 ⟨Nat.le_of_ble_eq_true rfl, Nat.le_of_ble_eq_true rfl⟩) hS (fun q _ h => hFc q h) hFc (fun r121 u t H1 locs ht hvm hw hB hz1 hk1 hS => ?_)
    obtain ⟨s122, rfl⟩ : ∃ z, z = u := ⟨_, rfl⟩
    obtain ⟨hP1, hK1, hD1⟩ := hB
    rw [ht] at hP1
    try dsimp only at hw
    obtain ⟨hP, hD⟩ := va_join (wr := [(aX, .inr (14, fsX))]) (w1 := [(aZ, .inr (15, s122))]) hP hD [0] [1] rfl rfl (by decide) (by decide) hk1 hFc hP1 hD1
    have hK := hK.sub (tys' := []) [] rfl
    generalize H1 = H at hP hS ⊢
    have hP : va_P (dC, dI) vwCl [(aX, .inr (14, fsX)), (aZ, .inr (15, s122))] H := hP
    have hD : va_D A [(aX, .inr (14, fsX)), (aZ, .inr (15, s122))] := hD
    rcases hw with ⟨c123, er124, o_s122⟩ | ⟨c125, c126, er127, o_s122⟩
    · exact (by exfalso; (try simp only [i_lt, i_le, i_eq, kc_0] at c106 c107 c123); omega)
    · skip
      subst er127
      have o_s122 := ow_on o_fsZ o_s122 (l' := [(0, .int 0), (75, .int 0), (75, .int 0)]) (w' := [0]) rfl rfl
      refine lv_icmp_eq (tgt := 3111) hx hb dL_law_2380 (by decide) (fun c128 => ?_) (fun c128 => absurd c128 (by decide))
      exact lw_end hst C0 hA hAf hZ hY (Nat.le_of_ble_eq_true rfl) (Nat.le_of_ble_eq_true rfl) dC dI P0k P0 D0 hS ls (lv_sub hl [0, 4] rfl)

set_option maxRecDepth 20000 in
theorem g_lk_37_z_L_like_268 : GoodIn lwW (va_wsS RL 268 yL_like w_z_L_like) := goodIn_app (goodIn_sub (ws := ([.methodLink RL 268 yL_like, .static yL_like, .initialized RL] : List Cond)) (gm_c (gm_at lwV_74_in 9 rfl) (gm_c (gm_at lwV_74_in 10 rfl) (gm_c (gm_at lwV_5_in 10 rfl) gm_nil))) (by decide +kernel)) (goodIn_ca (goodIn_sub (ws := .codeWith yL_like cL_like 7 (some .int) [(0, 21, 24, 30)] :: l_z_L_like) (gm_c (gm_at lwV_75_in 2 rfl) (gm_c (gm_at lwV_75_in 3 rfl) (gm_c (gm_at lwV_75_in 4 rfl) (gm_c (gm_at lwV_75_in 5 rfl) (gm_c (gm_at lwV_0_in 3 rfl) (gm_c (gm_at lwV_19_in 11 rfl) (gm_c (gm_at lwV_75_in 6 rfl) (gm_c (gm_at lwV_60_in 4 rfl) (gm_c (gm_at lwV_60_in 5 rfl) (gm_c (gm_at lwV_60_in 6 rfl) (gm_c (gm_at lwV_20_in 4 rfl) (gm_c (gm_at lwV_20_in 5 rfl) (gm_c (gm_at lwV_60_in 7 rfl) (gm_c (gm_at lwV_55_in 7 rfl) (gm_c (gm_at lwV_55_in 8 rfl) (gm_c (gm_at lwV_55_in 0 rfl) (gm_c (gm_at lwV_55_in 5 rfl) (gm_c (gm_at lwV_55_in 9 rfl) gm_nil)))))))))))))))))) (by decide +kernel)) (goodIn_app (goodIn_in il_at0_X11_223 gd_at0_X11_223) (goodIn_app (goodIn_in il_X11 gd_X11) (goodIn_in il_X5 gd_X5))))
set_option maxRecDepth 20000 in
theorem g_lk_37_z_X12_like_270 : GoodIn lwW (wsV RL 270 RX12 yX12_like w_z_X12_like) := goodIn_app (goodIn_sub (ws := ([.methodLink RL 270 yX12_like, .instanceMethod yX12_like, .selects RX12 yX12_like yX12_like, .initialized RX12] : List Cond)) (gm_c (gm_at lwV_74_in 11 rfl) (gm_c (gm_at lwV_75_in 0 rfl) (gm_c (gm_at lwV_75_in 1 rfl) (gm_c (gm_at lwV_0_in 7 rfl) gm_nil)))) (by decide +kernel)) (goodIn_ca (goodIn_sub (ws := .code yX12_like cX12_like 15 (some .boolean) :: l_z_X12_like) (gm_c (gm_at lwV_75_in 7 rfl) (gm_c (gm_at lwV_60_in 9 rfl) (gm_c (gm_at lwV_60_in 10 rfl) (gm_c (gm_at lwV_60_in 11 rfl) (gm_c (gm_at lwV_0_in 7 rfl) (gm_c (gm_at lwV_1_in 5 rfl) (gm_c (gm_at lwV_61_in 0 rfl) (gm_c (gm_at lwV_57_in 0 rfl) (gm_c (gm_at lwV_57_in 1 rfl) (gm_c (gm_at lwV_57_in 2 rfl) (gm_c (gm_at lwV_57_in 9 rfl) (gm_c (gm_at lwV_57_in 10 rfl) gm_nil)))))))))))) (by decide +kernel)) (goodIn_in il_X12 gd_X12))
set_option maxRecDepth 20000 in
theorem g_lk_37_z_X12_thrown_149 : GoodIn lwW (wsV RL 149 RX12 yX12_thrown w_z_X12_thrown) := goodIn_app (goodIn_sub (ws := ([.methodLink RL 149 yX12_thrown, .instanceMethod yX12_thrown, .selects RX12 yX12_thrown yX12_thrown, .initialized RX12] : List Cond)) (gm_c (gm_at lwV_6_in 2 rfl) (gm_c (gm_at lwV_6_in 3 rfl) (gm_c (gm_at lwV_6_in 4 rfl) (gm_c (gm_at lwV_0_in 7 rfl) gm_nil)))) (by decide +kernel)) (goodIn_ca (goodIn_sub (ws := .code yX12_thrown cX12_thrown 1 (some .int) :: l_z_X12_thrown) (gm_c (gm_at lwV_9_in 9 rfl) (gm_c (gm_at lwV_1_in 5 rfl) gm_nil)) (by decide +kernel)) (goodIn_in il_X12 gd_X12))
set_option maxHeartbeats 4000000 in
set_option maxRecDepth 100000 in
/-- the law, one call: like -/
theorem lk_37 {p : Program} {l : Launch} {e : Env} {s : State} {m : MethodId} {below : List Frame} {meth : Method} {c : Code} {b : Nat} {xs : Nat → Int32} (hst : l.stackTraces = false) (C0 : lw_At p s m meth c b 6 xs) {A : Nat → Prop} (hA : ∀ q : Nat, s.heap.size ≤ q → A q) (hAf : ∀ q : Nat, A q → s.heap.size ≤ q) (hZ : Zz A s) (hY : Yy s) (dC : Nat → ClassId) (dI : Nat → Nat → Nat) (aX : Nat) (fsX : List Value) (qP : Nat) (gP : Nat → Option Nat) (kP : ClassId) (ap : Nat) (fsp : List Value) (aZ : Nat) (fsZ : List Value) (q_things : Nat) (f_things : Nat → Int32) (k_things : ClassId) (qO : Nat) (w1 : Int32) (hw1 : w1 = xs (1 : Int32).toNatClampNeg) (w2 : Int32) (hw2 : w2 = xs (2 : Int32).toNatClampNeg) (w3 : Int32) (hw3 : w3 = xs (3 : Int32).toNatClampNeg) (w4 : Int32) (hw4 : w4 = xs (4 : Int32).toNatClampNeg) (w5 : Int32) (hw5 : w5 = xs (5 : Int32).toNatClampNeg) (k_fsX : fh fsX 18 [(4, .ref qP)]) (k_fsp : fh fsp 21 [(0, .int 0)]) (k_fsZ : fh fsZ 150 [(0, .int 0), (48, .ref q_things)]) (hg : gP w1.toNatClampNeg = some ap) (hz_f_things : ∀ j, f_things j = 0) {H : Heap} {locs : List Loc} (hK : va_K (dC, dI) vwCl [(kP, .object "HeapWorks$Picture"), (k_things, .int)] s) (hP : va_P (dC, dI) vwCl [(aX, .inr (14, fsX)), (qP, .inl (kP, 4, .inr (.inr (.inr (.inr gP))))), (ap, .inr (8, fsp)), (aZ, .inr (15, fsZ)), (q_things, .inl (k_things, 5, .inl f_things))] H) (hD : va_D A [(aX, .inr (14, fsX)), (qP, .inl (kP, 4, .inr (.inr (.inr (.inr gP))))), (ap, .inr (8, fsp)), (aZ, .inr (15, fsZ)), (q_things, .inl (k_things, 5, .inl f_things))]) (hS : va_S A s.heap H locs) (ls : Array Slot) (hl : lv_has ls 8 [(0, .ref b), (1, .ref aX), (2, .ref aZ), (3, .ref qO), (4, .int 0)]) : W p l e room_1 s m #[Value.ref b] below meth c H locs 390 571359 (lw_Z below #[Value.ref b] s) (F0 m 2385 ls []) := by
  obtain ⟨hx, hb, hr, hml, hown0, hts0, hX, hbl, hlocks, hgv⟩ := id C0
  have hown : s.vm.findClass RL = some m.cls := hown0
  have hts : ∀ w ∈ lwW, w.before #[Value.ref b] s = true := fun w h => hts0 w (lwW_in w h)
  have hbA : ¬ A b := fun h => absurd (hAf b h) (Nat.not_le.mpr hbl)
  have o_fsX := ow_0 k_fsX
  have o_fsp := ow_0 k_fsp
  have o_fsZ := ow_0 k_fsZ
  refine lv_aload_n hx hb dL_law_2385 rfl (lv_at hl 1 rfl) ?_
  refine lv_aload_n hx hb dL_law_2386 rfl (lv_at hl 0 rfl) ?_
  refine lv_iload hx hb dL_law_2387 (lv_at hl 4 rfl) ?_
  refine lv_iconst (v := 1) hx hb dL_law_2389 (by decide) ?_
  refine lv_iadd hx hb dL_law_2390  ?_
  refine lv_topi (fun x101 ex101 => ?_)
  obtain rfl : x101 = 1 := ex101.trans (by decide)
  refine va_sld hx hb hX hbl hbA hS (show vp_in 1 6 from by unfold vp_in; decide) dL_law_2391 ?_
  refine lv_topi (fun x102 ex102 => ?_)
  obtain rfl : w1 = x102 := hw1.trans ex102.symm
  refine lv_aload_n hx hb dL_law_2392 rfl (lv_at hl 0 rfl) ?_
  refine lv_iload hx hb dL_law_2393 (lv_at hl 4 rfl) ?_
  refine lv_iconst (v := 2) hx hb dL_law_2395 (by decide) ?_
  refine lv_iadd hx hb dL_law_2396  ?_
  refine lv_topi (fun x103 ex103 => ?_)
  obtain rfl : x103 = 2 := ex103.trans (by decide)
  refine va_sld hx hb hX hbl hbA hS (show vp_in 2 6 from by unfold vp_in; decide) dL_law_2397 ?_
  refine lv_topi (fun x104 ex104 => ?_)
  obtain rfl : w2 = x104 := hw2.trans ex104.symm
  refine lv_aload_n hx hb dL_law_2398 rfl (lv_at hl 0 rfl) ?_
  refine lv_iload hx hb dL_law_2399 (lv_at hl 4 rfl) ?_
  refine lv_iconst (v := 3) hx hb dL_law_2401 (by decide) ?_
  refine lv_iadd hx hb dL_law_2402  ?_
  refine lv_topi (fun x105 ex105 => ?_)
  obtain rfl : x105 = 3 := ex105.trans (by decide)
  refine va_sld hx hb hX hbl hbA hS (show vp_in 3 6 from by unfold vp_in; decide) dL_law_2403 ?_
  refine lv_topi (fun x106 ex106 => ?_)
  obtain rfl : w3 = x106 := hw3.trans ex106.symm
  refine lv_aload_n hx hb dL_law_2404 rfl (lv_at hl 0 rfl) ?_
  refine lv_iload hx hb dL_law_2405 (lv_at hl 4 rfl) ?_
  refine lv_iconst (v := 4) hx hb dL_law_2407 (by decide) ?_
  refine lv_iadd hx hb dL_law_2408  ?_
  refine lv_topi (fun x107 ex107 => ?_)
  obtain rfl : x107 = 4 := ex107.trans (by decide)
  refine va_sld hx hb hX hbl hbA hS (show vp_in 4 6 from by unfold vp_in; decide) dL_law_2409 ?_
  refine lv_topi (fun x108 ex108 => ?_)
  obtain rfl : w4 = x108 := hw4.trans ex108.symm
  refine lv_aload_n hx hb dL_law_2410 rfl (lv_at hl 3 rfl) ?_
  have hPc := hP.sub (ws' := [(aX, .inr (14, fsX)), (qP, .inl (kP, 4, .inr (.inr (.inr (.inr gP))))), (ap, .inr (8, fsp))]) [0, 1, 2] rfl
  have hDc := hD.sub (ws' := [(aX, .inr (14, fsX)), (qP, .inl (kP, 4, .inr (.inr (.inr (.inr gP))))), (ap, .inr (8, fsp))]) [0, 1, 2] (by decide) rfl
  have hKc := hK.sub (tys' := [(kP, .object "HeapWorks$Picture")]) [0] rfl
  have hFc := va_free (wc := [(aX, .inr (14, fsX)), (qP, .inl (kP, 4, .inr (.inr (.inr (.inr gP))))), (ap, .inr (8, fsp))]) hD hS hA [0, 1, 2] rfl
  refine vx_calli (vx_runSX (As := [.ref aX, .int w1, .int w2, .int w3, .int w4, .ref qO]) (rest := []) ⟨hx, hb, hml, hown, hts⟩ (z_L_like l dC dI H.size aX fsX qP gP kP ap fsp w1 w2 w3 w4 qO (fh_sub o_fsX.2 [0] rfl) (fh_sub o_fsp.2 [0] rfl) hst hg) (vx_cwSW 6 hts g_lk_37_z_L_like_268 rfl rfl rfl (by decide +kernel) ⟨Nat.le_of_ble_eq_true rfl, Nat.le_of_ble_eq_true rfl⟩) ⟨fun a U g mk q => by obtain ⟨q0, q1, qZ, qY, qP, qK, qD⟩ := q; exact ⟨q0, q1, Zz_call qZ, Yy_call qY, qP, va_K.moved (u := U) (U := U.calling g mk a) (Vm.Alike.refl U.vm) qK, qD⟩, fun U hU hW => ⟨rfl, by rw [hU], Zz_go hZ hS hFc hU hW, Yy_go hY hW, by rw [hU]; exact hPc, va_K.moved hW.alike hKc, hDc.weaken (fun _ _ _ _ => trivial)⟩⟩ rfl rfl hl.1 rfl (lv_room (Nat.le_of_ble_eq_true rfl)) dL_law_2411 ⟨Nat.le_of_ble_eq_true rfl, Nat.le_of_ble_eq_true rfl⟩) hS (fun q _ h => hFc q h) hFc (fun q _ h => hFc q h) (fun E ce q9 u t H1 locs ht hvm hpx hBX hz1 hk1 hS hce hcv hcl => ?_) (fun r109 u t H1 locs ht hvm hw hB hz1 hk1 hS => ?_)
  · exact False.elim hBX
  · skip
    obtain ⟨hP1, hK1, hD1⟩ := hB
    rw [ht] at hP1
    try dsimp only at hw
    obtain ⟨hP, hD⟩ := va_join (wr := [(aZ, .inr (15, fsZ)), (q_things, .inl (k_things, 5, .inl f_things))]) (w1 := []) hP hD [0, 1, 2] [3, 4] rfl rfl (by decide) (by decide) hk1 hFc hP1 hD1
    have hK := hK.sub (tys' := [(k_things, .int)]) [1] rfl
    generalize H1 = H at hP hS ⊢
    refine W.widen (k := 391) (n := 571365) (by omega) (by omega) ?_
    have hP : va_P (dC, dI) vwCl [(aZ, .inr (15, fsZ)), (q_things, .inl (k_things, 5, .inl f_things))] H := hP
    have hD : va_D A [(aZ, .inr (15, fsZ)), (q_things, .inl (k_things, 5, .inl f_things))] := hD
    rcases hw with ⟨c110, er111⟩ | ⟨c112, c113, er114⟩ | ⟨c115, c116, c117, er118⟩ | ⟨c119, c120, c121, c122, er123⟩
    · skip
      subst er111
      refine lv_istore (lv' := [(5, .int 1), (0, .ref b), (1, .ref aX), (2, .ref aZ), (3, .ref qO), (4, .int 0)]) hx hb dL_law_2414 hl (by decide) rfl (fun ls hl => ?_)
      refine lv_aload_n hx hb dL_law_2416 rfl (lv_at hl 3 rfl) ?_
      refine lv_aload_n hx hb dL_law_2417 rfl (lv_at hl 1 rfl) ?_
      refine lv_iload hx hb dL_law_2418 (lv_at hl 5 rfl) ?_
      refine lv_iconst (v := 1) hx hb dL_law_2420 (by decide) ?_
      refine lv_iadd hx hb dL_law_2421  ?_
      refine lv_topi (fun x124 ex124 => ?_)
      obtain rfl : x124 = 1 := ex124.trans (by decide)
      refine va_sld hx hb hX hbl hbA hS (show vp_in 1 6 from by unfold vp_in; decide) dL_law_2422 ?_
      refine lv_topi (fun x125 ex125 => ?_)
      obtain rfl : w1 = x125 := hw1.trans ex125.symm
      refine lv_aload_n hx hb dL_law_2423 rfl (lv_at hl 1 rfl) ?_
      refine lv_iload hx hb dL_law_2424 (lv_at hl 5 rfl) ?_
      refine lv_iconst (v := 2) hx hb dL_law_2426 (by decide) ?_
      refine lv_iadd hx hb dL_law_2427  ?_
      refine lv_topi (fun x126 ex126 => ?_)
      obtain rfl : x126 = 2 := ex126.trans (by decide)
      refine va_sld hx hb hX hbl hbA hS (show vp_in 2 6 from by unfold vp_in; decide) dL_law_2428 ?_
      refine lv_topi (fun x127 ex127 => ?_)
      obtain rfl : w2 = x127 := hw2.trans ex127.symm
      refine lv_aload_n hx hb dL_law_2429 rfl (lv_at hl 1 rfl) ?_
      refine lv_iload hx hb dL_law_2430 (lv_at hl 5 rfl) ?_
      refine lv_iconst (v := 3) hx hb dL_law_2432 (by decide) ?_
      refine lv_iadd hx hb dL_law_2433  ?_
      refine lv_topi (fun x128 ex128 => ?_)
      obtain rfl : x128 = 3 := ex128.trans (by decide)
      refine va_sld hx hb hX hbl hbA hS (show vp_in 3 6 from by unfold vp_in; decide) dL_law_2434 ?_
      refine lv_topi (fun x129 ex129 => ?_)
      obtain rfl : w3 = x129 := hw3.trans ex129.symm
      refine lv_aload_n hx hb dL_law_2435 rfl (lv_at hl 1 rfl) ?_
      refine lv_iload hx hb dL_law_2436 (lv_at hl 5 rfl) ?_
      refine lv_iconst (v := 4) hx hb dL_law_2438 (by decide) ?_
      refine lv_iadd hx hb dL_law_2439  ?_
      refine lv_topi (fun x130 ex130 => ?_)
      obtain rfl : x130 = 4 := ex130.trans (by decide)
      refine va_sld hx hb hX hbl hbA hS (show vp_in 4 6 from by unfold vp_in; decide) dL_law_2440 ?_
      refine lv_topi (fun x131 ex131 => ?_)
      obtain rfl : w4 = x131 := hw4.trans ex131.symm
      have hPc := hP.sub (ws' := [(aZ, .inr (15, fsZ)), (q_things, .inl (k_things, 5, .inl f_things))]) [0, 1] rfl
      have hDc := hD.sub (ws' := [(aZ, .inr (15, fsZ)), (q_things, .inl (k_things, 5, .inl f_things))]) [0, 1] (by decide) rfl
      have hKc := hK.sub (tys' := [(k_things, .int)]) [0] rfl
      have hFc := va_free (wc := [(aZ, .inr (15, fsZ)), (q_things, .inl (k_things, 5, .inl f_things))]) hD hS hA [0, 1] rfl
      refine va_calli (va_runV (As := [.int w1, .int w2, .int w3, .int w4]) (rest := []) ⟨hx, hb, hml, hown, hts⟩ (z_X12_like l dC dI H.size aZ fsZ q_things f_things k_things w1 w2 w3 w4 (fh_sub o_fsZ.2 [0, 1] rfl) hz_f_things) (cwV 4 hts g_lk_37_z_X12_like_270 rfl rfl rfl (by decide +kernel) ⟨Nat.le_of_ble_eq_true rfl, Nat.le_of_ble_eq_true rfl⟩) ⟨fun a U g mk q => by obtain ⟨q0, q1, qP, qK, qD⟩ := q; exact ⟨q0, q1, qP, va_K.moved (u := U) (U := U.calling g mk a) (Vm.Alike.refl U.vm) qK, qD⟩, va_recv hK hP (ci := 15) (q0 := 0) rfl rfl, fun U hU hW => ⟨rfl, by rw [hU], by rw [hU]; exact hPc, va_K.moved hW.alike hKc, hDc.weaken (fun _ _ _ _ => trivial)⟩⟩ rfl rfl hl.1 rfl (lv_room (Nat.le_of_ble_eq_true rfl)) dL_law_2441 ⟨Nat.le_of_ble_eq_true rfl, Nat.le_of_ble_eq_true rfl⟩) hS (fun q _ h => hFc q h) hFc (fun r132 u t H1 locs ht hvm hw hB hz1 hk1 hS => ?_)
      obtain ⟨s133, rfl⟩ : ∃ z, z = u := ⟨_, rfl⟩
      obtain ⟨hP1, hK1, hD1⟩ := hB
      rw [ht] at hP1
      try dsimp only at hw
      obtain ⟨hP, hD⟩ := va_join (wr := []) (w1 := [(aZ, .inr (15, s133)), (q_things, .inl (k_things, 5, .inl f_things))]) hP hD [0, 1] [] rfl rfl (by decide) (by decide) hk1 hFc hP1 hD1
      have hK := hK.sub (tys' := [(k_things, .int)]) [0] rfl
      generalize H1 = H at hP hS ⊢
      have hP : va_P (dC, dI) vwCl [(aZ, .inr (15, s133)), (q_things, .inl (k_things, 5, .inl f_things))] H := hP
      have hD : va_D A [(aZ, .inr (15, s133)), (q_things, .inl (k_things, 5, .inl f_things))] := hD
      rcases hw with ⟨c134, er135, o_s133⟩ | ⟨c136, c137, er138, o_s133⟩ | ⟨c139, c140, c141, er142, o_s133⟩ | ⟨c143, c144, c145, c146, er147, o_s133⟩
      · skip
        subst er135
        have o_s133 := ow_on o_fsZ o_s133 (l' := [(0, .int 1), (48, .ref q_things), (48, .ref q_things)]) (w' := [0]) rfl rfl
        refine lv_istore (lv' := [(6, .int 0), (5, .int 1), (0, .ref b), (1, .ref aX), (2, .ref aZ), (3, .ref qO), (4, .int 0)]) hx hb dL_law_2444 hl (by decide) rfl (fun ls hl => ?_)
        refine lv_aload_n hx hb dL_law_2446 rfl (lv_at hl 4 rfl) ?_
        have hPc := hP.sub (ws' := [(aZ, .inr (15, s133))]) [0] rfl
        have hDc := hD.sub (ws' := [(aZ, .inr (15, s133))]) [0] (by decide) rfl
        have hKc := hK.sub (tys' := []) [] rfl
        have hFc := va_free (wc := [(aZ, .inr (15, s133))]) hD hS hA [0] rfl
        refine va_calli (va_runV (As := []) (rest := []) ⟨hx, hb, hml, hown, hts⟩ (z_X12_thrown l dC dI H.size aZ s133 (fh_sub o_s133.2 [0] rfl) ) (cwV 0 hts g_lk_37_z_X12_thrown_149 rfl rfl rfl (by decide +kernel) ⟨Nat.le_of_ble_eq_true rfl, Nat.le_of_ble_eq_true rfl⟩) ⟨fun a U g mk q => by obtain ⟨q0, q1, qP, qK, qD⟩ := q; exact ⟨q0, q1, qP, va_K.moved (u := U) (U := U.calling g mk a) (Vm.Alike.refl U.vm) qK, qD⟩, va_recv hK hP (ci := 15) (q0 := 0) rfl rfl, fun U hU hW => ⟨rfl, by rw [hU], by rw [hU]; exact hPc, va_K.moved hW.alike hKc, hDc.weaken (fun _ _ _ _ => trivial)⟩⟩ rfl rfl hl.1 rfl (lv_room (Nat.le_of_ble_eq_true rfl)) dL_law_2447 ⟨Nat.le_of_ble_eq_true rfl, Nat.le_of_ble_eq_true rfl⟩) hS (fun q _ h => hFc q h) hFc (fun r148 u t H1 locs ht hvm hw hB hz1 hk1 hS => ?_)
        obtain ⟨hP1, hK1, hD1⟩ := hB
        rw [ht] at hP1
        try dsimp only at hw
        obtain ⟨hP, hD⟩ := va_join (wr := [(q_things, .inl (k_things, 5, .inl f_things))]) (w1 := [(aZ, .inr (15, s133))]) hP hD [0] [1] rfl rfl (by decide) (by decide) hk1 hFc hP1 hD1
        have hK := hK.sub (tys' := [(k_things, .int)]) [0] rfl
        generalize H1 = H at hP hS ⊢
        have hP : va_P (dC, dI) vwCl [(q_things, .inl (k_things, 5, .inl f_things)), (aZ, .inr (15, s133))] H := hP
        have hD : va_D A [(q_things, .inl (k_things, 5, .inl f_things)), (aZ, .inr (15, s133))] := hD
        have er149 := hw
        subst er149
        refine lv_iload hx hb dL_law_2450 (lv_at hl 1 rfl) ?_
        refine lv_icmp_eq (tgt := 2457) hx hb dL_law_2452 (by decide) (fun c150 => ?_) (fun c150 => absurd c150 (by decide))
        refine lv_iload hx hb dL_law_2457 (lv_at hl 1 rfl) ?_
        refine lv_if_ne (tgt := 2481) hx hb dL_law_2459 (by decide) (fun c151 => ?_) (fun c151 => absurd c151 (by decide))
        refine lv_goto (tgt := 3111) hx hb dL_law_2481 (by decide) ?_
        exact lw_end hst C0 hA hAf hZ hY (Nat.le_of_ble_eq_true rfl) (Nat.le_of_ble_eq_true rfl) dC dI P0k P0 D0 hS ls (lv_sub hl [2, 6] rfl)
      · exact (by exfalso; (try simp only [i_lt, i_le, i_eq, kc_0, kc_4] at c110 c136 c137); omega)
      · exact (by exfalso; (try simp only [i_lt, i_le, i_eq, kc_0, kc_4] at c110 c139 c140); omega)
      · exact (by exfalso; (try simp only [i_lt, i_le, i_eq, kc_0, kc_4] at c110 c143 c144); omega)
    · skip
      subst er114
      refine lv_istore (lv' := [(5, .int 1), (0, .ref b), (1, .ref aX), (2, .ref aZ), (3, .ref qO), (4, .int 0)]) hx hb dL_law_2414 hl (by decide) rfl (fun ls hl => ?_)
      refine lv_aload_n hx hb dL_law_2416 rfl (lv_at hl 3 rfl) ?_
      refine lv_aload_n hx hb dL_law_2417 rfl (lv_at hl 1 rfl) ?_
      refine lv_iload hx hb dL_law_2418 (lv_at hl 5 rfl) ?_
      refine lv_iconst (v := 1) hx hb dL_law_2420 (by decide) ?_
      refine lv_iadd hx hb dL_law_2421  ?_
      refine lv_topi (fun x152 ex152 => ?_)
      obtain rfl : x152 = 1 := ex152.trans (by decide)
      refine va_sld hx hb hX hbl hbA hS (show vp_in 1 6 from by unfold vp_in; decide) dL_law_2422 ?_
      refine lv_topi (fun x153 ex153 => ?_)
      obtain rfl : w1 = x153 := hw1.trans ex153.symm
      refine lv_aload_n hx hb dL_law_2423 rfl (lv_at hl 1 rfl) ?_
      refine lv_iload hx hb dL_law_2424 (lv_at hl 5 rfl) ?_
      refine lv_iconst (v := 2) hx hb dL_law_2426 (by decide) ?_
      refine lv_iadd hx hb dL_law_2427  ?_
      refine lv_topi (fun x154 ex154 => ?_)
      obtain rfl : x154 = 2 := ex154.trans (by decide)
      refine va_sld hx hb hX hbl hbA hS (show vp_in 2 6 from by unfold vp_in; decide) dL_law_2428 ?_
      refine lv_topi (fun x155 ex155 => ?_)
      obtain rfl : w2 = x155 := hw2.trans ex155.symm
      refine lv_aload_n hx hb dL_law_2429 rfl (lv_at hl 1 rfl) ?_
      refine lv_iload hx hb dL_law_2430 (lv_at hl 5 rfl) ?_
      refine lv_iconst (v := 3) hx hb dL_law_2432 (by decide) ?_
      refine lv_iadd hx hb dL_law_2433  ?_
      refine lv_topi (fun x156 ex156 => ?_)
      obtain rfl : x156 = 3 := ex156.trans (by decide)
      refine va_sld hx hb hX hbl hbA hS (show vp_in 3 6 from by unfold vp_in; decide) dL_law_2434 ?_
      refine lv_topi (fun x157 ex157 => ?_)
      obtain rfl : w3 = x157 := hw3.trans ex157.symm
      refine lv_aload_n hx hb dL_law_2435 rfl (lv_at hl 1 rfl) ?_
      refine lv_iload hx hb dL_law_2436 (lv_at hl 5 rfl) ?_
      refine lv_iconst (v := 4) hx hb dL_law_2438 (by decide) ?_
      refine lv_iadd hx hb dL_law_2439  ?_
      refine lv_topi (fun x158 ex158 => ?_)
      obtain rfl : x158 = 4 := ex158.trans (by decide)
      refine va_sld hx hb hX hbl hbA hS (show vp_in 4 6 from by unfold vp_in; decide) dL_law_2440 ?_
      refine lv_topi (fun x159 ex159 => ?_)
      obtain rfl : w4 = x159 := hw4.trans ex159.symm
      have hPc := hP.sub (ws' := [(aZ, .inr (15, fsZ)), (q_things, .inl (k_things, 5, .inl f_things))]) [0, 1] rfl
      have hDc := hD.sub (ws' := [(aZ, .inr (15, fsZ)), (q_things, .inl (k_things, 5, .inl f_things))]) [0, 1] (by decide) rfl
      have hKc := hK.sub (tys' := [(k_things, .int)]) [0] rfl
      have hFc := va_free (wc := [(aZ, .inr (15, fsZ)), (q_things, .inl (k_things, 5, .inl f_things))]) hD hS hA [0, 1] rfl
      refine va_calli (va_runV (As := [.int w1, .int w2, .int w3, .int w4]) (rest := []) ⟨hx, hb, hml, hown, hts⟩ (z_X12_like l dC dI H.size aZ fsZ q_things f_things k_things w1 w2 w3 w4 (fh_sub o_fsZ.2 [0, 1] rfl) hz_f_things) (cwV 4 hts g_lk_37_z_X12_like_270 rfl rfl rfl (by decide +kernel) ⟨Nat.le_of_ble_eq_true rfl, Nat.le_of_ble_eq_true rfl⟩) ⟨fun a U g mk q => by obtain ⟨q0, q1, qP, qK, qD⟩ := q; exact ⟨q0, q1, qP, va_K.moved (u := U) (U := U.calling g mk a) (Vm.Alike.refl U.vm) qK, qD⟩, va_recv hK hP (ci := 15) (q0 := 0) rfl rfl, fun U hU hW => ⟨rfl, by rw [hU], by rw [hU]; exact hPc, va_K.moved hW.alike hKc, hDc.weaken (fun _ _ _ _ => trivial)⟩⟩ rfl rfl hl.1 rfl (lv_room (Nat.le_of_ble_eq_true rfl)) dL_law_2441 ⟨Nat.le_of_ble_eq_true rfl, Nat.le_of_ble_eq_true rfl⟩) hS (fun q _ h => hFc q h) hFc (fun r160 u t H1 locs ht hvm hw hB hz1 hk1 hS => ?_)
      obtain ⟨s161, rfl⟩ : ∃ z, z = u := ⟨_, rfl⟩
      obtain ⟨hP1, hK1, hD1⟩ := hB
      rw [ht] at hP1
      try dsimp only at hw
      obtain ⟨hP, hD⟩ := va_join (wr := []) (w1 := [(aZ, .inr (15, s161)), (q_things, .inl (k_things, 5, .inl f_things))]) hP hD [0, 1] [] rfl rfl (by decide) (by decide) hk1 hFc hP1 hD1
      have hK := hK.sub (tys' := [(k_things, .int)]) [0] rfl
      generalize H1 = H at hP hS ⊢
      have hP : va_P (dC, dI) vwCl [(aZ, .inr (15, s161)), (q_things, .inl (k_things, 5, .inl f_things))] H := hP
      have hD : va_D A [(aZ, .inr (15, s161)), (q_things, .inl (k_things, 5, .inl f_things))] := hD
      rcases hw with ⟨c162, er163, o_s161⟩ | ⟨c164, c165, er166, o_s161⟩ | ⟨c167, c168, c169, er170, o_s161⟩ | ⟨c171, c172, c173, c174, er175, o_s161⟩
      · exact (by exfalso; (try simp only [i_lt, i_le, i_eq, kc_0, kc_4] at c112 c113 c162); omega)
      · skip
        subst er166
        have o_s161 := ow_on o_fsZ o_s161 (l' := [(0, .int 1), (48, .ref q_things), (48, .ref q_things)]) (w' := [0]) rfl rfl
        refine lv_istore (lv' := [(6, .int 0), (5, .int 1), (0, .ref b), (1, .ref aX), (2, .ref aZ), (3, .ref qO), (4, .int 0)]) hx hb dL_law_2444 hl (by decide) rfl (fun ls hl => ?_)
        refine lv_aload_n hx hb dL_law_2446 rfl (lv_at hl 4 rfl) ?_
        have hPc := hP.sub (ws' := [(aZ, .inr (15, s161))]) [0] rfl
        have hDc := hD.sub (ws' := [(aZ, .inr (15, s161))]) [0] (by decide) rfl
        have hKc := hK.sub (tys' := []) [] rfl
        have hFc := va_free (wc := [(aZ, .inr (15, s161))]) hD hS hA [0] rfl
        refine va_calli (va_runV (As := []) (rest := []) ⟨hx, hb, hml, hown, hts⟩ (z_X12_thrown l dC dI H.size aZ s161 (fh_sub o_s161.2 [0] rfl) ) (cwV 0 hts g_lk_37_z_X12_thrown_149 rfl rfl rfl (by decide +kernel) ⟨Nat.le_of_ble_eq_true rfl, Nat.le_of_ble_eq_true rfl⟩) ⟨fun a U g mk q => by obtain ⟨q0, q1, qP, qK, qD⟩ := q; exact ⟨q0, q1, qP, va_K.moved (u := U) (U := U.calling g mk a) (Vm.Alike.refl U.vm) qK, qD⟩, va_recv hK hP (ci := 15) (q0 := 0) rfl rfl, fun U hU hW => ⟨rfl, by rw [hU], by rw [hU]; exact hPc, va_K.moved hW.alike hKc, hDc.weaken (fun _ _ _ _ => trivial)⟩⟩ rfl rfl hl.1 rfl (lv_room (Nat.le_of_ble_eq_true rfl)) dL_law_2447 ⟨Nat.le_of_ble_eq_true rfl, Nat.le_of_ble_eq_true rfl⟩) hS (fun q _ h => hFc q h) hFc (fun r176 u t H1 locs ht hvm hw hB hz1 hk1 hS => ?_)
        obtain ⟨hP1, hK1, hD1⟩ := hB
        rw [ht] at hP1
        try dsimp only at hw
        obtain ⟨hP, hD⟩ := va_join (wr := [(q_things, .inl (k_things, 5, .inl f_things))]) (w1 := [(aZ, .inr (15, s161))]) hP hD [0] [1] rfl rfl (by decide) (by decide) hk1 hFc hP1 hD1
        have hK := hK.sub (tys' := [(k_things, .int)]) [0] rfl
        generalize H1 = H at hP hS ⊢
        have hP : va_P (dC, dI) vwCl [(q_things, .inl (k_things, 5, .inl f_things)), (aZ, .inr (15, s161))] H := hP
        have hD : va_D A [(q_things, .inl (k_things, 5, .inl f_things)), (aZ, .inr (15, s161))] := hD
        have er177 := hw
        subst er177
        refine lv_iload hx hb dL_law_2450 (lv_at hl 1 rfl) ?_
        refine lv_icmp_eq (tgt := 2457) hx hb dL_law_2452 (by decide) (fun c178 => ?_) (fun c178 => absurd c178 (by decide))
        refine lv_iload hx hb dL_law_2457 (lv_at hl 1 rfl) ?_
        refine lv_if_ne (tgt := 2481) hx hb dL_law_2459 (by decide) (fun c179 => ?_) (fun c179 => absurd c179 (by decide))
        refine lv_goto (tgt := 3111) hx hb dL_law_2481 (by decide) ?_
        exact lw_end hst C0 hA hAf hZ hY (Nat.le_of_ble_eq_true rfl) (Nat.le_of_ble_eq_true rfl) dC dI P0k P0 D0 hS ls (lv_sub hl [2, 6] rfl)
      · exact (by exfalso; (try simp only [i_lt, i_le, i_eq, kc_0, kc_4] at c112 c113 c167 c168); omega)
      · exact (by exfalso; (try simp only [i_lt, i_le, i_eq, kc_0, kc_4] at c112 c113 c171 c172); omega)
    · skip
      subst er118
      refine lv_istore (lv' := [(5, .int 1), (0, .ref b), (1, .ref aX), (2, .ref aZ), (3, .ref qO), (4, .int 0)]) hx hb dL_law_2414 hl (by decide) rfl (fun ls hl => ?_)
      refine lv_aload_n hx hb dL_law_2416 rfl (lv_at hl 3 rfl) ?_
      refine lv_aload_n hx hb dL_law_2417 rfl (lv_at hl 1 rfl) ?_
      refine lv_iload hx hb dL_law_2418 (lv_at hl 5 rfl) ?_
      refine lv_iconst (v := 1) hx hb dL_law_2420 (by decide) ?_
      refine lv_iadd hx hb dL_law_2421  ?_
      refine lv_topi (fun x180 ex180 => ?_)
      obtain rfl : x180 = 1 := ex180.trans (by decide)
      refine va_sld hx hb hX hbl hbA hS (show vp_in 1 6 from by unfold vp_in; decide) dL_law_2422 ?_
      refine lv_topi (fun x181 ex181 => ?_)
      obtain rfl : w1 = x181 := hw1.trans ex181.symm
      refine lv_aload_n hx hb dL_law_2423 rfl (lv_at hl 1 rfl) ?_
      refine lv_iload hx hb dL_law_2424 (lv_at hl 5 rfl) ?_
      refine lv_iconst (v := 2) hx hb dL_law_2426 (by decide) ?_
      refine lv_iadd hx hb dL_law_2427  ?_
      refine lv_topi (fun x182 ex182 => ?_)
      obtain rfl : x182 = 2 := ex182.trans (by decide)
      refine va_sld hx hb hX hbl hbA hS (show vp_in 2 6 from by unfold vp_in; decide) dL_law_2428 ?_
      refine lv_topi (fun x183 ex183 => ?_)
      obtain rfl : w2 = x183 := hw2.trans ex183.symm
      refine lv_aload_n hx hb dL_law_2429 rfl (lv_at hl 1 rfl) ?_
      refine lv_iload hx hb dL_law_2430 (lv_at hl 5 rfl) ?_
      refine lv_iconst (v := 3) hx hb dL_law_2432 (by decide) ?_
      refine lv_iadd hx hb dL_law_2433  ?_
      refine lv_topi (fun x184 ex184 => ?_)
      obtain rfl : x184 = 3 := ex184.trans (by decide)
      refine va_sld hx hb hX hbl hbA hS (show vp_in 3 6 from by unfold vp_in; decide) dL_law_2434 ?_
      refine lv_topi (fun x185 ex185 => ?_)
      obtain rfl : w3 = x185 := hw3.trans ex185.symm
      refine lv_aload_n hx hb dL_law_2435 rfl (lv_at hl 1 rfl) ?_
      refine lv_iload hx hb dL_law_2436 (lv_at hl 5 rfl) ?_
      refine lv_iconst (v := 4) hx hb dL_law_2438 (by decide) ?_
      refine lv_iadd hx hb dL_law_2439  ?_
      refine lv_topi (fun x186 ex186 => ?_)
      obtain rfl : x186 = 4 := ex186.trans (by decide)
      refine va_sld hx hb hX hbl hbA hS (show vp_in 4 6 from by unfold vp_in; decide) dL_law_2440 ?_
      refine lv_topi (fun x187 ex187 => ?_)
      obtain rfl : w4 = x187 := hw4.trans ex187.symm
      have hPc := hP.sub (ws' := [(aZ, .inr (15, fsZ)), (q_things, .inl (k_things, 5, .inl f_things))]) [0, 1] rfl
      have hDc := hD.sub (ws' := [(aZ, .inr (15, fsZ)), (q_things, .inl (k_things, 5, .inl f_things))]) [0, 1] (by decide) rfl
      have hKc := hK.sub (tys' := [(k_things, .int)]) [0] rfl
      have hFc := va_free (wc := [(aZ, .inr (15, fsZ)), (q_things, .inl (k_things, 5, .inl f_things))]) hD hS hA [0, 1] rfl
      refine va_calli (va_runV (As := [.int w1, .int w2, .int w3, .int w4]) (rest := []) ⟨hx, hb, hml, hown, hts⟩ (z_X12_like l dC dI H.size aZ fsZ q_things f_things k_things w1 w2 w3 w4 (fh_sub o_fsZ.2 [0, 1] rfl) hz_f_things) (cwV 4 hts g_lk_37_z_X12_like_270 rfl rfl rfl (by decide +kernel) ⟨Nat.le_of_ble_eq_true rfl, Nat.le_of_ble_eq_true rfl⟩) ⟨fun a U g mk q => by obtain ⟨q0, q1, qP, qK, qD⟩ := q; exact ⟨q0, q1, qP, va_K.moved (u := U) (U := U.calling g mk a) (Vm.Alike.refl U.vm) qK, qD⟩, va_recv hK hP (ci := 15) (q0 := 0) rfl rfl, fun U hU hW => ⟨rfl, by rw [hU], by rw [hU]; exact hPc, va_K.moved hW.alike hKc, hDc.weaken (fun _ _ _ _ => trivial)⟩⟩ rfl rfl hl.1 rfl (lv_room (Nat.le_of_ble_eq_true rfl)) dL_law_2441 ⟨Nat.le_of_ble_eq_true rfl, Nat.le_of_ble_eq_true rfl⟩) hS (fun q _ h => hFc q h) hFc (fun r188 u t H1 locs ht hvm hw hB hz1 hk1 hS => ?_)
      obtain ⟨s189, rfl⟩ : ∃ z, z = u := ⟨_, rfl⟩
      obtain ⟨hP1, hK1, hD1⟩ := hB
      rw [ht] at hP1
      try dsimp only at hw
      obtain ⟨hP, hD⟩ := va_join (wr := []) (w1 := [(aZ, .inr (15, s189)), (q_things, .inl (k_things, 5, .inl f_things))]) hP hD [0, 1] [] rfl rfl (by decide) (by decide) hk1 hFc hP1 hD1
      have hK := hK.sub (tys' := [(k_things, .int)]) [0] rfl
      generalize H1 = H at hP hS ⊢
      have hP : va_P (dC, dI) vwCl [(aZ, .inr (15, s189)), (q_things, .inl (k_things, 5, .inl f_things))] H := hP
      have hD : va_D A [(aZ, .inr (15, s189)), (q_things, .inl (k_things, 5, .inl f_things))] := hD
      rcases hw with ⟨c190, er191, o_s189⟩ | ⟨c192, c193, er194, o_s189⟩ | ⟨c195, c196, c197, er198, o_s189⟩ | ⟨c199, c200, c201, c202, er203, o_s189⟩
      · exact (by exfalso; (try simp only [i_lt, i_le, i_eq, kc_0, kc_4] at c115 c116 c190); omega)
      · exact (by exfalso; (try simp only [i_lt, i_le, i_eq, kc_0, kc_4] at c115 c116 c192 c193); omega)
      · skip
        subst er198
        have o_s189 := ow_on o_fsZ o_s189 (l' := [(0, .int 1), (48, .ref q_things), (48, .ref q_things)]) (w' := [0]) rfl rfl
        refine lv_istore (lv' := [(6, .int 0), (5, .int 1), (0, .ref b), (1, .ref aX), (2, .ref aZ), (3, .ref qO), (4, .int 0)]) hx hb dL_law_2444 hl (by decide) rfl (fun ls hl => ?_)
        refine lv_aload_n hx hb dL_law_2446 rfl (lv_at hl 4 rfl) ?_
        have hPc := hP.sub (ws' := [(aZ, .inr (15, s189))]) [0] rfl
        have hDc := hD.sub (ws' := [(aZ, .inr (15, s189))]) [0] (by decide) rfl
        have hKc := hK.sub (tys' := []) [] rfl
        have hFc := va_free (wc := [(aZ, .inr (15, s189))]) hD hS hA [0] rfl
        refine va_calli (va_runV (As := []) (rest := []) ⟨hx, hb, hml, hown, hts⟩ (z_X12_thrown l dC dI H.size aZ s189 (fh_sub o_s189.2 [0] rfl) ) (cwV 0 hts g_lk_37_z_X12_thrown_149 rfl rfl rfl (by decide +kernel) ⟨Nat.le_of_ble_eq_true rfl, Nat.le_of_ble_eq_true rfl⟩) ⟨fun a U g mk q => by obtain ⟨q0, q1, qP, qK, qD⟩ := q; exact ⟨q0, q1, qP, va_K.moved (u := U) (U := U.calling g mk a) (Vm.Alike.refl U.vm) qK, qD⟩, va_recv hK hP (ci := 15) (q0 := 0) rfl rfl, fun U hU hW => ⟨rfl, by rw [hU], by rw [hU]; exact hPc, va_K.moved hW.alike hKc, hDc.weaken (fun _ _ _ _ => trivial)⟩⟩ rfl rfl hl.1 rfl (lv_room (Nat.le_of_ble_eq_true rfl)) dL_law_2447 ⟨Nat.le_of_ble_eq_true rfl, Nat.le_of_ble_eq_true rfl⟩) hS (fun q _ h => hFc q h) hFc (fun r204 u t H1 locs ht hvm hw hB hz1 hk1 hS => ?_)
        obtain ⟨hP1, hK1, hD1⟩ := hB
        rw [ht] at hP1
        try dsimp only at hw
        obtain ⟨hP, hD⟩ := va_join (wr := [(q_things, .inl (k_things, 5, .inl f_things))]) (w1 := [(aZ, .inr (15, s189))]) hP hD [0] [1] rfl rfl (by decide) (by decide) hk1 hFc hP1 hD1
        have hK := hK.sub (tys' := [(k_things, .int)]) [0] rfl
        generalize H1 = H at hP hS ⊢
        have hP : va_P (dC, dI) vwCl [(q_things, .inl (k_things, 5, .inl f_things)), (aZ, .inr (15, s189))] H := hP
        have hD : va_D A [(q_things, .inl (k_things, 5, .inl f_things)), (aZ, .inr (15, s189))] := hD
        have er205 := hw
        subst er205
        refine lv_iload hx hb dL_law_2450 (lv_at hl 1 rfl) ?_
        refine lv_icmp_eq (tgt := 2457) hx hb dL_law_2452 (by decide) (fun c206 => ?_) (fun c206 => absurd c206 (by decide))
        refine lv_iload hx hb dL_law_2457 (lv_at hl 1 rfl) ?_
        refine lv_if_ne (tgt := 2481) hx hb dL_law_2459 (by decide) (fun c207 => ?_) (fun c207 => absurd c207 (by decide))
        refine lv_goto (tgt := 3111) hx hb dL_law_2481 (by decide) ?_
        exact lw_end hst C0 hA hAf hZ hY (Nat.le_of_ble_eq_true rfl) (Nat.le_of_ble_eq_true rfl) dC dI P0k P0 D0 hS ls (lv_sub hl [2, 6] rfl)
      · exact (by exfalso; (try simp only [i_lt, i_le, i_eq, kc_0] at c117 c201 c202); omega)
    · skip
      subst er123
      refine lv_istore (lv' := [(5, .int 1), (0, .ref b), (1, .ref aX), (2, .ref aZ), (3, .ref qO), (4, .int 0)]) hx hb dL_law_2414 hl (by decide) rfl (fun ls hl => ?_)
      refine lv_aload_n hx hb dL_law_2416 rfl (lv_at hl 3 rfl) ?_
      refine lv_aload_n hx hb dL_law_2417 rfl (lv_at hl 1 rfl) ?_
      refine lv_iload hx hb dL_law_2418 (lv_at hl 5 rfl) ?_
      refine lv_iconst (v := 1) hx hb dL_law_2420 (by decide) ?_
      refine lv_iadd hx hb dL_law_2421  ?_
      refine lv_topi (fun x208 ex208 => ?_)
      obtain rfl : x208 = 1 := ex208.trans (by decide)
      refine va_sld hx hb hX hbl hbA hS (show vp_in 1 6 from by unfold vp_in; decide) dL_law_2422 ?_
      refine lv_topi (fun x209 ex209 => ?_)
      obtain rfl : w1 = x209 := hw1.trans ex209.symm
      refine lv_aload_n hx hb dL_law_2423 rfl (lv_at hl 1 rfl) ?_
      refine lv_iload hx hb dL_law_2424 (lv_at hl 5 rfl) ?_
      refine lv_iconst (v := 2) hx hb dL_law_2426 (by decide) ?_
      refine lv_iadd hx hb dL_law_2427  ?_
      refine lv_topi (fun x210 ex210 => ?_)
      obtain rfl : x210 = 2 := ex210.trans (by decide)
      refine va_sld hx hb hX hbl hbA hS (show vp_in 2 6 from by unfold vp_in; decide) dL_law_2428 ?_
      refine lv_topi (fun x211 ex211 => ?_)
      obtain rfl : w2 = x211 := hw2.trans ex211.symm
      refine lv_aload_n hx hb dL_law_2429 rfl (lv_at hl 1 rfl) ?_
      refine lv_iload hx hb dL_law_2430 (lv_at hl 5 rfl) ?_
      refine lv_iconst (v := 3) hx hb dL_law_2432 (by decide) ?_
      refine lv_iadd hx hb dL_law_2433  ?_
      refine lv_topi (fun x212 ex212 => ?_)
      obtain rfl : x212 = 3 := ex212.trans (by decide)
      refine va_sld hx hb hX hbl hbA hS (show vp_in 3 6 from by unfold vp_in; decide) dL_law_2434 ?_
      refine lv_topi (fun x213 ex213 => ?_)
      obtain rfl : w3 = x213 := hw3.trans ex213.symm
      refine lv_aload_n hx hb dL_law_2435 rfl (lv_at hl 1 rfl) ?_
      refine lv_iload hx hb dL_law_2436 (lv_at hl 5 rfl) ?_
      refine lv_iconst (v := 4) hx hb dL_law_2438 (by decide) ?_
      refine lv_iadd hx hb dL_law_2439  ?_
      refine lv_topi (fun x214 ex214 => ?_)
      obtain rfl : x214 = 4 := ex214.trans (by decide)
      refine va_sld hx hb hX hbl hbA hS (show vp_in 4 6 from by unfold vp_in; decide) dL_law_2440 ?_
      refine lv_topi (fun x215 ex215 => ?_)
      obtain rfl : w4 = x215 := hw4.trans ex215.symm
      have hPc := hP.sub (ws' := [(aZ, .inr (15, fsZ)), (q_things, .inl (k_things, 5, .inl f_things))]) [0, 1] rfl
      have hDc := hD.sub (ws' := [(aZ, .inr (15, fsZ)), (q_things, .inl (k_things, 5, .inl f_things))]) [0, 1] (by decide) rfl
      have hKc := hK.sub (tys' := [(k_things, .int)]) [0] rfl
      have hFc := va_free (wc := [(aZ, .inr (15, fsZ)), (q_things, .inl (k_things, 5, .inl f_things))]) hD hS hA [0, 1] rfl
      refine va_calli (va_runV (As := [.int w1, .int w2, .int w3, .int w4]) (rest := []) ⟨hx, hb, hml, hown, hts⟩ (z_X12_like l dC dI H.size aZ fsZ q_things f_things k_things w1 w2 w3 w4 (fh_sub o_fsZ.2 [0, 1] rfl) hz_f_things) (cwV 4 hts g_lk_37_z_X12_like_270 rfl rfl rfl (by decide +kernel) ⟨Nat.le_of_ble_eq_true rfl, Nat.le_of_ble_eq_true rfl⟩) ⟨fun a U g mk q => by obtain ⟨q0, q1, qP, qK, qD⟩ := q; exact ⟨q0, q1, qP, va_K.moved (u := U) (U := U.calling g mk a) (Vm.Alike.refl U.vm) qK, qD⟩, va_recv hK hP (ci := 15) (q0 := 0) rfl rfl, fun U hU hW => ⟨rfl, by rw [hU], by rw [hU]; exact hPc, va_K.moved hW.alike hKc, hDc.weaken (fun _ _ _ _ => trivial)⟩⟩ rfl rfl hl.1 rfl (lv_room (Nat.le_of_ble_eq_true rfl)) dL_law_2441 ⟨Nat.le_of_ble_eq_true rfl, Nat.le_of_ble_eq_true rfl⟩) hS (fun q _ h => hFc q h) hFc (fun r216 u t H1 locs ht hvm hw hB hz1 hk1 hS => ?_)
      obtain ⟨s217, rfl⟩ : ∃ z, z = u := ⟨_, rfl⟩
      obtain ⟨hP1, hK1, hD1⟩ := hB
      rw [ht] at hP1
      try dsimp only at hw
      obtain ⟨hP, hD⟩ := va_join (wr := []) (w1 := [(aZ, .inr (15, s217)), (q_things, .inl (k_things, 5, .inl f_things))]) hP hD [0, 1] [] rfl rfl (by decide) (by decide) hk1 hFc hP1 hD1
      have hK := hK.sub (tys' := [(k_things, .int)]) [0] rfl
      generalize H1 = H at hP hS ⊢
      have hP : va_P (dC, dI) vwCl [(aZ, .inr (15, s217)), (q_things, .inl (k_things, 5, .inl f_things))] H := hP
      have hD : va_D A [(aZ, .inr (15, s217)), (q_things, .inl (k_things, 5, .inl f_things))] := hD
      rcases hw with ⟨c218, er219, o_s217⟩ | ⟨c220, c221, er222, o_s217⟩ | ⟨c223, c224, c225, er226, o_s217⟩ | ⟨c227, c228, c229, c230, er231, o_s217⟩
      · exact (by exfalso; (try simp only [i_lt, i_le, i_eq, kc_0, kc_4] at c119 c120 c218); omega)
      · exact (by exfalso; (try simp only [i_lt, i_le, i_eq, kc_0, kc_4] at c119 c120 c220 c221); omega)
      · exact (by exfalso; (try simp only [i_lt, i_le, i_eq, kc_0] at c121 c122 c225); omega)
      · skip
        subst er231
        have o_s217 := ow_on o_fsZ o_s217 (l' := [(0, .int 1), (48, .ref q_things), (48, .ref q_things)]) (w' := [0]) rfl rfl
        refine lv_istore (lv' := [(6, .int 0), (5, .int 1), (0, .ref b), (1, .ref aX), (2, .ref aZ), (3, .ref qO), (4, .int 0)]) hx hb dL_law_2444 hl (by decide) rfl (fun ls hl => ?_)
        refine lv_aload_n hx hb dL_law_2446 rfl (lv_at hl 4 rfl) ?_
        have hPc := hP.sub (ws' := [(aZ, .inr (15, s217))]) [0] rfl
        have hDc := hD.sub (ws' := [(aZ, .inr (15, s217))]) [0] (by decide) rfl
        have hKc := hK.sub (tys' := []) [] rfl
        have hFc := va_free (wc := [(aZ, .inr (15, s217))]) hD hS hA [0] rfl
        refine va_calli (va_runV (As := []) (rest := []) ⟨hx, hb, hml, hown, hts⟩ (z_X12_thrown l dC dI H.size aZ s217 (fh_sub o_s217.2 [0] rfl) ) (cwV 0 hts g_lk_37_z_X12_thrown_149 rfl rfl rfl (by decide +kernel) ⟨Nat.le_of_ble_eq_true rfl, Nat.le_of_ble_eq_true rfl⟩) ⟨fun a U g mk q => by obtain ⟨q0, q1, qP, qK, qD⟩ := q; exact ⟨q0, q1, qP, va_K.moved (u := U) (U := U.calling g mk a) (Vm.Alike.refl U.vm) qK, qD⟩, va_recv hK hP (ci := 15) (q0 := 0) rfl rfl, fun U hU hW => ⟨rfl, by rw [hU], by rw [hU]; exact hPc, va_K.moved hW.alike hKc, hDc.weaken (fun _ _ _ _ => trivial)⟩⟩ rfl rfl hl.1 rfl (lv_room (Nat.le_of_ble_eq_true rfl)) dL_law_2447 ⟨Nat.le_of_ble_eq_true rfl, Nat.le_of_ble_eq_true rfl⟩) hS (fun q _ h => hFc q h) hFc (fun r232 u t H1 locs ht hvm hw hB hz1 hk1 hS => ?_)
        obtain ⟨hP1, hK1, hD1⟩ := hB
        rw [ht] at hP1
        try dsimp only at hw
        obtain ⟨hP, hD⟩ := va_join (wr := [(q_things, .inl (k_things, 5, .inl f_things))]) (w1 := [(aZ, .inr (15, s217))]) hP hD [0] [1] rfl rfl (by decide) (by decide) hk1 hFc hP1 hD1
        have hK := hK.sub (tys' := [(k_things, .int)]) [0] rfl
        generalize H1 = H at hP hS ⊢
        have hP : va_P (dC, dI) vwCl [(q_things, .inl (k_things, 5, .inl f_things)), (aZ, .inr (15, s217))] H := hP
        have hD : va_D A [(q_things, .inl (k_things, 5, .inl f_things)), (aZ, .inr (15, s217))] := hD
        have er233 := hw
        subst er233
        refine lv_iload hx hb dL_law_2450 (lv_at hl 1 rfl) ?_
        refine lv_icmp_eq (tgt := 2457) hx hb dL_law_2452 (by decide) (fun c234 => ?_) (fun c234 => absurd c234 (by decide))
        refine lv_iload hx hb dL_law_2457 (lv_at hl 1 rfl) ?_
        refine lv_if_ne (tgt := 2481) hx hb dL_law_2459 (by decide) (fun c235 => ?_) (fun c235 => absurd c235 (by decide))
        refine lv_goto (tgt := 3111) hx hb dL_law_2481 (by decide) ?_
        exact lw_end hst C0 hA hAf hZ hY (Nat.le_of_ble_eq_true rfl) (Nat.le_of_ble_eq_true rfl) dC dI P0k P0 D0 hS ls (lv_sub hl [2, 6] rfl)

