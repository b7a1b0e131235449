set_option maxRecDepth 20000 in
theorem g_lk_31_z_L_member_246 : GoodIn lwW (va_wsS RL 246 yL_member w_z_L_member) := goodIn_app (goodIn_sub (ws := ([.methodLink RL 246 yL_member, .static yL_member, .initialized RL] : List Cond)) (gm_c (gm_at lwV_66_in 11 rfl) (gm_c (gm_at lwV_67_in 0 rfl) (gm_c (gm_at lwV_5_in 10 rfl) gm_nil))) (by decide +kernel)) (goodIn_ca (goodIn_sub (ws := .codeWith yL_member cL_member 7 (some .int) [(0, 14, 17, 30)] :: l_z_L_member) (gm_c (gm_at lwV_67_in 4 rfl) (gm_c (gm_at lwV_67_in 5 rfl) (gm_c (gm_at lwV_67_in 6 rfl) (gm_c (gm_at lwV_67_in 7 rfl) (gm_c (gm_at lwV_0_in 3 rfl) (gm_c (gm_at lwV_19_in 11 rfl) (gm_c (gm_at lwV_67_in 8 rfl) (gm_c (gm_at lwV_55_in 7 rfl) (gm_c (gm_at lwV_55_in 8 rfl) (gm_c (gm_at lwV_20_in 4 rfl) (gm_c (gm_at lwV_20_in 5 rfl) (gm_c (gm_at lwV_55_in 0 rfl) (gm_c (gm_at lwV_67_in 9 rfl) (gm_c (gm_at lwV_67_in 10 rfl) (gm_c (gm_at lwV_67_in 11 rfl) (gm_c (gm_at lwV_55_in 4 rfl) (gm_c (gm_at lwV_68_in 0 rfl) (gm_c (gm_at lwV_68_in 1 rfl) (gm_c (gm_at lwV_68_in 2 rfl) (gm_c (gm_at lwV_55_in 9 rfl) (gm_c (gm_at lwV_68_in 3 rfl) (gm_c (gm_at lwV_56_in 9 rfl) (gm_c (gm_at lwV_66_in 0 rfl) (gm_c (gm_at lwV_66_in 1 rfl) (gm_c (gm_at lwV_66_in 2 rfl) (gm_c (gm_at lwV_64_in 10 rfl) (gm_c (gm_at lwV_68_in 4 rfl) (gm_c (gm_at lwV_68_in 5 rfl) (gm_c (gm_at lwV_68_in 6 rfl) (gm_c (gm_at lwV_68_in 7 rfl) (gm_c (gm_at lwV_66_in 4 rfl) (gm_c (gm_at lwV_65_in 1 rfl) (gm_c (gm_at lwV_66_in 5 rfl) (gm_c (gm_at lwV_66_in 6 rfl) (gm_c (gm_at lwV_3_in 1 rfl) (gm_c (gm_at lwV_3_in 2 rfl) (gm_c (gm_at lwV_65_in 2 rfl) (gm_c (gm_at lwV_66_in 7 rfl) (gm_c (gm_at lwV_3_in 3 rfl) (gm_c (gm_at lwV_68_in 8 rfl) (gm_c (gm_at lwV_56_in 5 rfl) (gm_c (gm_at lwV_68_in 9 rfl) (gm_c (gm_at lwV_64_in 7 rfl) (gm_c (gm_at lwV_64_in 8 rfl) (gm_c (gm_at lwV_64_in 9 rfl) (gm_c (gm_at lwV_68_in 10 rfl) (gm_c (gm_at lwV_65_in 0 rfl) (gm_c (gm_at lwV_65_in 3 rfl) (gm_c (gm_at lwV_65_in 4 rfl) (gm_c (gm_at lwV_65_in 5 rfl) (gm_c (gm_at lwV_65_in 6 rfl) (gm_c (gm_at lwV_65_in 7 rfl) (gm_c (gm_at lwV_65_in 8 rfl) (gm_c (gm_at lwV_28_in 9 rfl) (gm_c (gm_at lwV_65_in 9 rfl) (gm_c (gm_at lwV_65_in 10 rfl) (gm_c (gm_at lwV_28_in 10 rfl) (gm_c (gm_at lwV_28_in 11 rfl) (gm_c (gm_at lwV_29_in 0 rfl) (gm_c (gm_at lwV_29_in 1 rfl) gm_nil)))))))))))))))))))))))))))))))))))))))))))))))))))))))))))) (by decide +kernel)) (goodIn_app (goodIn_in il_at0_X11_223 gd_at0_X11_223) (goodIn_app (goodIn_in il_X11 gd_X11) (goodIn_app (goodIn_in il_X5 gd_X5) (goodIn_in il_X8 gd_X8)))))
set_option maxRecDepth 20000 in
theorem g_lk_31_z_X12_member_248 : GoodIn lwW (wsV RL 248 RX12 yX12_member w_z_X12_member) := goodIn_app (goodIn_sub (ws := ([.methodLink RL 248 yX12_member, .instanceMethod yX12_member, .selects RX12 yX12_member yX12_member, .initialized RX12] : List Cond)) (gm_c (gm_at lwV_67_in 1 rfl) (gm_c (gm_at lwV_67_in 2 rfl) (gm_c (gm_at lwV_67_in 3 rfl) (gm_c (gm_at lwV_0_in 7 rfl) gm_nil)))) (by decide +kernel)) (goodIn_ca (goodIn_sub (ws := .code yX12_member cX12_member 8 (some .int) :: l_z_X12_member) (gm_c (gm_at lwV_68_in 11 rfl) (gm_c (gm_at lwV_57_in 0 rfl) (gm_c (gm_at lwV_57_in 1 rfl) (gm_c (gm_at lwV_57_in 2 rfl) (gm_c (gm_at lwV_0_in 7 rfl) (gm_c (gm_at lwV_1_in 5 rfl) (gm_c (gm_at lwV_57_in 9 rfl) (gm_c (gm_at lwV_57_in 10 rfl) gm_nil)))))))) (by decide +kernel)) (goodIn_in il_X12 gd_X12))
set_option maxRecDepth 20000 in
theorem g_lk_31_z_X12_thrown_149 : GoodIn lwW (wsV RL 149 RX12 yX12_thrown w_z_X12_thrown) := goodIn_app (goodIn_sub (ws := ([.methodLink RL 149 yX12_thrown, .instanceMethod yX12_thrown, .selects RX12 yX12_thrown yX12_thrown, .initialized RX12] : List Cond)) (gm_c (gm_at lwV_6_in 2 rfl) (gm_c (gm_at lwV_6_in 3 rfl) (gm_c (gm_at lwV_6_in 4 rfl) (gm_c (gm_at lwV_0_in 7 rfl) gm_nil)))) (by decide +kernel)) (goodIn_ca (goodIn_sub (ws := .code yX12_thrown cX12_thrown 1 (some .int) :: l_z_X12_thrown) (gm_c (gm_at lwV_9_in 9 rfl) (gm_c (gm_at lwV_1_in 5 rfl) gm_nil)) (by decide +kernel)) (goodIn_in il_X12 gd_X12))
set_option maxHeartbeats 4000000 in
set_option maxRecDepth 100000 in
/-- the law, one call: member -/
theorem lk_31 {p : Program} {l : Launch} {e : Env} {s : State} {m : MethodId} {below : List Frame} {meth : Method} {c : Code} {b : Nat} {xs : Nat → Int32} (hst : l.stackTraces = false) (C0 : lw_At p s m meth c b 6 xs) {A : Nat → Prop} (hA : ∀ q : Nat, s.heap.size ≤ q → A q) (hAf : ∀ q : Nat, A q → s.heap.size ≤ q) (hZ : Zz A s) (hY : Yy s) (dC : Nat → ClassId) (dI : Nat → Nat → Nat) (aX : Nat) (fsX : List Value) (qP : Nat) (gP : Nat → Option Nat) (kP : ClassId) (ap : Nat) (fsp : List Value) (aSh : Nat) (fss : List Value) (ql : Nat) (fl : Nat → Int32) (kl : ClassId) (qt : Nat) (ft : Nat → Int32) (kt : ClassId) (qk : Nat) (fk : Nat → Int32) (kk : ClassId) (aZ : Nat) (fsZ : List Value) (q_things : Nat) (f_things : Nat → Int32) (k_things : ClassId) (qO : Nat) (qri : Nat) (qtw : Nat) (w1 : Int32) (hw1 : w1 = xs (1 : Int32).toNatClampNeg) (w2 : Int32) (hw2 : w2 = xs (2 : Int32).toNatClampNeg) (w3 : Int32) (hw3 : w3 = xs (3 : Int32).toNatClampNeg) (w4 : Int32) (hw4 : w4 = xs (4 : Int32).toNatClampNeg) (w5 : Int32) (hw5 : w5 = xs (5 : Int32).toNatClampNeg) (k_fsX : fh fsX 18 [(4, .ref qP)]) (k_fsp : fh fsp 21 [(0, .int 0), (20, .ref aSh)]) (k_fss : fh fss 18 [(1, .int 0), (13, .ref ql), (15, .ref qt), (17, .ref qk), (8, .ref qri), (10, .ref qtw)]) (k_fsZ : fh fsZ 150 [(0, .int 0), (48, .ref q_things)]) (hg : gP w1.toNatClampNeg = some ap) (hz_f_things : ∀ j, f_things j = 0) {H : Heap} {locs : List Loc} (hK : va_K (dC, dI) vwCl [(kP, .object "HeapWorks$Picture"), (kl, .int), (kt, .int), (kk, .int), (k_things, .int)] s) (hP : va_P (dC, dI) vwCl [(aX, .inr (14, fsX)), (qP, .inl (kP, 4, .inr (.inr (.inr (.inr gP))))), (ap, .inr (8, fsp)), (aSh, .inr (11, fss)), (ql, .inl (kl, 400, .inl fl)), (qt, .inl (kt, 400, .inl ft)), (qk, .inl (kk, 512, .inl fk)), (aZ, .inr (15, fsZ)), (q_things, .inl (k_things, 5, .inl f_things))] H) (hD : va_D A [(aX, .inr (14, fsX)), (qP, .inl (kP, 4, .inr (.inr (.inr (.inr gP))))), (ap, .inr (8, fsp)), (aSh, .inr (11, fss)), (ql, .inl (kl, 400, .inl fl)), (qt, .inl (kt, 400, .inl ft)), (qk, .inl (kk, 512, .inl fk)), (aZ, .inr (15, fsZ)), (q_things, .inl (k_things, 5, .inl f_things))]) (hS : va_S A s.heap H locs) (ls : Array Slot) (hl : lv_has ls 8 [(0, .ref b), (1, .ref aX), (2, .ref aZ), (3, .ref qO), (4, .int 0)]) : W p l e room_1 s m #[Value.ref b] below meth c H locs 390 571359 (lw_Z below #[Value.ref b] s) (F0 m 2030 ls []) := by
  obtain ⟨hx, hb, hr, hml, hown0, hts0, hX, hbl, hlocks, hgv⟩ := id C0
  have hown : s.vm.findClass RL = some m.cls := hown0
  have hts : ∀ w ∈ lwW, w.before #[Value.ref b] s = true := fun w h => hts0 w (lwW_in w h)
  have hbA : ¬ A b := fun h => absurd (hAf b h) (Nat.not_le.mpr hbl)
  have o_fsX := ow_0 k_fsX
  have o_fsp := ow_0 k_fsp
  have o_fss := ow_0 k_fss
  have o_fsZ := ow_0 k_fsZ
  refine lv_aload_n hx hb dL_law_2030 rfl (lv_at hl 1 rfl) ?_
  refine lv_aload_n hx hb dL_law_2031 rfl (lv_at hl 0 rfl) ?_
  refine lv_iload hx hb dL_law_2032 (lv_at hl 4 rfl) ?_
  refine lv_iconst (v := 1) hx hb dL_law_2034 (by decide) ?_
  refine lv_iadd hx hb dL_law_2035  ?_
  refine lv_topi (fun x101 ex101 => ?_)
  obtain rfl : x101 = 1 := ex101.trans (by decide)
  refine va_sld hx hb hX hbl hbA hS (show vp_in 1 6 from by unfold vp_in; decide) dL_law_2036 ?_
  refine lv_topi (fun x102 ex102 => ?_)
  obtain rfl : w1 = x102 := hw1.trans ex102.symm
  refine lv_aload_n hx hb dL_law_2037 rfl (lv_at hl 0 rfl) ?_
  refine lv_iload hx hb dL_law_2038 (lv_at hl 4 rfl) ?_
  refine lv_iconst (v := 2) hx hb dL_law_2040 (by decide) ?_
  refine lv_iadd hx hb dL_law_2041  ?_
  refine lv_topi (fun x103 ex103 => ?_)
  obtain rfl : x103 = 2 := ex103.trans (by decide)
  refine va_sld hx hb hX hbl hbA hS (show vp_in 2 6 from by unfold vp_in; decide) dL_law_2042 ?_
  refine lv_topi (fun x104 ex104 => ?_)
  obtain rfl : w2 = x104 := hw2.trans ex104.symm
  refine lv_aload_n hx hb dL_law_2043 rfl (lv_at hl 0 rfl) ?_
  refine lv_iload hx hb dL_law_2044 (lv_at hl 4 rfl) ?_
  refine lv_iconst (v := 3) hx hb dL_law_2046 (by decide) ?_
  refine lv_iadd hx hb dL_law_2047  ?_
  refine lv_topi (fun x105 ex105 => ?_)
  obtain rfl : x105 = 3 := ex105.trans (by decide)
  refine va_sld hx hb hX hbl hbA hS (show vp_in 3 6 from by unfold vp_in; decide) dL_law_2048 ?_
  refine lv_topi (fun x106 ex106 => ?_)
  obtain rfl : w3 = x106 := hw3.trans ex106.symm
  refine lv_aload_n hx hb dL_law_2049 rfl (lv_at hl 0 rfl) ?_
  refine lv_iload hx hb dL_law_2050 (lv_at hl 4 rfl) ?_
  refine lv_iconst (v := 4) hx hb dL_law_2052 (by decide) ?_
  refine lv_iadd hx hb dL_law_2053  ?_
  refine lv_topi (fun x107 ex107 => ?_)
  obtain rfl : x107 = 4 := ex107.trans (by decide)
  refine va_sld hx hb hX hbl hbA hS (show vp_in 4 6 from by unfold vp_in; decide) dL_law_2054 ?_
  refine lv_topi (fun x108 ex108 => ?_)
  obtain rfl : w4 = x108 := hw4.trans ex108.symm
  refine lv_aload_n hx hb dL_law_2055 rfl (lv_at hl 3 rfl) ?_
  have hPc := hP.sub (ws' := [(aX, .inr (14, fsX)), (qP, .inl (kP, 4, .inr (.inr (.inr (.inr gP))))), (ap, .inr (8, fsp)), (aSh, .inr (11, fss)), (ql, .inl (kl, 400, .inl fl)), (qt, .inl (kt, 400, .inl ft)), (qk, .inl (kk, 512, .inl fk))]) [0, 1, 2, 3, 4, 5, 6] rfl
  have hDc := hD.sub (ws' := [(aX, .inr (14, fsX)), (qP, .inl (kP, 4, .inr (.inr (.inr (.inr gP))))), (ap, .inr (8, fsp)), (aSh, .inr (11, fss)), (ql, .inl (kl, 400, .inl fl)), (qt, .inl (kt, 400, .inl ft)), (qk, .inl (kk, 512, .inl fk))]) [0, 1, 2, 3, 4, 5, 6] (by decide) rfl
  have hKc := hK.sub (tys' := [(kP, .object "HeapWorks$Picture"), (kl, .int), (kt, .int), (kk, .int)]) [0, 1, 2, 3] rfl
  have hFc := va_free (wc := [(aX, .inr (14, fsX)), (qP, .inl (kP, 4, .inr (.inr (.inr (.inr gP))))), (ap, .inr (8, fsp)), (aSh, .inr (11, fss)), (ql, .inl (kl, 400, .inl fl)), (qt, .inl (kt, 400, .inl ft)), (qk, .inl (kk, 512, .inl fk))]) hD hS hA [0, 1, 2, 3, 4, 5, 6] rfl
  refine vx_calli (vx_runSX (As := [.ref aX, .int w1, .int w2, .int w3, .int w4, .ref qO]) (rest := []) ⟨hx, hb, hml, hown, hts⟩ (z_L_member l dC dI H.size aX fsX qP gP kP ap fsp aSh fss ql fl kl qt ft kt qk fk kk w1 w2 w3 w4 qO qri qtw (fh_sub o_fsX.2 [0] rfl) (fh_sub o_fsp.2 [0, 1] rfl) (fh_sub o_fss.2 [0, 1, 2, 3, 4, 5] rfl) hst hg) (vx_cwSW 6 hts g_lk_31_z_L_member_246 rfl rfl rfl (by decide +kernel) ⟨Nat.le_of_ble_eq_true rfl, Nat.le_of_ble_eq_true rfl⟩) ⟨fun a U g mk q => by obtain ⟨q0, q1, qZ, qY, qP, qK, qD⟩ := q; exact ⟨q0, q1, Zz_call qZ, Yy_call qY, qP, va_K.moved (u := U) (U := U.calling g mk a) (Vm.Alike.refl U.vm) qK, qD⟩, fun U hU hW => ⟨rfl, by rw [hU], Zz_go hZ hS hFc hU hW, Yy_go hY hW, by rw [hU]; exact hPc, va_K.moved hW.alike hKc, hDc.weaken (fun _ _ _ _ => trivial)⟩⟩ rfl rfl hl.1 rfl (lv_room (Nat.le_of_ble_eq_true rfl)) dL_law_2056 ⟨Nat.le_of_ble_eq_true rfl, Nat.le_of_ble_eq_true rfl⟩) hS (fun q _ h => hFc q h) hFc (fun q _ h => hFc q h) (fun E ce q9 u t H1 locs ht hvm hpx hBX hz1 hk1 hS hce hcv hcl => ?_) (fun r109 u t H1 locs ht hvm hw hB hz1 hk1 hS => ?_)
  · exact False.elim hBX
  · skip
    obtain ⟨hP1, hK1, hD1⟩ := hB
    rw [ht] at hP1
    try dsimp only at hw
    obtain ⟨hP, hD⟩ := va_join (wr := [(aZ, .inr (15, fsZ)), (q_things, .inl (k_things, 5, .inl f_things))]) (w1 := []) hP hD [0, 1, 2, 3, 4, 5, 6] [7, 8] rfl rfl (by decide) (by decide) hk1 hFc hP1 hD1
    have hK := hK.sub (tys' := [(k_things, .int)]) [4] rfl
    generalize H1 = H at hP hS ⊢
    refine W.widen (k := 391) (n := 571365) (by omega) (by omega) ?_
    have hP : va_P (dC, dI) vwCl [(aZ, .inr (15, fsZ)), (q_things, .inl (k_things, 5, .inl f_things))] H := hP
    have hD : va_D A [(aZ, .inr (15, fsZ)), (q_things, .inl (k_things, 5, .inl f_things))] := hD
    rcases hw with ⟨c110, er111⟩ | ⟨c112, c113, er114⟩ | ⟨c115, c116, c117, er118⟩ | ⟨c119, c120, c121, c122, er123⟩ | ⟨c124, c125, c126, c127, c128, er129⟩ | ⟨c130, c131, c132, c133, c134, c135, c136, er137⟩ | ⟨c138, c139, c140, c141, c142, c143, c144, er145⟩ | ⟨c146, c147, c148, c149, c150, c151, er152⟩
    · skip
      subst er111
      refine lv_istore (lv' := [(5, .int 1), (0, .ref b), (1, .ref aX), (2, .ref aZ), (3, .ref qO), (4, .int 0)]) hx hb dL_law_2059 hl (by decide) rfl (fun ls hl => ?_)
      refine lv_aload_n hx hb dL_law_2061 rfl (lv_at hl 3 rfl) ?_
      refine lv_aload_n hx hb dL_law_2062 rfl (lv_at hl 1 rfl) ?_
      refine lv_iload hx hb dL_law_2063 (lv_at hl 5 rfl) ?_
      refine lv_iconst (v := 1) hx hb dL_law_2065 (by decide) ?_
      refine lv_iadd hx hb dL_law_2066  ?_
      refine lv_topi (fun x153 ex153 => ?_)
      obtain rfl : x153 = 1 := ex153.trans (by decide)
      refine va_sld hx hb hX hbl hbA hS (show vp_in 1 6 from by unfold vp_in; decide) dL_law_2067 ?_
      refine lv_topi (fun x154 ex154 => ?_)
      obtain rfl : w1 = x154 := hw1.trans ex154.symm
      refine lv_aload_n hx hb dL_law_2068 rfl (lv_at hl 1 rfl) ?_
      refine lv_iload hx hb dL_law_2069 (lv_at hl 5 rfl) ?_
      refine lv_iconst (v := 2) hx hb dL_law_2071 (by decide) ?_
      refine lv_iadd hx hb dL_law_2072  ?_
      refine lv_topi (fun x155 ex155 => ?_)
      obtain rfl : x155 = 2 := ex155.trans (by decide)
      refine va_sld hx hb hX hbl hbA hS (show vp_in 2 6 from by unfold vp_in; decide) dL_law_2073 ?_
      refine lv_topi (fun x156 ex156 => ?_)
      obtain rfl : w2 = x156 := hw2.trans ex156.symm
      refine lv_aload_n hx hb dL_law_2074 rfl (lv_at hl 1 rfl) ?_
      refine lv_iload hx hb dL_law_2075 (lv_at hl 5 rfl) ?_
      refine lv_iconst (v := 3) hx hb dL_law_2077 (by decide) ?_
      refine lv_iadd hx hb dL_law_2078  ?_
      refine lv_topi (fun x157 ex157 => ?_)
      obtain rfl : x157 = 3 := ex157.trans (by decide)
      refine va_sld hx hb hX hbl hbA hS (show vp_in 3 6 from by unfold vp_in; decide) dL_law_2079 ?_
      refine lv_topi (fun x158 ex158 => ?_)
      obtain rfl : w3 = x158 := hw3.trans ex158.symm
      refine lv_aload_n hx hb dL_law_2080 rfl (lv_at hl 1 rfl) ?_
      refine lv_iload hx hb dL_law_2081 (lv_at hl 5 rfl) ?_
      refine lv_iconst (v := 4) hx hb dL_law_2083 (by decide) ?_
      refine lv_iadd hx hb dL_law_2084  ?_
      refine lv_topi (fun x159 ex159 => ?_)
      obtain rfl : x159 = 4 := ex159.trans (by decide)
      refine va_sld hx hb hX hbl hbA hS (show vp_in 4 6 from by unfold vp_in; decide) dL_law_2085 ?_
      refine lv_topi (fun x160 ex160 => ?_)
      obtain rfl : w4 = x160 := hw4.trans ex160.symm
      have hPc := hP.sub (ws' := [(aZ, .inr (15, fsZ)), (q_things, .inl (k_things, 5, .inl f_things))]) [0, 1] rfl
      have hDc := hD.sub (ws' := [(aZ, .inr (15, fsZ)), (q_things, .inl (k_things, 5, .inl f_things))]) [0, 1] (by decide) rfl
      have hKc := hK.sub (tys' := [(k_things, .int)]) [0] rfl
      have hFc := va_free (wc := [(aZ, .inr (15, fsZ)), (q_things, .inl (k_things, 5, .inl f_things))]) hD hS hA [0, 1] rfl
      refine va_calli (va_runV (As := [.int w1, .int w2, .int w3, .int w4]) (rest := []) ⟨hx, hb, hml, hown, hts⟩ (z_X12_member l dC dI H.size aZ fsZ q_things f_things k_things w1 w2 w3 w4 (fh_sub o_fsZ.2 [0, 1] rfl) hz_f_things) (cwV 4 hts g_lk_31_z_X12_member_248 rfl rfl rfl (by decide +kernel) ⟨Nat.le_of_ble_eq_true rfl, Nat.le_of_ble_eq_true rfl⟩) ⟨fun a U g mk q => by obtain ⟨q0, q1, qP, qK, qD⟩ := q; exact ⟨q0, q1, qP, va_K.moved (u := U) (U := U.calling g mk a) (Vm.Alike.refl U.vm) qK, qD⟩, va_recv hK hP (ci := 15) (q0 := 0) rfl rfl, fun U hU hW => ⟨rfl, by rw [hU], by rw [hU]; exact hPc, va_K.moved hW.alike hKc, hDc.weaken (fun _ _ _ _ => trivial)⟩⟩ rfl rfl hl.1 rfl (lv_room (Nat.le_of_ble_eq_true rfl)) dL_law_2086 ⟨Nat.le_of_ble_eq_true rfl, Nat.le_of_ble_eq_true rfl⟩) hS (fun q _ h => hFc q h) hFc (fun r161 u t H1 locs ht hvm hw hB hz1 hk1 hS => ?_)
      obtain ⟨s162, rfl⟩ : ∃ z, z = u := ⟨_, rfl⟩
      obtain ⟨hP1, hK1, hD1⟩ := hB
      rw [ht] at hP1
      try dsimp only at hw
      obtain ⟨hP, hD⟩ := va_join (wr := []) (w1 := [(aZ, .inr (15, s162)), (q_things, .inl (k_things, 5, .inl f_things))]) hP hD [0, 1] [] rfl rfl (by decide) (by decide) hk1 hFc hP1 hD1
      have hK := hK.sub (tys' := [(k_things, .int)]) [0] rfl
      generalize H1 = H at hP hS ⊢
      have hP : va_P (dC, dI) vwCl [(aZ, .inr (15, s162)), (q_things, .inl (k_things, 5, .inl f_things))] H := hP
      have hD : va_D A [(aZ, .inr (15, s162)), (q_things, .inl (k_things, 5, .inl f_things))] := hD
      rcases hw with ⟨c163, er164, o_s162⟩ | ⟨c165, c166, er167, o_s162⟩ | ⟨c168, c169, c170, er171, o_s162⟩ | ⟨c172, c173, c174, c175, er176, o_s162⟩ | ⟨c177, c178, c179, c180, c181, er182, o_s162⟩ | ⟨c183, c184, c185, c186, c187, c188, er189, o_s162⟩ | ⟨c190, c191, c192, c193, c194, c195, er196, o_s162⟩
      · skip
        subst er164
        have o_s162 := ow_on o_fsZ o_s162 (l' := [(0, .int 1), (48, .ref q_things), (48, .ref q_things)]) (w' := [0]) rfl rfl
        refine lv_istore (lv' := [(6, .int 0), (5, .int 1), (0, .ref b), (1, .ref aX), (2, .ref aZ), (3, .ref qO), (4, .int 0)]) hx hb dL_law_2089 hl (by decide) rfl (fun ls hl => ?_)
        refine lv_aload_n hx hb dL_law_2091 rfl (lv_at hl 4 rfl) ?_
        have hPc := hP.sub (ws' := [(aZ, .inr (15, s162))]) [0] rfl
        have hDc := hD.sub (ws' := [(aZ, .inr (15, s162))]) [0] (by decide) rfl
        have hKc := hK.sub (tys' := []) [] rfl
        have hFc := va_free (wc := [(aZ, .inr (15, s162))]) hD hS hA [0] rfl
        refine va_calli (va_runV (As := []) (rest := []) ⟨hx, hb, hml, hown, hts⟩ (z_X12_thrown l dC dI H.size aZ s162 (fh_sub o_s162.2 [0] rfl) ) (cwV 0 hts g_lk_31_z_X12_thrown_149 rfl rfl rfl (by decide +kernel) ⟨Nat.le_of_ble_eq_true rfl, Nat.le_of_ble_eq_true rfl⟩) ⟨fun a U g mk q => by obtain ⟨q0, q1, qP, qK, qD⟩ := q; exact ⟨q0, q1, qP, va_K.moved (u := U) (U := U.calling g mk a) (Vm.Alike.refl U.vm) qK, qD⟩, va_recv hK hP (ci := 15) (q0 := 0) rfl rfl, fun U hU hW => ⟨rfl, by rw [hU], by rw [hU]; exact hPc, va_K.moved hW.alike hKc, hDc.weaken (fun _ _ _ _ => trivial)⟩⟩ rfl rfl hl.1 rfl (lv_room (Nat.le_of_ble_eq_true rfl)) dL_law_2092 ⟨Nat.le_of_ble_eq_true rfl, Nat.le_of_ble_eq_true rfl⟩) hS (fun q _ h => hFc q h) hFc (fun r197 u t H1 locs ht hvm hw hB hz1 hk1 hS => ?_)
        obtain ⟨hP1, hK1, hD1⟩ := hB
        rw [ht] at hP1
        try dsimp only at hw
        obtain ⟨hP, hD⟩ := va_join (wr := [(q_things, .inl (k_things, 5, .inl f_things))]) (w1 := [(aZ, .inr (15, s162))]) hP hD [0] [1] rfl rfl (by decide) (by decide) hk1 hFc hP1 hD1
        have hK := hK.sub (tys' := [(k_things, .int)]) [0] rfl
        generalize H1 = H at hP hS ⊢
        have hP : va_P (dC, dI) vwCl [(q_things, .inl (k_things, 5, .inl f_things)), (aZ, .inr (15, s162))] H := hP
        have hD : va_D A [(q_things, .inl (k_things, 5, .inl f_things)), (aZ, .inr (15, s162))] := hD
        have er198 := hw
        subst er198
        refine lv_iload hx hb dL_law_2095 (lv_at hl 1 rfl) ?_
        refine lv_icmp_eq (tgt := 2102) hx hb dL_law_2097 (by decide) (fun c199 => ?_) (fun c199 => absurd c199 (by decide))
        refine lv_iload hx hb dL_law_2102 (lv_at hl 1 rfl) ?_
        refine lv_if_ne (tgt := 2119) hx hb dL_law_2104 (by decide) (fun c200 => ?_) (fun c200 => absurd c200 (by decide))
        refine lv_goto (tgt := 3111) hx hb dL_law_2119 (by decide) ?_
        exact lw_end hst C0 hA hAf hZ hY (Nat.le_of_ble_eq_true rfl) (Nat.le_of_ble_eq_true rfl) dC dI P0k P0 D0 hS ls (lv_sub hl [2, 6] rfl)
      · exact (by exfalso; (try simp only [i_lt, i_le, i_eq, kc_0, kc_4] at c110 c165 c166); omega)
      · exact (by exfalso; (try simp only [i_lt, i_le, i_eq, kc_0, kc_4] at c110 c168 c169); omega)
      · exact (by exfalso; (try simp only [i_lt, i_le, i_eq, kc_0, kc_4] at c110 c172 c173); omega)
      · exact (by exfalso; (try simp only [i_lt, i_le, i_eq, kc_0, kc_4] at c110 c177 c178); omega)
      · exact (by exfalso; (try simp only [i_lt, i_le, i_eq, kc_0, kc_4] at c110 c183 c184); omega)
      · exact (by exfalso; (try simp only [i_lt, i_le, i_eq, kc_0, kc_4] at c110 c190 c191); omega)
    · skip
      subst er114
      refine lv_istore (lv' := [(5, .int 1), (0, .ref b), (1, .ref aX), (2, .ref aZ), (3, .ref qO), (4, .int 0)]) hx hb dL_law_2059 hl (by decide) rfl (fun ls hl => ?_)
      refine lv_aload_n hx hb dL_law_2061 rfl (lv_at hl 3 rfl) ?_
      refine lv_aload_n hx hb dL_law_2062 rfl (lv_at hl 1 rfl) ?_
      refine lv_iload hx hb dL_law_2063 (lv_at hl 5 rfl) ?_
      refine lv_iconst (v := 1) hx hb dL_law_2065 (by decide) ?_
      refine lv_iadd hx hb dL_law_2066  ?_
      refine lv_topi (fun x201 ex201 => ?_)
      obtain rfl : x201 = 1 := ex201.trans (by decide)
      refine va_sld hx hb hX hbl hbA hS (show vp_in 1 6 from by unfold vp_in; decide) dL_law_2067 ?_
      refine lv_topi (fun x202 ex202 => ?_)
      obtain rfl : w1 = x202 := hw1.trans ex202.symm
      refine lv_aload_n hx hb dL_law_2068 rfl (lv_at hl 1 rfl) ?_
      refine lv_iload hx hb dL_law_2069 (lv_at hl 5 rfl) ?_
      refine lv_iconst (v := 2) hx hb dL_law_2071 (by decide) ?_
      refine lv_iadd hx hb dL_law_2072  ?_
      refine lv_topi (fun x203 ex203 => ?_)
      obtain rfl : x203 = 2 := ex203.trans (by decide)
      refine va_sld hx hb hX hbl hbA hS (show vp_in 2 6 from by unfold vp_in; decide) dL_law_2073 ?_
      refine lv_topi (fun x204 ex204 => ?_)
      obtain rfl : w2 = x204 := hw2.trans ex204.symm
      refine lv_aload_n hx hb dL_law_2074 rfl (lv_at hl 1 rfl) ?_
      refine lv_iload hx hb dL_law_2075 (lv_at hl 5 rfl) ?_
      refine lv_iconst (v := 3) hx hb dL_law_2077 (by decide) ?_
      refine lv_iadd hx hb dL_law_2078  ?_
      refine lv_topi (fun x205 ex205 => ?_)
      obtain rfl : x205 = 3 := ex205.trans (by decide)
      refine va_sld hx hb hX hbl hbA hS (show vp_in 3 6 from by unfold vp_in; decide) dL_law_2079 ?_
      refine lv_topi (fun x206 ex206 => ?_)
      obtain rfl : w3 = x206 := hw3.trans ex206.symm
      refine lv_aload_n hx hb dL_law_2080 rfl (lv_at hl 1 rfl) ?_
      refine lv_iload hx hb dL_law_2081 (lv_at hl 5 rfl) ?_
      refine lv_iconst (v := 4) hx hb dL_law_2083 (by decide) ?_
      refine lv_iadd hx hb dL_law_2084  ?_
      refine lv_topi (fun x207 ex207 => ?_)
      obtain rfl : x207 = 4 := ex207.trans (by decide)
      refine va_sld hx hb hX hbl hbA hS (show vp_in 4 6 from by unfold vp_in; decide) dL_law_2085 ?_
      refine lv_topi (fun x208 ex208 => ?_)
      obtain rfl : w4 = x208 := hw4.trans ex208.symm
      have hPc := hP.sub (ws' := [(aZ, .inr (15, fsZ)), (q_things, .inl (k_things, 5, .inl f_things))]) [0, 1] rfl
      have hDc := hD.sub (ws' := [(aZ, .inr (15, fsZ)), (q_things, .inl (k_things, 5, .inl f_things))]) [0, 1] (by decide) rfl
      have hKc := hK.sub (tys' := [(k_things, .int)]) [0] rfl
      have hFc := va_free (wc := [(aZ, .inr (15, fsZ)), (q_things, .inl (k_things, 5, .inl f_things))]) hD hS hA [0, 1] rfl
      refine va_calli (va_runV (As := [.int w1, .int w2, .int w3, .int w4]) (rest := []) ⟨hx, hb, hml, hown, hts⟩ (z_X12_member l dC dI H.size aZ fsZ q_things f_things k_things w1 w2 w3 w4 (fh_sub o_fsZ.2 [0, 1] rfl) hz_f_things) (cwV 4 hts g_lk_31_z_X12_member_248 rfl rfl rfl (by decide +kernel) ⟨Nat.le_of_ble_eq_true rfl, Nat.le_of_ble_eq_true rfl⟩) ⟨fun a U g mk q => by obtain ⟨q0, q1, qP, qK, qD⟩ := q; exact ⟨q0, q1, qP, va_K.moved (u := U) (U := U.calling g mk a) (Vm.Alike.refl U.vm) qK, qD⟩, va_recv hK hP (ci := 15) (q0 := 0) rfl rfl, fun U hU hW => ⟨rfl, by rw [hU], by rw [hU]; exact hPc, va_K.moved hW.alike hKc, hDc.weaken (fun _ _ _ _ => trivial)⟩⟩ rfl rfl hl.1 rfl (lv_room (Nat.le_of_ble_eq_true rfl)) dL_law_2086 ⟨Nat.le_of_ble_eq_true rfl, Nat.le_of_ble_eq_true rfl⟩) hS (fun q _ h => hFc q h) hFc (fun r209 u t H1 locs ht hvm hw hB hz1 hk1 hS => ?_)
      obtain ⟨s210, rfl⟩ : ∃ z, z = u := ⟨_, rfl⟩
      obtain ⟨hP1, hK1, hD1⟩ := hB
      rw [ht] at hP1
      try dsimp only at hw
      obtain ⟨hP, hD⟩ := va_join (wr := []) (w1 := [(aZ, .inr (15, s210)), (q_things, .inl (k_things, 5, .inl f_things))]) hP hD [0, 1] [] rfl rfl (by decide) (by decide) hk1 hFc hP1 hD1
      have hK := hK.sub (tys' := [(k_things, .int)]) [0] rfl
      generalize H1 = H at hP hS ⊢
      have hP : va_P (dC, dI) vwCl [(aZ, .inr (15, s210)), (q_things, .inl (k_things, 5, .inl f_things))] H := hP
      have hD : va_D A [(aZ, .inr (15, s210)), (q_things, .inl (k_things, 5, .inl f_things))] := hD
      rcases hw with ⟨c211, er212, o_s210⟩ | ⟨c213, c214, er215, o_s210⟩ | ⟨c216, c217, c218, er219, o_s210⟩ | ⟨c220, c221, c222, c223, er224, o_s210⟩ | ⟨c225, c226, c227, c228, c229, er230, o_s210⟩ | ⟨c231, c232, c233, c234, c235, c236, er237, o_s210⟩ | ⟨c238, c239, c240, c241, c242, c243, er244, o_s210⟩
      · exact (by exfalso; (try simp only [i_lt, i_le, i_eq, kc_0, kc_4] at c112 c113 c211); omega)
      · skip
        subst er215
        have o_s210 := ow_on o_fsZ o_s210 (l' := [(0, .int 1), (48, .ref q_things), (48, .ref q_things)]) (w' := [0]) rfl rfl
        refine lv_istore (lv' := [(6, .int 0), (5, .int 1), (0, .ref b), (1, .ref aX), (2, .ref aZ), (3, .ref qO), (4, .int 0)]) hx hb dL_law_2089 hl (by decide) rfl (fun ls hl => ?_)
        refine lv_aload_n hx hb dL_law_2091 rfl (lv_at hl 4 rfl) ?_
        have hPc := hP.sub (ws' := [(aZ, .inr (15, s210))]) [0] rfl
        have hDc := hD.sub (ws' := [(aZ, .inr (15, s210))]) [0] (by decide) rfl
        have hKc := hK.sub (tys' := []) [] rfl
        have hFc := va_free (wc := [(aZ, .inr (15, s210))]) hD hS hA [0] rfl
        refine va_calli (va_runV (As := []) (rest := []) ⟨hx, hb, hml, hown, hts⟩ (z_X12_thrown l dC dI H.size aZ s210 (fh_sub o_s210.2 [0] rfl) ) (cwV 0 hts g_lk_31_z_X12_thrown_149 rfl rfl rfl (by decide +kernel) ⟨Nat.le_of_ble_eq_true rfl, Nat.le_of_ble_eq_true rfl⟩) ⟨fun a U g mk q => by obtain ⟨q0, q1, qP, qK, qD⟩ := q; exact ⟨q0, q1, qP, va_K.moved (u := U) (U := U.calling g mk a) (Vm.Alike.refl U.vm) qK, qD⟩, va_recv hK hP (ci := 15) (q0 := 0) rfl rfl, fun U hU hW => ⟨rfl, by rw [hU], by rw [hU]; exact hPc, va_K.moved hW.alike hKc, hDc.weaken (fun _ _ _ _ => trivial)⟩⟩ rfl rfl hl.1 rfl (lv_room (Nat.le_of_ble_eq_true rfl)) dL_law_2092 ⟨Nat.le_of_ble_eq_true rfl, Nat.le_of_ble_eq_true rfl⟩) hS (fun q _ h => hFc q h) hFc (fun r245 u t H1 locs ht hvm hw hB hz1 hk1 hS => ?_)
        obtain ⟨hP1, hK1, hD1⟩ := hB
        rw [ht] at hP1
        try dsimp only at hw
        obtain ⟨hP, hD⟩ := va_join (wr := [(q_things, .inl (k_things, 5, .inl f_things))]) (w1 := [(aZ, .inr (15, s210))]) hP hD [0] [1] rfl rfl (by decide) (by decide) hk1 hFc hP1 hD1
        have hK := hK.sub (tys' := [(k_things, .int)]) [0] rfl
        generalize H1 = H at hP hS ⊢
        have hP : va_P (dC, dI) vwCl [(q_things, .inl (k_things, 5, .inl f_things)), (aZ, .inr (15, s210))] H := hP
        have hD : va_D A [(q_things, .inl (k_things, 5, .inl f_things)), (aZ, .inr (15, s210))] := hD
        have er246 := hw
        subst er246
        refine lv_iload hx hb dL_law_2095 (lv_at hl 1 rfl) ?_
        refine lv_icmp_eq (tgt := 2102) hx hb dL_law_2097 (by decide) (fun c247 => ?_) (fun c247 => absurd c247 (by decide))
        refine lv_iload hx hb dL_law_2102 (lv_at hl 1 rfl) ?_
        refine lv_if_ne (tgt := 2119) hx hb dL_law_2104 (by decide) (fun c248 => ?_) (fun c248 => absurd c248 (by decide))
        refine lv_goto (tgt := 3111) hx hb dL_law_2119 (by decide) ?_
        exact lw_end hst C0 hA hAf hZ hY (Nat.le_of_ble_eq_true rfl) (Nat.le_of_ble_eq_true rfl) dC dI P0k P0 D0 hS ls (lv_sub hl [2, 6] rfl)
      · exact (by exfalso; (try simp only [i_lt, i_le, i_eq, kc_0, kc_4] at c112 c113 c216 c217); omega)
      · exact (by exfalso; (try simp only [i_lt, i_le, i_eq, kc_0, kc_4] at c112 c113 c220 c221); omega)
      · exact (by exfalso; (try simp only [i_lt, i_le, i_eq, kc_0, kc_4] at c112 c113 c225 c226); omega)
      · exact (by exfalso; (try simp only [i_lt, i_le, i_eq, kc_0, kc_4] at c112 c113 c231 c232); omega)
      · exact (by exfalso; (try simp only [i_lt, i_le, i_eq, kc_0, kc_4] at c112 c113 c238 c239); omega)
    · skip
      subst er118
      refine lv_istore (lv' := [(5, .int 1), (0, .ref b), (1, .ref aX), (2, .ref aZ), (3, .ref qO), (4, .int 0)]) hx hb dL_law_2059 hl (by decide) rfl (fun ls hl => ?_)
      refine lv_aload_n hx hb dL_law_2061 rfl (lv_at hl 3 rfl) ?_
      refine lv_aload_n hx hb dL_law_2062 rfl (lv_at hl 1 rfl) ?_
      refine lv_iload hx hb dL_law_2063 (lv_at hl 5 rfl) ?_
      refine lv_iconst (v := 1) hx hb dL_law_2065 (by decide) ?_
      refine lv_iadd hx hb dL_law_2066  ?_
      refine lv_topi (fun x249 ex249 => ?_)
      obtain rfl : x249 = 1 := ex249.trans (by decide)
      refine va_sld hx hb hX hbl hbA hS (show vp_in 1 6 from by unfold vp_in; decide) dL_law_2067 ?_
      refine lv_topi (fun x250 ex250 => ?_)
      obtain rfl : w1 = x250 := hw1.trans ex250.symm
      refine lv_aload_n hx hb dL_law_2068 rfl (lv_at hl 1 rfl) ?_
      refine lv_iload hx hb dL_law_2069 (lv_at hl 5 rfl) ?_
      refine lv_iconst (v := 2) hx hb dL_law_2071 (by decide) ?_
      refine lv_iadd hx hb dL_law_2072  ?_
      refine lv_topi (fun x251 ex251 => ?_)
      obtain rfl : x251 = 2 := ex251.trans (by decide)
      refine va_sld hx hb hX hbl hbA hS (show vp_in 2 6 from by unfold vp_in; decide) dL_law_2073 ?_
      refine lv_topi (fun x252 ex252 => ?_)
      obtain rfl : w2 = x252 := hw2.trans ex252.symm
      refine lv_aload_n hx hb dL_law_2074 rfl (lv_at hl 1 rfl) ?_
      refine lv_iload hx hb dL_law_2075 (lv_at hl 5 rfl) ?_
      refine lv_iconst (v := 3) hx hb dL_law_2077 (by decide) ?_
      refine lv_iadd hx hb dL_law_2078  ?_
      refine lv_topi (fun x253 ex253 => ?_)
      obtain rfl : x253 = 3 := ex253.trans (by decide)
      refine va_sld hx hb hX hbl hbA hS (show vp_in 3 6 from by unfold vp_in; decide) dL_law_2079 ?_
      refine lv_topi (fun x254 ex254 => ?_)
      obtain rfl : w3 = x254 := hw3.trans ex254.symm
      refine lv_aload_n hx hb dL_law_2080 rfl (lv_at hl 1 rfl) ?_
      refine lv_iload hx hb dL_law_2081 (lv_at hl 5 rfl) ?_
      refine lv_iconst (v := 4) hx hb dL_law_2083 (by decide) ?_
      refine lv_iadd hx hb dL_law_2084  ?_
      refine lv_topi (fun x255 ex255 => ?_)
      obtain rfl : x255 = 4 := ex255.trans (by decide)
      refine va_sld hx hb hX hbl hbA hS (show vp_in 4 6 from by unfold vp_in; decide) dL_law_2085 ?_
      refine lv_topi (fun x256 ex256 => ?_)
      obtain rfl : w4 = x256 := hw4.trans ex256.symm
      have hPc := hP.sub (ws' := [(aZ, .inr (15, fsZ)), (q_things, .inl (k_things, 5, .inl f_things))]) [0, 1] rfl
      have hDc := hD.sub (ws' := [(aZ, .inr (15, fsZ)), (q_things, .inl (k_things, 5, .inl f_things))]) [0, 1] (by decide) rfl
      have hKc := hK.sub (tys' := [(k_things, .int)]) [0] rfl
      have hFc := va_free (wc := [(aZ, .inr (15, fsZ)), (q_things, .inl (k_things, 5, .inl f_things))]) hD hS hA [0, 1] rfl
      refine va_calli (va_runV (As := [.int w1, .int w2, .int w3, .int w4]) (rest := []) ⟨hx, hb, hml, hown, hts⟩ (z_X12_member l dC dI H.size aZ fsZ q_things f_things k_things w1 w2 w3 w4 (fh_sub o_fsZ.2 [0, 1] rfl) hz_f_things) (cwV 4 hts g_lk_31_z_X12_member_248 rfl rfl rfl (by decide +kernel) ⟨Nat.le_of_ble_eq_true rfl, Nat.le_of_ble_eq_true rfl⟩) ⟨fun a U g mk q => by obtain ⟨q0, q1, qP, qK, qD⟩ := q; exact ⟨q0, q1, qP, va_K.moved (u := U) (U := U.calling g mk a) (Vm.Alike.refl U.vm) qK, qD⟩, va_recv hK hP (ci := 15) (q0 := 0) rfl rfl, fun U hU hW => ⟨rfl, by rw [hU], by rw [hU]; exact hPc, va_K.moved hW.alike hKc, hDc.weaken (fun _ _ _ _ => trivial)⟩⟩ rfl rfl hl.1 rfl (lv_room (Nat.le_of_ble_eq_true rfl)) dL_law_2086 ⟨Nat.le_of_ble_eq_true rfl, Nat.le_of_ble_eq_true rfl⟩) hS (fun q _ h => hFc q h) hFc (fun r257 u t H1 locs ht hvm hw hB hz1 hk1 hS => ?_)
      obtain ⟨s258, rfl⟩ : ∃ z, z = u := ⟨_, rfl⟩
      obtain ⟨hP1, hK1, hD1⟩ := hB
      rw [ht] at hP1
      try dsimp only at hw
      obtain ⟨hP, hD⟩ := va_join (wr := []) (w1 := [(aZ, .inr (15, s258)), (q_things, .inl (k_things, 5, .inl f_things))]) hP hD [0, 1] [] rfl rfl (by decide) (by decide) hk1 hFc hP1 hD1
      have hK := hK.sub (tys' := [(k_things, .int)]) [0] rfl
      generalize H1 = H at hP hS ⊢
      have hP : va_P (dC, dI) vwCl [(aZ, .inr (15, s258)), (q_things, .inl (k_things, 5, .inl f_things))] H := hP
      have hD : va_D A [(aZ, .inr (15, s258)), (q_things, .inl (k_things, 5, .inl f_things))] := hD
      rcases hw with ⟨c259, er260, o_s258⟩ | ⟨c261, c262, er263, o_s258⟩ | ⟨c264, c265, c266, er267, o_s258⟩ | ⟨c268, c269, c270, c271, er272, o_s258⟩ | ⟨c273, c274, c275, c276, c277, er278, o_s258⟩ | ⟨c279, c280, c281, c282, c283, c284, er285, o_s258⟩ | ⟨c286, c287, c288, c289, c290, c291, er292, o_s258⟩
      · exact (by exfalso; (try simp only [i_lt, i_le, i_eq, kc_0, kc_4] at c115 c116 c259); omega)
      · exact (by exfalso; (try simp only [i_lt, i_le, i_eq, kc_0, kc_4] at c115 c116 c261 c262); omega)
      · skip
        subst er267
        have o_s258 := ow_on o_fsZ o_s258 (l' := [(0, .int 1), (48, .ref q_things), (48, .ref q_things)]) (w' := [0]) rfl rfl
        refine lv_istore (lv' := [(6, .int 0), (5, .int 1), (0, .ref b), (1, .ref aX), (2, .ref aZ), (3, .ref qO), (4, .int 0)]) hx hb dL_law_2089 hl (by decide) rfl (fun ls hl => ?_)
        refine lv_aload_n hx hb dL_law_2091 rfl (lv_at hl 4 rfl) ?_
        have hPc := hP.sub (ws' := [(aZ, .inr (15, s258))]) [0] rfl
        have hDc := hD.sub (ws' := [(aZ, .inr (15, s258))]) [0] (by decide) rfl
        have hKc := hK.sub (tys' := []) [] rfl
        have hFc := va_free (wc := [(aZ, .inr (15, s258))]) hD hS hA [0] rfl
        refine va_calli (va_runV (As := []) (rest := []) ⟨hx, hb, hml, hown, hts⟩ (z_X12_thrown l dC dI H.size aZ s258 (fh_sub o_s258.2 [0] rfl) ) (cwV 0 hts g_lk_31_z_X12_thrown_149 rfl rfl rfl (by decide +kernel) ⟨Nat.le_of_ble_eq_true rfl, Nat.le_of_ble_eq_true rfl⟩) ⟨fun a U g mk q => by obtain ⟨q0, q1, qP, qK, qD⟩ := q; exact ⟨q0, q1, qP, va_K.moved (u := U) (U := U.calling g mk a) (Vm.Alike.refl U.vm) qK, qD⟩, va_recv hK hP (ci := 15) (q0 := 0) rfl rfl, fun U hU hW => ⟨rfl, by rw [hU], by rw [hU]; exact hPc, va_K.moved hW.alike hKc, hDc.weaken (fun _ _ _ _ => trivial)⟩⟩ rfl rfl hl.1 rfl (lv_room (Nat.le_of_ble_eq_true rfl)) dL_law_2092 ⟨Nat.le_of_ble_eq_true rfl, Nat.le_of_ble_eq_true rfl⟩) hS (fun q _ h => hFc q h) hFc (fun r293 u t H1 locs ht hvm hw hB hz1 hk1 hS => ?_)
        obtain ⟨hP1, hK1, hD1⟩ := hB
        rw [ht] at hP1
        try dsimp only at hw
        obtain ⟨hP, hD⟩ := va_join (wr := [(q_things, .inl (k_things, 5, .inl f_things))]) (w1 := [(aZ, .inr (15, s258))]) hP hD [0] [1] rfl rfl (by decide) (by decide) hk1 hFc hP1 hD1
        have hK := hK.sub (tys' := [(k_things, .int)]) [0] rfl
        generalize H1 = H at hP hS ⊢
        have hP : va_P (dC, dI) vwCl [(q_things, .inl (k_things, 5, .inl f_things)), (aZ, .inr (15, s258))] H := hP
        have hD : va_D A [(q_things, .inl (k_things, 5, .inl f_things)), (aZ, .inr (15, s258))] := hD
        have er294 := hw
        subst er294
        refine lv_iload hx hb dL_law_2095 (lv_at hl 1 rfl) ?_
        refine lv_icmp_eq (tgt := 2102) hx hb dL_law_2097 (by decide) (fun c295 => ?_) (fun c295 => absurd c295 (by decide))
        refine lv_iload hx hb dL_law_2102 (lv_at hl 1 rfl) ?_
        refine lv_if_ne (tgt := 2119) hx hb dL_law_2104 (by decide) (fun c296 => ?_) (fun c296 => absurd c296 (by decide))
        refine lv_goto (tgt := 3111) hx hb dL_law_2119 (by decide) ?_
        exact lw_end hst C0 hA hAf hZ hY (Nat.le_of_ble_eq_true rfl) (Nat.le_of_ble_eq_true rfl) dC dI P0k P0 D0 hS ls (lv_sub hl [2, 6] rfl)
      · skip
        subst er272
        have o_s258 := ow_on o_fsZ o_s258 (l' := [(0, .int 1), (48, .ref q_things), (48, .ref q_things)]) (w' := [0]) rfl rfl
        refine lv_istore (lv' := [(6, .int 0), (5, .int 1), (0, .ref b), (1, .ref aX), (2, .ref aZ), (3, .ref qO), (4, .int 0)]) hx hb dL_law_2089 hl (by decide) rfl (fun ls hl => ?_)
        refine lv_aload_n hx hb dL_law_2091 rfl (lv_at hl 4 rfl) ?_
        have hPc := hP.sub (ws' := [(aZ, .inr (15, s258))]) [0] rfl
        have hDc := hD.sub (ws' := [(aZ, .inr (15, s258))]) [0] (by decide) rfl
        have hKc := hK.sub (tys' := []) [] rfl
        have hFc := va_free (wc := [(aZ, .inr (15, s258))]) hD hS hA [0] rfl
        refine va_calli (va_runV (As := []) (rest := []) ⟨hx, hb, hml, hown, hts⟩ (z_X12_thrown l dC dI H.size aZ s258 (fh_sub o_s258.2 [0] rfl) ) (cwV 0 hts g_lk_31_z_X12_thrown_149 rfl rfl rfl (by decide +kernel) ⟨Nat.le_of_ble_eq_true rfl, Nat.le_of_ble_eq_true rfl⟩) ⟨fun a U g mk q => by obtain ⟨q0, q1, qP, qK, qD⟩ := q; exact ⟨q0, q1, qP, va_K.moved (u := U) (U := U.calling g mk a) (Vm.Alike.refl U.vm) qK, qD⟩, va_recv hK hP (ci := 15) (q0 := 0) rfl rfl, fun U hU hW => ⟨rfl, by rw [hU], by rw [hU]; exact hPc, va_K.moved hW.alike hKc, hDc.weaken (fun _ _ _ _ => trivial)⟩⟩ rfl rfl hl.1 rfl (lv_room (Nat.le_of_ble_eq_true rfl)) dL_law_2092 ⟨Nat.le_of_ble_eq_true rfl, Nat.le_of_ble_eq_true rfl⟩) hS (fun q _ h => hFc q h) hFc (fun r297 u t H1 locs ht hvm hw hB hz1 hk1 hS => ?_)
        obtain ⟨hP1, hK1, hD1⟩ := hB
        rw [ht] at hP1
        try dsimp only at hw
        obtain ⟨hP, hD⟩ := va_join (wr := [(q_things, .inl (k_things, 5, .inl f_things))]) (w1 := [(aZ, .inr (15, s258))]) hP hD [0] [1] rfl rfl (by decide) (by decide) hk1 hFc hP1 hD1
        have hK := hK.sub (tys' := [(k_things, .int)]) [0] rfl
        generalize H1 = H at hP hS ⊢
        have hP : va_P (dC, dI) vwCl [(q_things, .inl (k_things, 5, .inl f_things)), (aZ, .inr (15, s258))] H := hP
        have hD : va_D A [(q_things, .inl (k_things, 5, .inl f_things)), (aZ, .inr (15, s258))] := hD
        have er298 := hw
        subst er298
        refine lv_iload hx hb dL_law_2095 (lv_at hl 1 rfl) ?_
        refine lv_icmp_eq (tgt := 2102) hx hb dL_law_2097 (by decide) (fun c299 => ?_) (fun c299 => absurd c299 (by decide))
        refine lv_iload hx hb dL_law_2102 (lv_at hl 1 rfl) ?_
        refine lv_if_ne (tgt := 2119) hx hb dL_law_2104 (by decide) (fun c300 => ?_) (fun c300 => absurd c300 (by decide))
        refine lv_goto (tgt := 3111) hx hb dL_law_2119 (by decide) ?_
        exact lw_end hst C0 hA hAf hZ hY (Nat.le_of_ble_eq_true rfl) (Nat.le_of_ble_eq_true rfl) dC dI P0k P0 D0 hS ls (lv_sub hl [2, 6] rfl)
      · exact (by exfalso; (try simp only [i_lt, i_le, i_eq, kc_0, kc_2] at c117 c276 c277); omega)
      · exact (by exfalso; (try simp only [i_lt, i_le, i_eq, kc_0, kc_2] at c117 c282 c283); omega)
      · exact (by exfalso; (try simp only [i_lt, i_le, i_eq, kc_0, kc_2] at c117 c289 c290); omega)
    · skip
      subst er123
      refine lv_istore (lv' := [(5, .int 1), (0, .ref b), (1, .ref aX), (2, .ref aZ), (3, .ref qO), (4, .int 0)]) hx hb dL_law_2059 hl (by decide) rfl (fun ls hl => ?_)
      refine lv_aload_n hx hb dL_law_2061 rfl (lv_at hl 3 rfl) ?_
      refine lv_aload_n hx hb dL_law_2062 rfl (lv_at hl 1 rfl) ?_
      refine lv_iload hx hb dL_law_2063 (lv_at hl 5 rfl) ?_
      refine lv_iconst (v := 1) hx hb dL_law_2065 (by decide) ?_
      refine lv_iadd hx hb dL_law_2066  ?_
      refine lv_topi (fun x301 ex301 => ?_)
      obtain rfl : x301 = 1 := ex301.trans (by decide)
      refine va_sld hx hb hX hbl hbA hS (show vp_in 1 6 from by unfold vp_in; decide) dL_law_2067 ?_
      refine lv_topi (fun x302 ex302 => ?_)
      obtain rfl : w1 = x302 := hw1.trans ex302.symm
      refine lv_aload_n hx hb dL_law_2068 rfl (lv_at hl 1 rfl) ?_
      refine lv_iload hx hb dL_law_2069 (lv_at hl 5 rfl) ?_
      refine lv_iconst (v := 2) hx hb dL_law_2071 (by decide) ?_
      refine lv_iadd hx hb dL_law_2072  ?_
      refine lv_topi (fun x303 ex303 => ?_)
      obtain rfl : x303 = 2 := ex303.trans (by decide)
      refine va_sld hx hb hX hbl hbA hS (show vp_in 2 6 from by unfold vp_in; decide) dL_law_2073 ?_
      refine lv_topi (fun x304 ex304 => ?_)
      obtain rfl : w2 = x304 := hw2.trans ex304.symm
      refine lv_aload_n hx hb dL_law_2074 rfl (lv_at hl 1 rfl) ?_
      refine lv_iload hx hb dL_law_2075 (lv_at hl 5 rfl) ?_
      refine lv_iconst (v := 3) hx hb dL_law_2077 (by decide) ?_
      refine lv_iadd hx hb dL_law_2078  ?_
      refine lv_topi (fun x305 ex305 => ?_)
      obtain rfl : x305 = 3 := ex305.trans (by decide)
      refine va_sld hx hb hX hbl hbA hS (show vp_in 3 6 from by unfold vp_in; decide) dL_law_2079 ?_
      refine lv_topi (fun x306 ex306 => ?_)
      obtain rfl : w3 = x306 := hw3.trans ex306.symm
      refine lv_aload_n hx hb dL_law_2080 rfl (lv_at hl 1 rfl) ?_
      refine lv_iload hx hb dL_law_2081 (lv_at hl 5 rfl) ?_
      refine lv_iconst (v := 4) hx hb dL_law_2083 (by decide) ?_
      refine lv_iadd hx hb dL_law_2084  ?_
      refine lv_topi (fun x307 ex307 => ?_)
      obtain rfl : x307 = 4 := ex307.trans (by decide)
      refine va_sld hx hb hX hbl hbA hS (show vp_in 4 6 from by unfold vp_in; decide) dL_law_2085 ?_
      refine lv_topi (fun x308 ex308 => ?_)
      obtain rfl : w4 = x308 := hw4.trans ex308.symm
      have hPc := hP.sub (ws' := [(aZ, .inr (15, fsZ)), (q_things, .inl (k_things, 5, .inl f_things))]) [0, 1] rfl
      have hDc := hD.sub (ws' := [(aZ, .inr (15, fsZ)), (q_things, .inl (k_things, 5, .inl f_things))]) [0, 1] (by decide) rfl
      have hKc := hK.sub (tys' := [(k_things, .int)]) [0] rfl
      have hFc := va_free (wc := [(aZ, .inr (15, fsZ)), (q_things, .inl (k_things, 5, .inl f_things))]) hD hS hA [0, 1] rfl
      refine va_calli (va_runV (As := [.int w1, .int w2, .int w3, .int w4]) (rest := []) ⟨hx, hb, hml, hown, hts⟩ (z_X12_member l dC dI H.size aZ fsZ q_things f_things k_things w1 w2 w3 w4 (fh_sub o_fsZ.2 [0, 1] rfl) hz_f_things) (cwV 4 hts g_lk_31_z_X12_member_248 rfl rfl rfl (by decide +kernel) ⟨Nat.le_of_ble_eq_true rfl, Nat.le_of_ble_eq_true rfl⟩) ⟨fun a U g mk q => by obtain ⟨q0, q1, qP, qK, qD⟩ := q; exact ⟨q0, q1, qP, va_K.moved (u := U) (U := U.calling g mk a) (Vm.Alike.refl U.vm) qK, qD⟩, va_recv hK hP (ci := 15) (q0 := 0) rfl rfl, fun U hU hW => ⟨rfl, by rw [hU], by rw [hU]; exact hPc, va_K.moved hW.alike hKc, hDc.weaken (fun _ _ _ _ => trivial)⟩⟩ rfl rfl hl.1 rfl (lv_room (Nat.le_of_ble_eq_true rfl)) dL_law_2086 ⟨Nat.le_of_ble_eq_true rfl, Nat.le_of_ble_eq_true rfl⟩) hS (fun q _ h => hFc q h) hFc (fun r309 u t H1 locs ht hvm hw hB hz1 hk1 hS => ?_)
      obtain ⟨s310, rfl⟩ : ∃ z, z = u := ⟨_, rfl⟩
      obtain ⟨hP1, hK1, hD1⟩ := hB
      rw [ht] at hP1
      try dsimp only at hw
      obtain ⟨hP, hD⟩ := va_join (wr := []) (w1 := [(aZ, .inr (15, s310)), (q_things, .inl (k_things, 5, .inl f_things))]) hP hD [0, 1] [] rfl rfl (by decide) (by decide) hk1 hFc hP1 hD1
      have hK := hK.sub (tys' := [(k_things, .int)]) [0] rfl
      generalize H1 = H at hP hS ⊢
      have hP : va_P (dC, dI) vwCl [(aZ, .inr (15, s310)), (q_things, .inl (k_things, 5, .inl f_things))] H := hP
      have hD : va_D A [(aZ, .inr (15, s310)), (q_things, .inl (k_things, 5, .inl f_things))] := hD
      rcases hw with ⟨c311, er312, o_s310⟩ | ⟨c313, c314, er315, o_s310⟩ | ⟨c316, c317, c318, er319, o_s310⟩ | ⟨c320, c321, c322, c323, er324, o_s310⟩ | ⟨c325, c326, c327, c328, c329, er330, o_s310⟩ | ⟨c331, c332, c333, c334, c335, c336, er337, o_s310⟩ | ⟨c338, c339, c340, c341, c342, c343, er344, o_s310⟩
      · exact (by exfalso; (try simp only [i_lt, i_le, i_eq, kc_0, kc_4] at c119 c120 c311); omega)
      · exact (by exfalso; (try simp only [i_lt, i_le, i_eq, kc_0, kc_4] at c119 c120 c313 c314); omega)
      · skip
        subst er319
        have o_s310 := ow_on o_fsZ o_s310 (l' := [(0, .int 1), (48, .ref q_things), (48, .ref q_things)]) (w' := [0]) rfl rfl
        refine lv_istore (lv' := [(6, .int 0), (5, .int 1), (0, .ref b), (1, .ref aX), (2, .ref aZ), (3, .ref qO), (4, .int 0)]) hx hb dL_law_2089 hl (by decide) rfl (fun ls hl => ?_)
        refine lv_aload_n hx hb dL_law_2091 rfl (lv_at hl 4 rfl) ?_
        have hPc := hP.sub (ws' := [(aZ, .inr (15, s310))]) [0] rfl
        have hDc := hD.sub (ws' := [(aZ, .inr (15, s310))]) [0] (by decide) rfl
        have hKc := hK.sub (tys' := []) [] rfl
        have hFc := va_free (wc := [(aZ, .inr (15, s310))]) hD hS hA [0] rfl
        refine va_calli (va_runV (As := []) (rest := []) ⟨hx, hb, hml, hown, hts⟩ (z_X12_thrown l dC dI H.size aZ s310 (fh_sub o_s310.2 [0] rfl) ) (cwV 0 hts g_lk_31_z_X12_thrown_149 rfl rfl rfl (by decide +kernel) ⟨Nat.le_of_ble_eq_true rfl, Nat.le_of_ble_eq_true rfl⟩) ⟨fun a U g mk q => by obtain ⟨q0, q1, qP, qK, qD⟩ := q; exact ⟨q0, q1, qP, va_K.moved (u := U) (U := U.calling g mk a) (Vm.Alike.refl U.vm) qK, qD⟩, va_recv hK hP (ci := 15) (q0 := 0) rfl rfl, fun U hU hW => ⟨rfl, by rw [hU], by rw [hU]; exact hPc, va_K.moved hW.alike hKc, hDc.weaken (fun _ _ _ _ => trivial)⟩⟩ rfl rfl hl.1 rfl (lv_room (Nat.le_of_ble_eq_true rfl)) dL_law_2092 ⟨Nat.le_of_ble_eq_true rfl, Nat.le_of_ble_eq_true rfl⟩) hS (fun q _ h => hFc q h) hFc (fun r345 u t H1 locs ht hvm hw hB hz1 hk1 hS => ?_)
        obtain ⟨hP1, hK1, hD1⟩ := hB
        rw [ht] at hP1
        try dsimp only at hw
        obtain ⟨hP, hD⟩ := va_join (wr := [(q_things, .inl (k_things, 5, .inl f_things))]) (w1 := [(aZ, .inr (15, s310))]) hP hD [0] [1] rfl rfl (by decide) (by decide) hk1 hFc hP1 hD1
        have hK := hK.sub (tys' := [(k_things, .int)]) [0] rfl
        generalize H1 = H at hP hS ⊢
        have hP : va_P (dC, dI) vwCl [(q_things, .inl (k_things, 5, .inl f_things)), (aZ, .inr (15, s310))] H := hP
        have hD : va_D A [(q_things, .inl (k_things, 5, .inl f_things)), (aZ, .inr (15, s310))] := hD
        have er346 := hw
        subst er346
        refine lv_iload hx hb dL_law_2095 (lv_at hl 1 rfl) ?_
        refine lv_icmp_eq (tgt := 2102) hx hb dL_law_2097 (by decide) (fun c347 => ?_) (fun c347 => absurd c347 (by decide))
        refine lv_iload hx hb dL_law_2102 (lv_at hl 1 rfl) ?_
        refine lv_if_ne (tgt := 2119) hx hb dL_law_2104 (by decide) (fun c348 => ?_) (fun c348 => absurd c348 (by decide))
        refine lv_goto (tgt := 3111) hx hb dL_law_2119 (by decide) ?_
        exact lw_end hst C0 hA hAf hZ hY (Nat.le_of_ble_eq_true rfl) (Nat.le_of_ble_eq_true rfl) dC dI P0k P0 D0 hS ls (lv_sub hl [2, 6] rfl)
      · exact (by exfalso; (try simp only [i_lt, i_le, i_eq, kc_0, kc_1] at c121 c122 c323); omega)
      · skip
        subst er330
        have o_s310 := ow_on o_fsZ o_s310 (l' := [(0, .int 1), (48, .ref q_things), (48, .ref q_things)]) (w' := [0]) rfl rfl
        refine lv_istore (lv' := [(6, .int 0), (5, .int 1), (0, .ref b), (1, .ref aX), (2, .ref aZ), (3, .ref qO), (4, .int 0)]) hx hb dL_law_2089 hl (by decide) rfl (fun ls hl => ?_)
        refine lv_aload_n hx hb dL_law_2091 rfl (lv_at hl 4 rfl) ?_
        have hPc := hP.sub (ws' := [(aZ, .inr (15, s310))]) [0] rfl
        have hDc := hD.sub (ws' := [(aZ, .inr (15, s310))]) [0] (by decide) rfl
        have hKc := hK.sub (tys' := []) [] rfl
        have hFc := va_free (wc := [(aZ, .inr (15, s310))]) hD hS hA [0] rfl
        refine va_calli (va_runV (As := []) (rest := []) ⟨hx, hb, hml, hown, hts⟩ (z_X12_thrown l dC dI H.size aZ s310 (fh_sub o_s310.2 [0] rfl) ) (cwV 0 hts g_lk_31_z_X12_thrown_149 rfl rfl rfl (by decide +kernel) ⟨Nat.le_of_ble_eq_true rfl, Nat.le_of_ble_eq_true rfl⟩) ⟨fun a U g mk q => by obtain ⟨q0, q1, qP, qK, qD⟩ := q; exact ⟨q0, q1, qP, va_K.moved (u := U) (U := U.calling g mk a) (Vm.Alike.refl U.vm) qK, qD⟩, va_recv hK hP (ci := 15) (q0 := 0) rfl rfl, fun U hU hW => ⟨rfl, by rw [hU], by rw [hU]; exact hPc, va_K.moved hW.alike hKc, hDc.weaken (fun _ _ _ _ => trivial)⟩⟩ rfl rfl hl.1 rfl (lv_room (Nat.le_of_ble_eq_true rfl)) dL_law_2092 ⟨Nat.le_of_ble_eq_true rfl, Nat.le_of_ble_eq_true rfl⟩) hS (fun q _ h => hFc q h) hFc (fun r349 u t H1 locs ht hvm hw hB hz1 hk1 hS => ?_)
        obtain ⟨hP1, hK1, hD1⟩ := hB
        rw [ht] at hP1
        try dsimp only at hw
        obtain ⟨hP, hD⟩ := va_join (wr := [(q_things, .inl (k_things, 5, .inl f_things))]) (w1 := [(aZ, .inr (15, s310))]) hP hD [0] [1] rfl rfl (by decide) (by decide) hk1 hFc hP1 hD1
        have hK := hK.sub (tys' := [(k_things, .int)]) [0] rfl
        generalize H1 = H at hP hS ⊢
        have hP : va_P (dC, dI) vwCl [(q_things, .inl (k_things, 5, .inl f_things)), (aZ, .inr (15, s310))] H := hP
        have hD : va_D A [(q_things, .inl (k_things, 5, .inl f_things)), (aZ, .inr (15, s310))] := hD
        have er350 := hw
        subst er350
        refine lv_iload hx hb dL_law_2095 (lv_at hl 1 rfl) ?_
        refine lv_icmp_eq (tgt := 2102) hx hb dL_law_2097 (by decide) (fun c351 => ?_) (fun c351 => absurd c351 (by decide))
        refine lv_iload hx hb dL_law_2102 (lv_at hl 1 rfl) ?_
        refine lv_if_ne (tgt := 2119) hx hb dL_law_2104 (by decide) (fun c352 => ?_) (fun c352 => absurd c352 (by decide))
        refine lv_goto (tgt := 3111) hx hb dL_law_2119 (by decide) ?_
        exact lw_end hst C0 hA hAf hZ hY (Nat.le_of_ble_eq_true rfl) (Nat.le_of_ble_eq_true rfl) dC dI P0k P0 D0 hS ls (lv_sub hl [2, 6] rfl)
      · exact (by exfalso; (try simp only [i_lt, i_le, i_eq, kc_0, kc_1, kc_2] at c121 c122 c334 c335); omega)
      · exact (by exfalso; (try simp only [i_lt, i_le, i_eq, kc_0, kc_1, kc_2] at c121 c122 c341 c342); omega)
    · skip
      subst er129
      refine lv_istore (lv' := [(5, .int 1), (0, .ref b), (1, .ref aX), (2, .ref aZ), (3, .ref qO), (4, .int 0)]) hx hb dL_law_2059 hl (by decide) rfl (fun ls hl => ?_)
      refine lv_aload_n hx hb dL_law_2061 rfl (lv_at hl 3 rfl) ?_
      refine lv_aload_n hx hb dL_law_2062 rfl (lv_at hl 1 rfl) ?_
      refine lv_iload hx hb dL_law_2063 (lv_at hl 5 rfl) ?_
      refine lv_iconst (v := 1) hx hb dL_law_2065 (by decide) ?_
      refine lv_iadd hx hb dL_law_2066  ?_
      refine lv_topi (fun x353 ex353 => ?_)
      obtain rfl : x353 = 1 := ex353.trans (by decide)
      refine va_sld hx hb hX hbl hbA hS (show vp_in 1 6 from by unfold vp_in; decide) dL_law_2067 ?_
      refine lv_topi (fun x354 ex354 => ?_)
      obtain rfl : w1 = x354 := hw1.trans ex354.symm
      refine lv_aload_n hx hb dL_law_2068 rfl (lv_at hl 1 rfl) ?_
      refine lv_iload hx hb dL_law_2069 (lv_at hl 5 rfl) ?_
      refine lv_iconst (v := 2) hx hb dL_law_2071 (by decide) ?_
      refine lv_iadd hx hb dL_law_2072  ?_
      refine lv_topi (fun x355 ex355 => ?_)
      obtain rfl : x355 = 2 := ex355.trans (by decide)
      refine va_sld hx hb hX hbl hbA hS (show vp_in 2 6 from by unfold vp_in; decide) dL_law_2073 ?_
      refine lv_topi (fun x356 ex356 => ?_)
      obtain rfl : w2 = x356 := hw2.trans ex356.symm
      refine lv_aload_n hx hb dL_law_2074 rfl (lv_at hl 1 rfl) ?_
      refine lv_iload hx hb dL_law_2075 (lv_at hl 5 rfl) ?_
      refine lv_iconst (v := 3) hx hb dL_law_2077 (by decide) ?_
      refine lv_iadd hx hb dL_law_2078  ?_
      refine lv_topi (fun x357 ex357 => ?_)
      obtain rfl : x357 = 3 := ex357.trans (by decide)
      refine va_sld hx hb hX hbl hbA hS (show vp_in 3 6 from by unfold vp_in; decide) dL_law_2079 ?_
      refine lv_topi (fun x358 ex358 => ?_)
      obtain rfl : w3 = x358 := hw3.trans ex358.symm
      refine lv_aload_n hx hb dL_law_2080 rfl (lv_at hl 1 rfl) ?_
      refine lv_iload hx hb dL_law_2081 (lv_at hl 5 rfl) ?_
      refine lv_iconst (v := 4) hx hb dL_law_2083 (by decide) ?_
      refine lv_iadd hx hb dL_law_2084  ?_
      refine lv_topi (fun x359 ex359 => ?_)
      obtain rfl : x359 = 4 := ex359.trans (by decide)
      refine va_sld hx hb hX hbl hbA hS (show vp_in 4 6 from by unfold vp_in; decide) dL_law_2085 ?_
      refine lv_topi (fun x360 ex360 => ?_)
      obtain rfl : w4 = x360 := hw4.trans ex360.symm
      have hPc := hP.sub (ws' := [(aZ, .inr (15, fsZ)), (q_things, .inl (k_things, 5, .inl f_things))]) [0, 1] rfl
      have hDc := hD.sub (ws' := [(aZ, .inr (15, fsZ)), (q_things, .inl (k_things, 5, .inl f_things))]) [0, 1] (by decide) rfl
      have hKc := hK.sub (tys' := [(k_things, .int)]) [0] rfl
      have hFc := va_free (wc := [(aZ, .inr (15, fsZ)), (q_things, .inl (k_things, 5, .inl f_things))]) hD hS hA [0, 1] rfl
      refine va_calli (va_runV (As := [.int w1, .int w2, .int w3, .int w4]) (rest := []) ⟨hx, hb, hml, hown, hts⟩ (z_X12_member l dC dI H.size aZ fsZ q_things f_things k_things w1 w2 w3 w4 (fh_sub o_fsZ.2 [0, 1] rfl) hz_f_things) (cwV 4 hts g_lk_31_z_X12_member_248 rfl rfl rfl (by decide +kernel) ⟨Nat.le_of_ble_eq_true rfl, Nat.le_of_ble_eq_true rfl⟩) ⟨fun a U g mk q => by obtain ⟨q0, q1, qP, qK, qD⟩ := q; exact ⟨q0, q1, qP, va_K.moved (u := U) (U := U.calling g mk a) (Vm.Alike.refl U.vm) qK, qD⟩, va_recv hK hP (ci := 15) (q0 := 0) rfl rfl, fun U hU hW => ⟨rfl, by rw [hU], by rw [hU]; exact hPc, va_K.moved hW.alike hKc, hDc.weaken (fun _ _ _ _ => trivial)⟩⟩ rfl rfl hl.1 rfl (lv_room (Nat.le_of_ble_eq_true rfl)) dL_law_2086 ⟨Nat.le_of_ble_eq_true rfl, Nat.le_of_ble_eq_true rfl⟩) hS (fun q _ h => hFc q h) hFc (fun r361 u t H1 locs ht hvm hw hB hz1 hk1 hS => ?_)
      obtain ⟨s362, rfl⟩ : ∃ z, z = u := ⟨_, rfl⟩
      obtain ⟨hP1, hK1, hD1⟩ := hB
      rw [ht] at hP1
      try dsimp only at hw
      obtain ⟨hP, hD⟩ := va_join (wr := []) (w1 := [(aZ, .inr (15, s362)), (q_things, .inl (k_things, 5, .inl f_things))]) hP hD [0, 1] [] rfl rfl (by decide) (by decide) hk1 hFc hP1 hD1
      have hK := hK.sub (tys' := [(k_things, .int)]) [0] rfl
      generalize H1 = H at hP hS ⊢
      have hP : va_P (dC, dI) vwCl [(aZ, .inr (15, s362)), (q_things, .inl (k_things, 5, .inl f_things))] H := hP
      have hD : va_D A [(aZ, .inr (15, s362)), (q_things, .inl (k_things, 5, .inl f_things))] := hD
      rcases hw with ⟨c363, er364, o_s362⟩ | ⟨c365, c366, er367, o_s362⟩ | ⟨c368, c369, c370, er371, o_s362⟩ | ⟨c372, c373, c374, c375, er376, o_s362⟩ | ⟨c377, c378, c379, c380, c381, er382, o_s362⟩ | ⟨c383, c384, c385, c386, c387, c388, er389, o_s362⟩ | ⟨c390, c391, c392, c393, c394, c395, er396, o_s362⟩
      · exact (by exfalso; (try simp only [i_lt, i_le, i_eq, kc_0, kc_4] at c124 c125 c363); omega)
      · exact (by exfalso; (try simp only [i_lt, i_le, i_eq, kc_0, kc_4] at c124 c125 c365 c366); omega)
      · skip
        subst er371
        have o_s362 := ow_on o_fsZ o_s362 (l' := [(0, .int 1), (48, .ref q_things), (48, .ref q_things)]) (w' := [0]) rfl rfl
        refine lv_istore (lv' := [(6, .int 0), (5, .int 1), (0, .ref b), (1, .ref aX), (2, .ref aZ), (3, .ref qO), (4, .int 0)]) hx hb dL_law_2089 hl (by decide) rfl (fun ls hl => ?_)
        refine lv_aload_n hx hb dL_law_2091 rfl (lv_at hl 4 rfl) ?_
        have hPc := hP.sub (ws' := [(aZ, .inr (15, s362))]) [0] rfl
        have hDc := hD.sub (ws' := [(aZ, .inr (15, s362))]) [0] (by decide) rfl
        have hKc := hK.sub (tys' := []) [] rfl
        have hFc := va_free (wc := [(aZ, .inr (15, s362))]) hD hS hA [0] rfl
        refine va_calli (va_runV (As := []) (rest := []) ⟨hx, hb, hml, hown, hts⟩ (z_X12_thrown l dC dI H.size aZ s362 (fh_sub o_s362.2 [0] rfl) ) (cwV 0 hts g_lk_31_z_X12_thrown_149 rfl rfl rfl (by decide +kernel) ⟨Nat.le_of_ble_eq_true rfl, Nat.le_of_ble_eq_true rfl⟩) ⟨fun a U g mk q => by obtain ⟨q0, q1, qP, qK, qD⟩ := q; exact ⟨q0, q1, qP, va_K.moved (u := U) (U := U.calling g mk a) (Vm.Alike.refl U.vm) qK, qD⟩, va_recv hK hP (ci := 15) (q0 := 0) rfl rfl, fun U hU hW => ⟨rfl, by rw [hU], by rw [hU]; exact hPc, va_K.moved hW.alike hKc, hDc.weaken (fun _ _ _ _ => trivial)⟩⟩ rfl rfl hl.1 rfl (lv_room (Nat.le_of_ble_eq_true rfl)) dL_law_2092 ⟨Nat.le_of_ble_eq_true rfl, Nat.le_of_ble_eq_true rfl⟩) hS (fun q _ h => hFc q h) hFc (fun r397 u t H1 locs ht hvm hw hB hz1 hk1 hS => ?_)
        obtain ⟨hP1, hK1, hD1⟩ := hB
        rw [ht] at hP1
        try dsimp only at hw
        obtain ⟨hP, hD⟩ := va_join (wr := [(q_things, .inl (k_things, 5, .inl f_things))]) (w1 := [(aZ, .inr (15, s362))]) hP hD [0] [1] rfl rfl (by decide) (by decide) hk1 hFc hP1 hD1
        have hK := hK.sub (tys' := [(k_things, .int)]) [0] rfl
        generalize H1 = H at hP hS ⊢
        have hP : va_P (dC, dI) vwCl [(q_things, .inl (k_things, 5, .inl f_things)), (aZ, .inr (15, s362))] H := hP
        have hD : va_D A [(q_things, .inl (k_things, 5, .inl f_things)), (aZ, .inr (15, s362))] := hD
        have er398 := hw
        subst er398
        refine lv_iload hx hb dL_law_2095 (lv_at hl 1 rfl) ?_
        refine lv_icmp_eq (tgt := 2102) hx hb dL_law_2097 (by decide) (fun c399 => ?_) (fun c399 => absurd c399 (by decide))
        refine lv_iload hx hb dL_law_2102 (lv_at hl 1 rfl) ?_
        refine lv_if_ne (tgt := 2119) hx hb dL_law_2104 (by decide) (fun c400 => ?_) (fun c400 => absurd c400 (by decide))
        refine lv_goto (tgt := 3111) hx hb dL_law_2119 (by decide) ?_
        exact lw_end hst C0 hA hAf hZ hY (Nat.le_of_ble_eq_true rfl) (Nat.le_of_ble_eq_true rfl) dC dI P0k P0 D0 hS ls (lv_sub hl [2, 6] rfl)
      · exact (by exfalso; (try simp only [i_lt, i_le, i_eq, kc_0, kc_1] at c126 c127 c375); omega)
      · exact (by exfalso; (try simp only [i_lt, i_le, i_eq, kc_0, kc_1, kc_2] at c126 c127 c380 c381); omega)
      · exact (by exfalso; (try simp only [i_lt, i_le, i_eq, kc_0] at c128 c385); omega)
      · exact (by exfalso; (try simp only [i_lt, i_le, i_eq, kc_0] at c128 c392); omega)
    · skip
      subst er137
      refine lv_istore (lv' := [(5, .int 1), (0, .ref b), (1, .ref aX), (2, .ref aZ), (3, .ref qO), (4, .int 0)]) hx hb dL_law_2059 hl (by decide) rfl (fun ls hl => ?_)
      refine lv_aload_n hx hb dL_law_2061 rfl (lv_at hl 3 rfl) ?_
      refine lv_aload_n hx hb dL_law_2062 rfl (lv_at hl 1 rfl) ?_
      refine lv_iload hx hb dL_law_2063 (lv_at hl 5 rfl) ?_
      refine lv_iconst (v := 1) hx hb dL_law_2065 (by decide) ?_
      refine lv_iadd hx hb dL_law_2066  ?_
      refine lv_topi (fun x401 ex401 => ?_)
      obtain rfl : x401 = 1 := ex401.trans (by decide)
      refine va_sld hx hb hX hbl hbA hS (show vp_in 1 6 from by unfold vp_in; decide) dL_law_2067 ?_
      refine lv_topi (fun x402 ex402 => ?_)
      obtain rfl : w1 = x402 := hw1.trans ex402.symm
      refine lv_aload_n hx hb dL_law_2068 rfl (lv_at hl 1 rfl) ?_
      refine lv_iload hx hb dL_law_2069 (lv_at hl 5 rfl) ?_
      refine lv_iconst (v := 2) hx hb dL_law_2071 (by decide) ?_
      refine lv_iadd hx hb dL_law_2072  ?_
      refine lv_topi (fun x403 ex403 => ?_)
      obtain rfl : x403 = 2 := ex403.trans (by decide)
      refine va_sld hx hb hX hbl hbA hS (show vp_in 2 6 from by unfold vp_in; decide) dL_law_2073 ?_
      refine lv_topi (fun x404 ex404 => ?_)
      obtain rfl : w2 = x404 := hw2.trans ex404.symm
      refine lv_aload_n hx hb dL_law_2074 rfl (lv_at hl 1 rfl) ?_
      refine lv_iload hx hb dL_law_2075 (lv_at hl 5 rfl) ?_
      refine lv_iconst (v := 3) hx hb dL_law_2077 (by decide) ?_
      refine lv_iadd hx hb dL_law_2078  ?_
      refine lv_topi (fun x405 ex405 => ?_)
      obtain rfl : x405 = 3 := ex405.trans (by decide)
      refine va_sld hx hb hX hbl hbA hS (show vp_in 3 6 from by unfold vp_in; decide) dL_law_2079 ?_
      refine lv_topi (fun x406 ex406 => ?_)
      obtain rfl : w3 = x406 := hw3.trans ex406.symm
      refine lv_aload_n hx hb dL_law_2080 rfl (lv_at hl 1 rfl) ?_
      refine lv_iload hx hb dL_law_2081 (lv_at hl 5 rfl) ?_
      refine lv_iconst (v := 4) hx hb dL_law_2083 (by decide) ?_
      refine lv_iadd hx hb dL_law_2084  ?_
      refine lv_topi (fun x407 ex407 => ?_)
      obtain rfl : x407 = 4 := ex407.trans (by decide)
      refine va_sld hx hb hX hbl hbA hS (show vp_in 4 6 from by unfold vp_in; decide) dL_law_2085 ?_
      refine lv_topi (fun x408 ex408 => ?_)
      obtain rfl : w4 = x408 := hw4.trans ex408.symm
      have hPc := hP.sub (ws' := [(aZ, .inr (15, fsZ)), (q_things, .inl (k_things, 5, .inl f_things))]) [0, 1] rfl
      have hDc := hD.sub (ws' := [(aZ, .inr (15, fsZ)), (q_things, .inl (k_things, 5, .inl f_things))]) [0, 1] (by decide) rfl
      have hKc := hK.sub (tys' := [(k_things, .int)]) [0] rfl
      have hFc := va_free (wc := [(aZ, .inr (15, fsZ)), (q_things, .inl (k_things, 5, .inl f_things))]) hD hS hA [0, 1] rfl
      refine va_calli (va_runV (As := [.int w1, .int w2, .int w3, .int w4]) (rest := []) ⟨hx, hb, hml, hown, hts⟩ (z_X12_member l dC dI H.size aZ fsZ q_things f_things k_things w1 w2 w3 w4 (fh_sub o_fsZ.2 [0, 1] rfl) hz_f_things) (cwV 4 hts g_lk_31_z_X12_member_248 rfl rfl rfl (by decide +kernel) ⟨Nat.le_of_ble_eq_true rfl, Nat.le_of_ble_eq_true rfl⟩) ⟨fun a U g mk q => by obtain ⟨q0, q1, qP, qK, qD⟩ := q; exact ⟨q0, q1, qP, va_K.moved (u := U) (U := U.calling g mk a) (Vm.Alike.refl U.vm) qK, qD⟩, va_recv hK hP (ci := 15) (q0 := 0) rfl rfl, fun U hU hW => ⟨rfl, by rw [hU], by rw [hU]; exact hPc, va_K.moved hW.alike hKc, hDc.weaken (fun _ _ _ _ => trivial)⟩⟩ rfl rfl hl.1 rfl (lv_room (Nat.le_of_ble_eq_true rfl)) dL_law_2086 ⟨Nat.le_of_ble_eq_true rfl, Nat.le_of_ble_eq_true rfl⟩) hS (fun q _ h => hFc q h) hFc (fun r409 u t H1 locs ht hvm hw hB hz1 hk1 hS => ?_)
      obtain ⟨s410, rfl⟩ : ∃ z, z = u := ⟨_, rfl⟩
      obtain ⟨hP1, hK1, hD1⟩ := hB
      rw [ht] at hP1
      try dsimp only at hw
      obtain ⟨hP, hD⟩ := va_join (wr := []) (w1 := [(aZ, .inr (15, s410)), (q_things, .inl (k_things, 5, .inl f_things))]) hP hD [0, 1] [] rfl rfl (by decide) (by decide) hk1 hFc hP1 hD1
      have hK := hK.sub (tys' := [(k_things, .int)]) [0] rfl
      generalize H1 = H at hP hS ⊢
      have hP : va_P (dC, dI) vwCl [(aZ, .inr (15, s410)), (q_things, .inl (k_things, 5, .inl f_things))] H := hP
      have hD : va_D A [(aZ, .inr (15, s410)), (q_things, .inl (k_things, 5, .inl f_things))] := hD
      rcases hw with ⟨c411, er412, o_s410⟩ | ⟨c413, c414, er415, o_s410⟩ | ⟨c416, c417, c418, er419, o_s410⟩ | ⟨c420, c421, c422, c423, er424, o_s410⟩ | ⟨c425, c426, c427, c428, c429, er430, o_s410⟩ | ⟨c431, c432, c433, c434, c435, c436, er437, o_s410⟩ | ⟨c438, c439, c440, c441, c442, c443, er444, o_s410⟩
      · exact (by exfalso; (try simp only [i_lt, i_le, i_eq, kc_0, kc_4] at c130 c131 c411); omega)
      · exact (by exfalso; (try simp only [i_lt, i_le, i_eq, kc_0, kc_4] at c130 c131 c413 c414); omega)
      · exact (by exfalso; (try simp only [i_lt, i_le, i_eq, kc_0] at c134 c418); omega)
      · exact (by exfalso; (try simp only [i_lt, i_le, i_eq, kc_0, kc_1] at c132 c133 c136 c423); omega)
      · exact (by exfalso; (try simp only [i_lt, i_le, i_eq, kc_0, kc_1, kc_2] at c132 c133 c136 c428 c429); omega)
      · exact (by exfalso; (try simp only [i_lt, i_le, i_eq, kc_0] at c135 c436); omega)
      · skip
        subst er444
        have o_s410 := ow_on o_fsZ o_s410 (l' := [(0, .int 1), (48, .ref q_things), (48, .ref q_things)]) (w' := [0]) rfl rfl
        refine lv_istore (lv' := [(6, .int 0), (5, .int 1), (0, .ref b), (1, .ref aX), (2, .ref aZ), (3, .ref qO), (4, .int 0)]) hx hb dL_law_2089 hl (by decide) rfl (fun ls hl => ?_)
        refine lv_aload_n hx hb dL_law_2091 rfl (lv_at hl 4 rfl) ?_
        have hPc := hP.sub (ws' := [(aZ, .inr (15, s410))]) [0] rfl
        have hDc := hD.sub (ws' := [(aZ, .inr (15, s410))]) [0] (by decide) rfl
        have hKc := hK.sub (tys' := []) [] rfl
        have hFc := va_free (wc := [(aZ, .inr (15, s410))]) hD hS hA [0] rfl
        refine va_calli (va_runV (As := []) (rest := []) ⟨hx, hb, hml, hown, hts⟩ (z_X12_thrown l dC dI H.size aZ s410 (fh_sub o_s410.2 [0] rfl) ) (cwV 0 hts g_lk_31_z_X12_thrown_149 rfl rfl rfl (by decide +kernel) ⟨Nat.le_of_ble_eq_true rfl, Nat.le_of_ble_eq_true rfl⟩) ⟨fun a U g mk q => by obtain ⟨q0, q1, qP, qK, qD⟩ := q; exact ⟨q0, q1, qP, va_K.moved (u := U) (U := U.calling g mk a) (Vm.Alike.refl U.vm) qK, qD⟩, va_recv hK hP (ci := 15) (q0 := 0) rfl rfl, fun U hU hW => ⟨rfl, by rw [hU], by rw [hU]; exact hPc, va_K.moved hW.alike hKc, hDc.weaken (fun _ _ _ _ => trivial)⟩⟩ rfl rfl hl.1 rfl (lv_room (Nat.le_of_ble_eq_true rfl)) dL_law_2092 ⟨Nat.le_of_ble_eq_true rfl, Nat.le_of_ble_eq_true rfl⟩) hS (fun q _ h => hFc q h) hFc (fun r445 u t H1 locs ht hvm hw hB hz1 hk1 hS => ?_)
        obtain ⟨hP1, hK1, hD1⟩ := hB
        rw [ht] at hP1
        try dsimp only at hw
        obtain ⟨hP, hD⟩ := va_join (wr := [(q_things, .inl (k_things, 5, .inl f_things))]) (w1 := [(aZ, .inr (15, s410))]) hP hD [0] [1] rfl rfl (by decide) (by decide) hk1 hFc hP1 hD1
        have hK := hK.sub (tys' := [(k_things, .int)]) [0] rfl
        generalize H1 = H at hP hS ⊢
        have hP : va_P (dC, dI) vwCl [(q_things, .inl (k_things, 5, .inl f_things)), (aZ, .inr (15, s410))] H := hP
        have hD : va_D A [(q_things, .inl (k_things, 5, .inl f_things)), (aZ, .inr (15, s410))] := hD
        have er446 := hw
        subst er446
        refine lv_iload hx hb dL_law_2095 (lv_at hl 1 rfl) ?_
        refine lv_icmp_eq (tgt := 2102) hx hb dL_law_2097 (by decide) (fun c447 => ?_) (fun c447 => absurd c447 (by decide))
        refine lv_iload hx hb dL_law_2102 (lv_at hl 1 rfl) ?_
        refine lv_if_ne (tgt := 2119) hx hb dL_law_2104 (by decide) (fun c448 => ?_) (fun c448 => absurd c448 (by decide))
        refine lv_goto (tgt := 3111) hx hb dL_law_2119 (by decide) ?_
        exact lw_end hst C0 hA hAf hZ hY (Nat.le_of_ble_eq_true rfl) (Nat.le_of_ble_eq_true rfl) dC dI P0k P0 D0 hS ls (lv_sub hl [2, 6] rfl)
    · skip
      subst er145
      refine lv_istore (lv' := [(5, .int 1), (0, .ref b), (1, .ref aX), (2, .ref aZ), (3, .ref qO), (4, .int 0)]) hx hb dL_law_2059 hl (by decide) rfl (fun ls hl => ?_)
      refine lv_aload_n hx hb dL_law_2061 rfl (lv_at hl 3 rfl) ?_
      refine lv_aload_n hx hb dL_law_2062 rfl (lv_at hl 1 rfl) ?_
      refine lv_iload hx hb dL_law_2063 (lv_at hl 5 rfl) ?_
      refine lv_iconst (v := 1) hx hb dL_law_2065 (by decide) ?_
      refine lv_iadd hx hb dL_law_2066  ?_
      refine lv_topi (fun x449 ex449 => ?_)
      obtain rfl : x449 = 1 := ex449.trans (by decide)
      refine va_sld hx hb hX hbl hbA hS (show vp_in 1 6 from by unfold vp_in; decide) dL_law_2067 ?_
      refine lv_topi (fun x450 ex450 => ?_)
      obtain rfl : w1 = x450 := hw1.trans ex450.symm
      refine lv_aload_n hx hb dL_law_2068 rfl (lv_at hl 1 rfl) ?_
      refine lv_iload hx hb dL_law_2069 (lv_at hl 5 rfl) ?_
      refine lv_iconst (v := 2) hx hb dL_law_2071 (by decide) ?_
      refine lv_iadd hx hb dL_law_2072  ?_
      refine lv_topi (fun x451 ex451 => ?_)
      obtain rfl : x451 = 2 := ex451.trans (by decide)
      refine va_sld hx hb hX hbl hbA hS (show vp_in 2 6 from by unfold vp_in; decide) dL_law_2073 ?_
      refine lv_topi (fun x452 ex452 => ?_)
      obtain rfl : w2 = x452 := hw2.trans ex452.symm
      refine lv_aload_n hx hb dL_law_2074 rfl (lv_at hl 1 rfl) ?_
      refine lv_iload hx hb dL_law_2075 (lv_at hl 5 rfl) ?_
      refine lv_iconst (v := 3) hx hb dL_law_2077 (by decide) ?_
      refine lv_iadd hx hb dL_law_2078  ?_
      refine lv_topi (fun x453 ex453 => ?_)
      obtain rfl : x453 = 3 := ex453.trans (by decide)
      refine va_sld hx hb hX hbl hbA hS (show vp_in 3 6 from by unfold vp_in; decide) dL_law_2079 ?_
      refine lv_topi (fun x454 ex454 => ?_)
      obtain rfl : w3 = x454 := hw3.trans ex454.symm
      refine lv_aload_n hx hb dL_law_2080 rfl (lv_at hl 1 rfl) ?_
      refine lv_iload hx hb dL_law_2081 (lv_at hl 5 rfl) ?_
      refine lv_iconst (v := 4) hx hb dL_law_2083 (by decide) ?_
      refine lv_iadd hx hb dL_law_2084  ?_
      refine lv_topi (fun x455 ex455 => ?_)
      obtain rfl : x455 = 4 := ex455.trans (by decide)
      refine va_sld hx hb hX hbl hbA hS (show vp_in 4 6 from by unfold vp_in; decide) dL_law_2085 ?_
      refine lv_topi (fun x456 ex456 => ?_)
      obtain rfl : w4 = x456 := hw4.trans ex456.symm
      have hPc := hP.sub (ws' := [(aZ, .inr (15, fsZ)), (q_things, .inl (k_things, 5, .inl f_things))]) [0, 1] rfl
      have hDc := hD.sub (ws' := [(aZ, .inr (15, fsZ)), (q_things, .inl (k_things, 5, .inl f_things))]) [0, 1] (by decide) rfl
      have hKc := hK.sub (tys' := [(k_things, .int)]) [0] rfl
      have hFc := va_free (wc := [(aZ, .inr (15, fsZ)), (q_things, .inl (k_things, 5, .inl f_things))]) hD hS hA [0, 1] rfl
      refine va_calli (va_runV (As := [.int w1, .int w2, .int w3, .int w4]) (rest := []) ⟨hx, hb, hml, hown, hts⟩ (z_X12_member l dC dI H.size aZ fsZ q_things f_things k_things w1 w2 w3 w4 (fh_sub o_fsZ.2 [0, 1] rfl) hz_f_things) (cwV 4 hts g_lk_31_z_X12_member_248 rfl rfl rfl (by decide +kernel) ⟨Nat.le_of_ble_eq_true rfl, Nat.le_of_ble_eq_true rfl⟩) ⟨fun a U g mk q => by obtain ⟨q0, q1, qP, qK, qD⟩ := q; exact ⟨q0, q1, qP, va_K.moved (u := U) (U := U.calling g mk a) (Vm.Alike.refl U.vm) qK, qD⟩, va_recv hK hP (ci := 15) (q0 := 0) rfl rfl, fun U hU hW => ⟨rfl, by rw [hU], by rw [hU]; exact hPc, va_K.moved hW.alike hKc, hDc.weaken (fun _ _ _ _ => trivial)⟩⟩ rfl rfl hl.1 rfl (lv_room (Nat.le_of_ble_eq_true rfl)) dL_law_2086 ⟨Nat.le_of_ble_eq_true rfl, Nat.le_of_ble_eq_true rfl⟩) hS (fun q _ h => hFc q h) hFc (fun r457 u t H1 locs ht hvm hw hB hz1 hk1 hS => ?_)
      obtain ⟨s458, rfl⟩ : ∃ z, z = u := ⟨_, rfl⟩
      obtain ⟨hP1, hK1, hD1⟩ := hB
      rw [ht] at hP1
      try dsimp only at hw
      obtain ⟨hP, hD⟩ := va_join (wr := []) (w1 := [(aZ, .inr (15, s458)), (q_things, .inl (k_things, 5, .inl f_things))]) hP hD [0, 1] [] rfl rfl (by decide) (by decide) hk1 hFc hP1 hD1
      have hK := hK.sub (tys' := [(k_things, .int)]) [0] rfl
      generalize H1 = H at hP hS ⊢
      have hP : va_P (dC, dI) vwCl [(aZ, .inr (15, s458)), (q_things, .inl (k_things, 5, .inl f_things))] H := hP
      have hD : va_D A [(aZ, .inr (15, s458)), (q_things, .inl (k_things, 5, .inl f_things))] := hD
      rcases hw with ⟨c459, er460, o_s458⟩ | ⟨c461, c462, er463, o_s458⟩ | ⟨c464, c465, c466, er467, o_s458⟩ | ⟨c468, c469, c470, c471, er472, o_s458⟩ | ⟨c473, c474, c475, c476, c477, er478, o_s458⟩ | ⟨c479, c480, c481, c482, c483, c484, er485, o_s458⟩ | ⟨c486, c487, c488, c489, c490, c491, er492, o_s458⟩
      · exact (by exfalso; (try simp only [i_lt, i_le, i_eq, kc_0, kc_4] at c138 c139 c459); omega)
      · exact (by exfalso; (try simp only [i_lt, i_le, i_eq, kc_0, kc_4] at c138 c139 c461 c462); omega)
      · exact (by exfalso; (try simp only [i_lt, i_le, i_eq, kc_0] at c142 c466); omega)
      · exact (by exfalso; (try simp only [i_lt, i_le, i_eq, kc_0, kc_1] at c140 c141 c144 c471); omega)
      · exact (by exfalso; (try simp only [i_lt, i_le, i_eq, kc_0, kc_1, kc_2] at c140 c141 c144 c476 c477); omega)
      · exact (by exfalso; (try simp only [i_lt, i_le, i_eq, kc_0] at c143 c484); omega)
      · skip
        subst er492
        have o_s458 := ow_on o_fsZ o_s458 (l' := [(0, .int 1), (48, .ref q_things), (48, .ref q_things)]) (w' := [0]) rfl rfl
        refine lv_istore (lv' := [(6, .int 0), (5, .int 1), (0, .ref b), (1, .ref aX), (2, .ref aZ), (3, .ref qO), (4, .int 0)]) hx hb dL_law_2089 hl (by decide) rfl (fun ls hl => ?_)
        refine lv_aload_n hx hb dL_law_2091 rfl (lv_at hl 4 rfl) ?_
        have hPc := hP.sub (ws' := [(aZ, .inr (15, s458))]) [0] rfl
        have hDc := hD.sub (ws' := [(aZ, .inr (15, s458))]) [0] (by decide) rfl
        have hKc := hK.sub (tys' := []) [] rfl
        have hFc := va_free (wc := [(aZ, .inr (15, s458))]) hD hS hA [0] rfl
        refine va_calli (va_runV (As := []) (rest := []) ⟨hx, hb, hml, hown, hts⟩ (z_X12_thrown l dC dI H.size aZ s458 (fh_sub o_s458.2 [0] rfl) ) (cwV 0 hts g_lk_31_z_X12_thrown_149 rfl rfl rfl (by decide +kernel) ⟨Nat.le_of_ble_eq_true rfl, Nat.le_of_ble_eq_true rfl⟩) ⟨fun a U g mk q => by obtain ⟨q0, q1, qP, qK, qD⟩ := q; exact ⟨q0, q1, qP, va_K.moved (u := U) (U := U.calling g mk a) (Vm.Alike.refl U.vm) qK, qD⟩, va_recv hK hP (ci := 15) (q0 := 0) rfl rfl, fun U hU hW => ⟨rfl, by rw [hU], by rw [hU]; exact hPc, va_K.moved hW.alike hKc, hDc.weaken (fun _ _ _ _ => trivial)⟩⟩ rfl rfl hl.1 rfl (lv_room (Nat.le_of_ble_eq_true rfl)) dL_law_2092 ⟨Nat.le_of_ble_eq_true rfl, Nat.le_of_ble_eq_true rfl⟩) hS (fun q _ h => hFc q h) hFc (fun r493 u t H1 locs ht hvm hw hB hz1 hk1 hS => ?_)
        obtain ⟨hP1, hK1, hD1⟩ := hB
        rw [ht] at hP1
        try dsimp only at hw
        obtain ⟨hP, hD⟩ := va_join (wr := [(q_things, .inl (k_things, 5, .inl f_things))]) (w1 := [(aZ, .inr (15, s458))]) hP hD [0] [1] rfl rfl (by decide) (by decide) hk1 hFc hP1 hD1
        have hK := hK.sub (tys' := [(k_things, .int)]) [0] rfl
        generalize H1 = H at hP hS ⊢
        have hP : va_P (dC, dI) vwCl [(q_things, .inl (k_things, 5, .inl f_things)), (aZ, .inr (15, s458))] H := hP
        have hD : va_D A [(q_things, .inl (k_things, 5, .inl f_things)), (aZ, .inr (15, s458))] := hD
        have er494 := hw
        subst er494
        refine lv_iload hx hb dL_law_2095 (lv_at hl 1 rfl) ?_
        refine lv_icmp_eq (tgt := 2102) hx hb dL_law_2097 (by decide) (fun c495 => ?_) (fun c495 => absurd c495 (by decide))
        refine lv_iload hx hb dL_law_2102 (lv_at hl 1 rfl) ?_
        refine lv_if_ne (tgt := 2119) hx hb dL_law_2104 (by decide) (fun c496 => ?_) (fun c496 => absurd c496 (by decide))
        refine lv_goto (tgt := 3111) hx hb dL_law_2119 (by decide) ?_
        exact lw_end hst C0 hA hAf hZ hY (Nat.le_of_ble_eq_true rfl) (Nat.le_of_ble_eq_true rfl) dC dI P0k P0 D0 hS ls (lv_sub hl [2, 6] rfl)
    · skip
      subst er152
      refine lv_istore (lv' := [(5, .int 1), (0, .ref b), (1, .ref aX), (2, .ref aZ), (3, .ref qO), (4, .int 0)]) hx hb dL_law_2059 hl (by decide) rfl (fun ls hl => ?_)
      refine lv_aload_n hx hb dL_law_2061 rfl (lv_at hl 3 rfl) ?_
      refine lv_aload_n hx hb dL_law_2062 rfl (lv_at hl 1 rfl) ?_
      refine lv_iload hx hb dL_law_2063 (lv_at hl 5 rfl) ?_
      refine lv_iconst (v := 1) hx hb dL_law_2065 (by decide) ?_
      refine lv_iadd hx hb dL_law_2066  ?_
      refine lv_topi (fun x497 ex497 => ?_)
      obtain rfl : x497 = 1 := ex497.trans (by decide)
      refine va_sld hx hb hX hbl hbA hS (show vp_in 1 6 from by unfold vp_in; decide) dL_law_2067 ?_
      refine lv_topi (fun x498 ex498 => ?_)
      obtain rfl : w1 = x498 := hw1.trans ex498.symm
      refine lv_aload_n hx hb dL_law_2068 rfl (lv_at hl 1 rfl) ?_
      refine lv_iload hx hb dL_law_2069 (lv_at hl 5 rfl) ?_
      refine lv_iconst (v := 2) hx hb dL_law_2071 (by decide) ?_
      refine lv_iadd hx hb dL_law_2072  ?_
      refine lv_topi (fun x499 ex499 => ?_)
      obtain rfl : x499 = 2 := ex499.trans (by decide)
      refine va_sld hx hb hX hbl hbA hS (show vp_in 2 6 from by unfold vp_in; decide) dL_law_2073 ?_
      refine lv_topi (fun x500 ex500 => ?_)
      obtain rfl : w2 = x500 := hw2.trans ex500.symm
      refine lv_aload_n hx hb dL_law_2074 rfl (lv_at hl 1 rfl) ?_
      refine lv_iload hx hb dL_law_2075 (lv_at hl 5 rfl) ?_
      refine lv_iconst (v := 3) hx hb dL_law_2077 (by decide) ?_
      refine lv_iadd hx hb dL_law_2078  ?_
      refine lv_topi (fun x501 ex501 => ?_)
      obtain rfl : x501 = 3 := ex501.trans (by decide)
      refine va_sld hx hb hX hbl hbA hS (show vp_in 3 6 from by unfold vp_in; decide) dL_law_2079 ?_
      refine lv_topi (fun x502 ex502 => ?_)
      obtain rfl : w3 = x502 := hw3.trans ex502.symm
      refine lv_aload_n hx hb dL_law_2080 rfl (lv_at hl 1 rfl) ?_
      refine lv_iload hx hb dL_law_2081 (lv_at hl 5 rfl) ?_
      refine lv_iconst (v := 4) hx hb dL_law_2083 (by decide) ?_
      refine lv_iadd hx hb dL_law_2084  ?_
      refine lv_topi (fun x503 ex503 => ?_)
      obtain rfl : x503 = 4 := ex503.trans (by decide)
      refine va_sld hx hb hX hbl hbA hS (show vp_in 4 6 from by unfold vp_in; decide) dL_law_2085 ?_
      refine lv_topi (fun x504 ex504 => ?_)
      obtain rfl : w4 = x504 := hw4.trans ex504.symm
      have hPc := hP.sub (ws' := [(aZ, .inr (15, fsZ)), (q_things, .inl (k_things, 5, .inl f_things))]) [0, 1] rfl
      have hDc := hD.sub (ws' := [(aZ, .inr (15, fsZ)), (q_things, .inl (k_things, 5, .inl f_things))]) [0, 1] (by decide) rfl
      have hKc := hK.sub (tys' := [(k_things, .int)]) [0] rfl
      have hFc := va_free (wc := [(aZ, .inr (15, fsZ)), (q_things, .inl (k_things, 5, .inl f_things))]) hD hS hA [0, 1] rfl
      refine va_calli (va_runV (As := [.int w1, .int w2, .int w3, .int w4]) (rest := []) ⟨hx, hb, hml, hown, hts⟩ (z_X12_member l dC dI H.size aZ fsZ q_things f_things k_things w1 w2 w3 w4 (fh_sub o_fsZ.2 [0, 1] rfl) hz_f_things) (cwV 4 hts g_lk_31_z_X12_member_248 rfl rfl rfl (by decide +kernel) ⟨Nat.le_of_ble_eq_true rfl, Nat.le_of_ble_eq_true rfl⟩) ⟨fun a U g mk q => by obtain ⟨q0, q1, qP, qK, qD⟩ := q; exact ⟨q0, q1, qP, va_K.moved (u := U) (U := U.calling g mk a) (Vm.Alike.refl U.vm) qK, qD⟩, va_recv hK hP (ci := 15) (q0 := 0) rfl rfl, fun U hU hW => ⟨rfl, by rw [hU], by rw [hU]; exact hPc, va_K.moved hW.alike hKc, hDc.weaken (fun _ _ _ _ => trivial)⟩⟩ rfl rfl hl.1 rfl (lv_room (Nat.le_of_ble_eq_true rfl)) dL_law_2086 ⟨Nat.le_of_ble_eq_true rfl, Nat.le_of_ble_eq_true rfl⟩) hS (fun q _ h => hFc q h) hFc (fun r505 u t H1 locs ht hvm hw hB hz1 hk1 hS => ?_)
      obtain ⟨s506, rfl⟩ : ∃ z, z = u := ⟨_, rfl⟩
      obtain ⟨hP1, hK1, hD1⟩ := hB
      rw [ht] at hP1
      try dsimp only at hw
      obtain ⟨hP, hD⟩ := va_join (wr := []) (w1 := [(aZ, .inr (15, s506)), (q_things, .inl (k_things, 5, .inl f_things))]) hP hD [0, 1] [] rfl rfl (by decide) (by decide) hk1 hFc hP1 hD1
      have hK := hK.sub (tys' := [(k_things, .int)]) [0] rfl
      generalize H1 = H at hP hS ⊢
      have hP : va_P (dC, dI) vwCl [(aZ, .inr (15, s506)), (q_things, .inl (k_things, 5, .inl f_things))] H := hP
      have hD : va_D A [(aZ, .inr (15, s506)), (q_things, .inl (k_things, 5, .inl f_things))] := hD
      rcases hw with ⟨c507, er508, o_s506⟩ | ⟨c509, c510, er511, o_s506⟩ | ⟨c512, c513, c514, er515, o_s506⟩ | ⟨c516, c517, c518, c519, er520, o_s506⟩ | ⟨c521, c522, c523, c524, c525, er526, o_s506⟩ | ⟨c527, c528, c529, c530, c531, c532, er533, o_s506⟩ | ⟨c534, c535, c536, c537, c538, c539, er540, o_s506⟩
      · exact (by exfalso; (try simp only [i_lt, i_le, i_eq, kc_0, kc_4] at c146 c147 c507); omega)
      · exact (by exfalso; (try simp only [i_lt, i_le, i_eq, kc_0, kc_4] at c146 c147 c509 c510); omega)
      · exact (by exfalso; (try simp only [i_lt, i_le, i_eq, kc_0] at c150 c514); omega)
      · exact (by exfalso; (try simp only [i_lt, i_le, i_eq, kc_0, kc_1] at c148 c149 c519); omega)
      · exact (by exfalso; (try simp only [i_lt, i_le, i_eq, kc_0, kc_1, kc_2] at c148 c149 c524 c525); omega)
      · skip
        subst er533
        have o_s506 := ow_on o_fsZ o_s506 (l' := [(0, .int 1), (48, .ref q_things), (48, .ref q_things)]) (w' := [0]) rfl rfl
        refine lv_istore (lv' := [(6, .int 0), (5, .int 1), (0, .ref b), (1, .ref aX), (2, .ref aZ), (3, .ref qO), (4, .int 0)]) hx hb dL_law_2089 hl (by decide) rfl (fun ls hl => ?_)
        refine lv_aload_n hx hb dL_law_2091 rfl (lv_at hl 4 rfl) ?_
        have hPc := hP.sub (ws' := [(aZ, .inr (15, s506))]) [0] rfl
        have hDc := hD.sub (ws' := [(aZ, .inr (15, s506))]) [0] (by decide) rfl
        have hKc := hK.sub (tys' := []) [] rfl
        have hFc := va_free (wc := [(aZ, .inr (15, s506))]) hD hS hA [0] rfl
        refine va_calli (va_runV (As := []) (rest := []) ⟨hx, hb, hml, hown, hts⟩ (z_X12_thrown l dC dI H.size aZ s506 (fh_sub o_s506.2 [0] rfl) ) (cwV 0 hts g_lk_31_z_X12_thrown_149 rfl rfl rfl (by decide +kernel) ⟨Nat.le_of_ble_eq_true rfl, Nat.le_of_ble_eq_true rfl⟩) ⟨fun a U g mk q => by obtain ⟨q0, q1, qP, qK, qD⟩ := q; exact ⟨q0, q1, qP, va_K.moved (u := U) (U := U.calling g mk a) (Vm.Alike.refl U.vm) qK, qD⟩, va_recv hK hP (ci := 15) (q0 := 0) rfl rfl, fun U hU hW => ⟨rfl, by rw [hU], by rw [hU]; exact hPc, va_K.moved hW.alike hKc, hDc.weaken (fun _ _ _ _ => trivial)⟩⟩ rfl rfl hl.1 rfl (lv_room (Nat.le_of_ble_eq_true rfl)) dL_law_2092 ⟨Nat.le_of_ble_eq_true rfl, Nat.le_of_ble_eq_true rfl⟩) hS (fun q _ h => hFc q h) hFc (fun r541 u t H1 locs ht hvm hw hB hz1 hk1 hS => ?_)
        obtain ⟨hP1, hK1, hD1⟩ := hB
        rw [ht] at hP1
        try dsimp only at hw
        obtain ⟨hP, hD⟩ := va_join (wr := [(q_things, .inl (k_things, 5, .inl f_things))]) (w1 := [(aZ, .inr (15, s506))]) hP hD [0] [1] rfl rfl (by decide) (by decide) hk1 hFc hP1 hD1
        have hK := hK.sub (tys' := [(k_things, .int)]) [0] rfl
        generalize H1 = H at hP hS ⊢
        have hP : va_P (dC, dI) vwCl [(q_things, .inl (k_things, 5, .inl f_things)), (aZ, .inr (15, s506))] H := hP
        have hD : va_D A [(q_things, .inl (k_things, 5, .inl f_things)), (aZ, .inr (15, s506))] := hD
        have er542 := hw
        subst er542
        refine lv_iload hx hb dL_law_2095 (lv_at hl 1 rfl) ?_
        refine lv_icmp_eq (tgt := 2102) hx hb dL_law_2097 (by decide) (fun c543 => ?_) (fun c543 => absurd c543 (by decide))
        refine lv_iload hx hb dL_law_2102 (lv_at hl 1 rfl) ?_
        refine lv_if_ne (tgt := 2119) hx hb dL_law_2104 (by decide) (fun c544 => ?_) (fun c544 => absurd c544 (by decide))
        refine lv_goto (tgt := 3111) hx hb dL_law_2119 (by decide) ?_
        exact lw_end hst C0 hA hAf hZ hY (Nat.le_of_ble_eq_true rfl) (Nat.le_of_ble_eq_true rfl) dC dI P0k P0 D0 hS ls (lv_sub hl [2, 6] rfl)
      · exact (by exfalso; (try simp only [i_lt, i_le, i_eq, kc_0] at c151 c539); omega)

set_option maxRecDepth 20000 in
theorem g_lk_32_z_X11_choose_249 : GoodIn lwW (wsV RL 249 RX11 yX11_choose w_z_X11_choose) := goodIn_app (goodIn_sub (ws := ([.methodLink RL 249 yX11_choose, .instanceMethod yX11_choose, .selects RX11 yX11_choose yX11_choose, .initialized RX11] : List Cond)) (gm_c (gm_at lwV_69_in 0 rfl) (gm_c (gm_at lwV_69_in 1 rfl) (gm_c (gm_at lwV_69_in 2 rfl) (gm_c (gm_at lwV_0_in 3 rfl) gm_nil)))) (by decide +kernel)) (goodIn_ca (goodIn_sub (ws := .code yX11_choose cX11_choose 4 (some .boolean) :: l_z_X11_choose) (gm_c (gm_at lwV_69_in 6 rfl) (gm_c (gm_at lwV_60_in 4 rfl) (gm_c (gm_at lwV_60_in 5 rfl) (gm_c (gm_at lwV_60_in 6 rfl) (gm_c (gm_at lwV_0_in 3 rfl) (gm_c (gm_at lwV_60_in 7 rfl) (gm_c (gm_at lwV_55_in 7 rfl) (gm_c (gm_at lwV_55_in 8 rfl) (gm_c (gm_at lwV_55_in 0 rfl) (gm_c (gm_at lwV_55_in 5 rfl) (gm_c (gm_at lwV_55_in 9 rfl) gm_nil))))))))))) (by decide +kernel)) (goodIn_app (goodIn_in il_X11 gd_X11) (goodIn_in il_X5 gd_X5)))
set_option maxRecDepth 20000 in
theorem g_lk_32_z_X12_choose_253 : GoodIn lwW (wsV RL 253 RX12 yX12_choose w_z_X12_choose) := goodIn_app (goodIn_sub (ws := ([.methodLink RL 253 yX12_choose, .instanceMethod yX12_choose, .selects RX12 yX12_choose yX12_choose, .initialized RX12] : List Cond)) (gm_c (gm_at lwV_69_in 3 rfl) (gm_c (gm_at lwV_69_in 4 rfl) (gm_c (gm_at lwV_69_in 5 rfl) (gm_c (gm_at lwV_0_in 7 rfl) gm_nil)))) (by decide +kernel)) (goodIn_ca (goodIn_sub (ws := .code yX12_choose cX12_choose 4 (some .boolean) :: l_z_X12_choose) (gm_c (gm_at lwV_69_in 7 rfl) (gm_c (gm_at lwV_1_in 5 rfl) (gm_c (gm_at lwV_60_in 9 rfl) (gm_c (gm_at lwV_60_in 10 rfl) (gm_c (gm_at lwV_60_in 11 rfl) (gm_c (gm_at lwV_0_in 7 rfl) (gm_c (gm_at lwV_61_in 0 rfl) (gm_c (gm_at lwV_57_in 0 rfl) (gm_c (gm_at lwV_57_in 1 rfl) (gm_c (gm_at lwV_57_in 2 rfl) (gm_c (gm_at lwV_57_in 9 rfl) (gm_c (gm_at lwV_57_in 10 rfl) gm_nil)))))))))))) (by decide +kernel)) (goodIn_in il_X12 gd_X12))
set_option maxRecDepth 20000 in
theorem g_lk_32_z_X11_choose_1_249 : GoodIn lwW (wsV RL 249 RX11 yX11_choose w_z_X11_choose_1) := goodIn_app (goodIn_sub (ws := ([.methodLink RL 249 yX11_choose, .instanceMethod yX11_choose, .selects RX11 yX11_choose yX11_choose, .initialized RX11] : List Cond)) (gm_c (gm_at lwV_69_in 0 rfl) (gm_c (gm_at lwV_69_in 1 rfl) (gm_c (gm_at lwV_69_in 2 rfl) (gm_c (gm_at lwV_0_in 3 rfl) gm_nil)))) (by decide +kernel)) (goodIn_ca (goodIn_sub (ws := .code yX11_choose cX11_choose 4 (some .boolean) :: l_z_X11_choose_1) (gm_c (gm_at lwV_69_in 6 rfl) (gm_c (gm_at lwV_60_in 4 rfl) (gm_c (gm_at lwV_60_in 5 rfl) (gm_c (gm_at lwV_60_in 6 rfl) (gm_c (gm_at lwV_0_in 3 rfl) (gm_c (gm_at lwV_60_in 7 rfl) (gm_c (gm_at lwV_55_in 7 rfl) (gm_c (gm_at lwV_55_in 8 rfl) (gm_c (gm_at lwV_55_in 0 rfl) (gm_c (gm_at lwV_55_in 5 rfl) (gm_c (gm_at lwV_55_in 9 rfl) gm_nil))))))))))) (by decide +kernel)) (goodIn_app (goodIn_in il_X11 gd_X11) (goodIn_in il_X5 gd_X5)))
set_option maxRecDepth 20000 in
theorem g_lk_32_z_X12_choose_1_253 : GoodIn lwW (wsV RL 253 RX12 yX12_choose w_z_X12_choose_1) := goodIn_app (goodIn_sub (ws := ([.methodLink RL 253 yX12_choose, .instanceMethod yX12_choose, .selects RX12 yX12_choose yX12_choose, .initialized RX12] : List Cond)) (gm_c (gm_at lwV_69_in 3 rfl) (gm_c (gm_at lwV_69_in 4 rfl) (gm_c (gm_at lwV_69_in 5 rfl) (gm_c (gm_at lwV_0_in 7 rfl) gm_nil)))) (by decide +kernel)) (goodIn_ca (goodIn_sub (ws := .code yX12_choose cX12_choose 4 (some .boolean) :: l_z_X12_choose_1) (gm_c (gm_at lwV_69_in 7 rfl) (gm_c (gm_at lwV_1_in 5 rfl) (gm_c (gm_at lwV_60_in 9 rfl) (gm_c (gm_at lwV_60_in 10 rfl) (gm_c (gm_at lwV_60_in 11 rfl) (gm_c (gm_at lwV_0_in 7 rfl) (gm_c (gm_at lwV_61_in 0 rfl) (gm_c (gm_at lwV_57_in 0 rfl) (gm_c (gm_at lwV_57_in 1 rfl) (gm_c (gm_at lwV_57_in 2 rfl) (gm_c (gm_at lwV_57_in 9 rfl) (gm_c (gm_at lwV_57_in 10 rfl) gm_nil)))))))))))) (by decide +kernel)) (goodIn_in il_X12 gd_X12))
set_option maxHeartbeats 4000000 in
set_option maxRecDepth 100000 in
/-- the law, one call: choose -/
theorem lk_32 {p : Program} {l : Launch} {e : Env} {s : State} {m : MethodId} {below : List Frame} {meth : Method} {c : Code} {b : Nat} {xs : Nat → Int32} (hst : l.stackTraces = false) (C0 : lw_At p s m meth c b 6 xs) {A : Nat → Prop} (hA : ∀ q : Nat, s.heap.size ≤ q → A q) (hAf : ∀ q : Nat, A q → s.heap.size ≤ q) (hZ : Zz A s) (hY : Yy s) (dC : Nat → ClassId) (dI : Nat → Nat → Nat) (aX : Nat) (fsX : List Value) (qP : Nat) (gP : Nat → Option Nat) (kP : ClassId) (ap : Nat) (fsp : List Value) (aZ : Nat) (fsZ : List Value) (q_things : Nat) (f_things : Nat → Int32) (k_things : ClassId) (qO : Nat) (w1 : Int32) (hw1 : w1 = xs (1 : Int32).toNatClampNeg) (w2 : Int32) (hw2 : w2 = xs (2 : Int32).toNatClampNeg) (w3 : Int32) (hw3 : w3 = xs (3 : Int32).toNatClampNeg) (w4 : Int32) (hw4 : w4 = xs (4 : Int32).toNatClampNeg) (w5 : Int32) (hw5 : w5 = xs (5 : Int32).toNatClampNeg) (k_fsX : fh fsX 18 [(4, .ref qP)]) (k_fsp : fh fsp 21 [(0, .int 0)]) (k_fsZ : fh fsZ 150 [(48, .ref q_things)]) (hg : gP w1.toNatClampNeg = some ap) (hz_f_things : ∀ j, f_things j = 0) {H : Heap} {locs : List Loc} (hK : va_K (dC, dI) vwCl [(kP, .object "HeapWorks$Picture"), (k_things, .int)] s) (hP : va_P (dC, dI) vwCl [(aX, .inr (14, fsX)), (qP, .inl (kP, 4, .inr (.inr (.inr (.inr gP))))), (ap, .inr (8, fsp)), (aZ, .inr (15, fsZ)), (q_things, .inl (k_things, 5, .inl f_things))] H) (hD : va_D A [(aX, .inr (14, fsX)), (qP, .inl (kP, 4, .inr (.inr (.inr (.inr gP))))), (ap, .inr (8, fsp)), (aZ, .inr (15, fsZ)), (q_things, .inl (k_things, 5, .inl f_things))]) (hS : va_S A s.heap H locs) (ls : Array Slot) (hl : lv_has ls 8 [(0, .ref b), (1, .ref aX), (2, .ref aZ), (3, .ref qO), (4, .int 0)]) : W p l e room_1 s m #[Value.ref b] below meth c H locs 390 571359 (lw_Z below #[Value.ref b] s) (F0 m 2122 ls []) := by
  obtain ⟨hx, hb, hr, hml, hown0, hts0, hX, hbl, hlocks, hgv⟩ := id C0
  have hown : s.vm.findClass RL = some m.cls := hown0
  have hts : ∀ w ∈ lwW, w.before #[Value.ref b] s = true := fun w h => hts0 w (lwW_in w h)
  have hbA : ¬ A b := fun h => absurd (hAf b h) (Nat.not_le.mpr hbl)
  have o_fsX := ow_0 k_fsX
  have o_fsp := ow_0 k_fsp
  have o_fsZ := ow_0 k_fsZ
  refine lv_aload_n hx hb dL_law_2122 rfl (lv_at hl 1 rfl) ?_
  refine lv_aload_n hx hb dL_law_2123 rfl (lv_at hl 0 rfl) ?_
  refine lv_iload hx hb dL_law_2124 (lv_at hl 4 rfl) ?_
  refine lv_iconst (v := 1) hx hb dL_law_2126 (by decide) ?_
  refine lv_iadd hx hb dL_law_2127  ?_
  refine lv_topi (fun x101 ex101 => ?_)
  obtain rfl : x101 = 1 := ex101.trans (by decide)
  refine va_sld hx hb hX hbl hbA hS (show vp_in 1 6 from by unfold vp_in; decide) dL_law_2128 ?_
  refine lv_topi (fun x102 ex102 => ?_)
  obtain rfl : w1 = x102 := hw1.trans ex102.symm
  refine lv_aload_n hx hb dL_law_2129 rfl (lv_at hl 0 rfl) ?_
  refine lv_iload hx hb dL_law_2130 (lv_at hl 4 rfl) ?_
  refine lv_iconst (v := 2) hx hb dL_law_2132 (by decide) ?_
  refine lv_iadd hx hb dL_law_2133  ?_
  refine lv_topi (fun x103 ex103 => ?_)
  obtain rfl : x103 = 2 := ex103.trans (by decide)
  refine va_sld hx hb hX hbl hbA hS (show vp_in 2 6 from by unfold vp_in; decide) dL_law_2134 ?_
  refine lv_topi (fun x104 ex104 => ?_)
  obtain rfl : w2 = x104 := hw2.trans ex104.symm
  refine lv_aload_n hx hb dL_law_2135 rfl (lv_at hl 0 rfl) ?_
  refine lv_iload hx hb dL_law_2136 (lv_at hl 4 rfl) ?_
  refine lv_iconst (v := 3) hx hb dL_law_2138 (by decide) ?_
  refine lv_iadd hx hb dL_law_2139  ?_
  refine lv_topi (fun x105 ex105 => ?_)
  obtain rfl : x105 = 3 := ex105.trans (by decide)
  refine va_sld hx hb hX hbl hbA hS (show vp_in 3 6 from by unfold vp_in; decide) dL_law_2140 ?_
  refine lv_topi (fun x106 ex106 => ?_)
  obtain rfl : w3 = x106 := hw3.trans ex106.symm
  refine lv_if_eq (tgt := 2148) hx hb dL_law_2141 (by decide) (fun c107 => ?_) (fun c107 => ?_)
  · skip
    refine lv_iconst (v := 0) hx hb dL_law_2148 (by decide) ?_
    have hPc := hP.sub (ws' := [(aX, .inr (14, fsX)), (qP, .inl (kP, 4, .inr (.inr (.inr (.inr gP))))), (ap, .inr (8, fsp))]) [0, 1, 2] rfl
    have hDc := hD.sub (ws' := [(aX, .inr (14, fsX)), (qP, .inl (kP, 4, .inr (.inr (.inr (.inr gP))))), (ap, .inr (8, fsp))]) [0, 1, 2] (by decide) rfl
    have hKc := hK.sub (tys' := [(kP, .object "HeapWorks$Picture")]) [0] rfl
    have hFc := va_free (wc := [(aX, .inr (14, fsX)), (qP, .inl (kP, 4, .inr (.inr (.inr (.inr gP))))), (ap, .inr (8, fsp))]) hD hS hA [0, 1, 2] rfl
    refine va_calli (va_runV (As := [.int w1, .int w2, .int 0]) (rest := []) ⟨hx, hb, hml, hown, hts⟩ (z_X11_choose l dC dI H.size aX fsX qP gP kP ap fsp w1 w2 (fh_sub o_fsX.2 [0] rfl) (fh_sub o_fsp.2 [0] rfl) hg) (cwV 3 hts g_lk_32_z_X11_choose_249 rfl rfl rfl (by decide +kernel) ⟨Nat.le_of_ble_eq_true rfl, Nat.le_of_ble_eq_true rfl⟩) ⟨fun a U g mk q => by obtain ⟨q0, q1, qP, qK, qD⟩ := q; exact ⟨q0, q1, qP, va_K.moved (u := U) (U := U.calling g mk a) (Vm.Alike.refl U.vm) qK, qD⟩, va_recv hK hP (ci := 14) (q0 := 0) rfl rfl, fun U hU hW => ⟨rfl, by rw [hU], by rw [hU]; exact hPc, va_K.moved hW.alike hKc, hDc.weaken (fun _ _ _ _ => trivial)⟩⟩ rfl rfl hl.1 rfl (lv_room (Nat.le_of_ble_eq_true rfl)) dL_law_2149 ⟨Nat.le_of_ble_eq_true rfl, Nat.le_of_ble_eq_true rfl⟩) hS (fun q _ h => hFc q h) hFc (fun r108 u t H1 locs ht hvm hw hB hz1 hk1 hS => ?_)
    obtain ⟨hP1, hK1, hD1⟩ := hB
    rw [ht] at hP1
    try dsimp only at hw
    obtain ⟨hP, hD⟩ := va_join (wr := [(aZ, .inr (15, fsZ)), (q_things, .inl (k_things, 5, .inl f_things))]) (w1 := [(aX, .inr (14, fsX)), (qP, .inl (kP, 4, .inr (.inr (.inr (.inr gP))))), (ap, .inr (8, fsp))]) hP hD [0, 1, 2] [3, 4] rfl rfl (by decide) (by decide) hk1 hFc hP1 hD1
    have hK := hK.sub (tys' := [(k_things, .int), (kP, .object "HeapWorks$Picture")]) [1, 0] rfl
    generalize H1 = H at hP hS ⊢
    have hP : va_P (dC, dI) vwCl [(aZ, .inr (15, fsZ)), (q_things, .inl (k_things, 5, .inl f_things)), (aX, .inr (14, fsX)), (qP, .inl (kP, 4, .inr (.inr (.inr (.inr gP))))), (ap, .inr (8, fsp))] H := hP
    have hD : va_D A [(aZ, .inr (15, fsZ)), (q_things, .inl (k_things, 5, .inl f_things)), (aX, .inr (14, fsX)), (qP, .inl (kP, 4, .inr (.inr (.inr (.inr gP))))), (ap, .inr (8, fsp))] := hD
    rcases hw with ⟨c109, er110⟩ | ⟨c111, c112, er113⟩ | ⟨c114, c115, c116, er117⟩ | ⟨c118, c119, c120, c121, er122⟩
    · skip
      subst er110
      refine lv_aload_n hx hb dL_law_2152 rfl (lv_at hl 2 rfl) ?_
      refine lv_aload_n hx hb dL_law_2153 rfl (lv_at hl 0 rfl) ?_
      refine lv_iload hx hb dL_law_2154 (lv_at hl 4 rfl) ?_
      refine lv_iconst (v := 1) hx hb dL_law_2156 (by decide) ?_
      refine lv_iadd hx hb dL_law_2157  ?_
      refine lv_topi (fun x123 ex123 => ?_)
      obtain rfl : x123 = 1 := ex123.trans (by decide)
      refine va_sld hx hb hX hbl hbA hS (show vp_in 1 6 from by unfold vp_in; decide) dL_law_2158 ?_
      refine lv_topi (fun x124 ex124 => ?_)
      obtain rfl : w1 = x124 := hw1.trans ex124.symm
      refine lv_aload_n hx hb dL_law_2159 rfl (lv_at hl 0 rfl) ?_
      refine lv_iload hx hb dL_law_2160 (lv_at hl 4 rfl) ?_
      refine lv_iconst (v := 2) hx hb dL_law_2162 (by decide) ?_
      refine lv_iadd hx hb dL_law_2163  ?_
      refine lv_topi (fun x125 ex125 => ?_)
      obtain rfl : x125 = 2 := ex125.trans (by decide)
      refine va_sld hx hb hX hbl hbA hS (show vp_in 2 6 from by unfold vp_in; decide) dL_law_2164 ?_
      refine lv_topi (fun x126 ex126 => ?_)
      obtain rfl : w2 = x126 := hw2.trans ex126.symm
      refine lv_aload_n hx hb dL_law_2165 rfl (lv_at hl 0 rfl) ?_
      refine lv_iload hx hb dL_law_2166 (lv_at hl 4 rfl) ?_
      refine lv_iconst (v := 3) hx hb dL_law_2168 (by decide) ?_
      refine lv_iadd hx hb dL_law_2169  ?_
      refine lv_topi (fun x127 ex127 => ?_)
      obtain rfl : x127 = 3 := ex127.trans (by decide)
      refine va_sld hx hb hX hbl hbA hS (show vp_in 3 6 from by unfold vp_in; decide) dL_law_2170 ?_
      refine lv_topi (fun x128 ex128 => ?_)
      obtain rfl : w3 = x128 := hw3.trans ex128.symm
      refine lv_if_eq (tgt := 2178) hx hb dL_law_2171 (by decide) (fun c129 => ?_) (fun c129 => (by exfalso; have bd_w3 := i_bd w3; (try simp only [i_lt, i_le, i_eq, kc_0] at c107 c129); omega))
      refine lv_iconst (v := 0) hx hb dL_law_2178 (by decide) ?_
      have hPc := hP.sub (ws' := [(aZ, .inr (15, fsZ)), (q_things, .inl (k_things, 5, .inl f_things))]) [0, 1] rfl
      have hDc := hD.sub (ws' := [(aZ, .inr (15, fsZ)), (q_things, .inl (k_things, 5, .inl f_things))]) [0, 1] (by decide) rfl
      have hKc := hK.sub (tys' := [(k_things, .int)]) [0] rfl
      have hFc := va_free (wc := [(aZ, .inr (15, fsZ)), (q_things, .inl (k_things, 5, .inl f_things))]) hD hS hA [0, 1] rfl
      refine va_calli (va_runV (As := [.int w1, .int w2, .int 0]) (rest := [.int 0]) ⟨hx, hb, hml, hown, hts⟩ (z_X12_choose l dC dI H.size aZ fsZ q_things f_things k_things w1 w2 (fh_sub o_fsZ.2 [0] rfl) hz_f_things) (cwV 3 hts g_lk_32_z_X12_choose_253 rfl rfl rfl (by decide +kernel) ⟨Nat.le_of_ble_eq_true rfl, Nat.le_of_ble_eq_true rfl⟩) ⟨fun a U g mk q => by obtain ⟨q0, q1, qP, qK, qD⟩ := q; exact ⟨q0, q1, qP, va_K.moved (u := U) (U := U.calling g mk a) (Vm.Alike.refl U.vm) qK, qD⟩, va_recv hK hP (ci := 15) (q0 := 0) rfl rfl, fun U hU hW => ⟨rfl, by rw [hU], by rw [hU]; exact hPc, va_K.moved hW.alike hKc, hDc.weaken (fun _ _ _ _ => trivial)⟩⟩ rfl rfl hl.1 rfl (lv_room (Nat.le_of_ble_eq_true rfl)) dL_law_2179 ⟨Nat.le_of_ble_eq_true rfl, Nat.le_of_ble_eq_true rfl⟩) hS (fun q _ h => hFc q h) hFc (fun r130 u t H1 locs ht hvm hw hB hz1 hk1 hS => ?_)
      obtain ⟨s131, rfl⟩ : ∃ z, z = u := ⟨_, rfl⟩
      obtain ⟨hP1, hK1, hD1⟩ := hB
      rw [ht] at hP1
      try dsimp only at hw
      obtain ⟨hP, hD⟩ := va_join (wr := [(aX, .inr (14, fsX)), (qP, .inl (kP, 4, .inr (.inr (.inr (.inr gP))))), (ap, .inr (8, fsp))]) (w1 := [(aZ, .inr (15, s131)), (q_things, .inl (k_things, 5, .inl f_things))]) hP hD [0, 1] [2, 3, 4] rfl rfl (by decide) (by decide) hk1 hFc hP1 hD1
      have hK := hK.sub (tys' := [(kP, .object "HeapWorks$Picture"), (k_things, .int)]) [1, 0] rfl
      generalize H1 = H at hP hS ⊢
      have hP : va_P (dC, dI) vwCl [(aX, .inr (14, fsX)), (qP, .inl (kP, 4, .inr (.inr (.inr (.inr gP))))), (ap, .inr (8, fsp)), (aZ, .inr (15, s131)), (q_things, .inl (k_things, 5, .inl f_things))] H := hP
      have hD : va_D A [(aX, .inr (14, fsX)), (qP, .inl (kP, 4, .inr (.inr (.inr (.inr gP))))), (ap, .inr (8, fsp)), (aZ, .inr (15, s131)), (q_things, .inl (k_things, 5, .inl f_things))] := hD
      rcases hw with ⟨c132, er133, o_s131⟩ | ⟨c134, c135, er136, o_s131⟩ | ⟨c137, c138, c139, er140, o_s131⟩ | ⟨c141, c142, c143, c144, er145, o_s131⟩
      · skip
        subst er133
        have o_s131 := ow_on o_fsZ o_s131 (l' := [(0, .int 0), (48, .ref q_things), (48, .ref q_things)]) (w' := [0]) rfl rfl
        refine lv_icmp_eq (tgt := 3111) hx hb dL_law_2182 (by decide) (fun c146 => ?_) (fun c146 => absurd c146 (by decide))
        exact lw_end hst C0 hA hAf hZ hY (Nat.le_of_ble_eq_true rfl) (Nat.le_of_ble_eq_true rfl) dC dI P0k P0 D0 hS ls (lv_sub hl [0, 4] rfl)
      · exact (by exfalso; (try simp only [i_lt, i_le, i_eq, kc_0, kc_4] at c109 c134 c135); omega)
      · exact (by exfalso; (try simp only [i_lt, i_le, i_eq, kc_0, kc_4] at c109 c137 c138); omega)
      · exact (by exfalso; (try simp only [i_lt, i_le, i_eq, kc_0, kc_4] at c109 c141 c142); omega)
    · skip
      subst er113
      refine lv_aload_n hx hb dL_law_2152 rfl (lv_at hl 2 rfl) ?_
      refine lv_aload_n hx hb dL_law_2153 rfl (lv_at hl 0 rfl) ?_
      refine lv_iload hx hb dL_law_2154 (lv_at hl 4 rfl) ?_
      refine lv_iconst (v := 1) hx hb dL_law_2156 (by decide) ?_
      refine lv_iadd hx hb dL_law_2157  ?_
      refine lv_topi (fun x147 ex147 => ?_)
      obtain rfl : x147 = 1 := ex147.trans (by decide)
      refine va_sld hx hb hX hbl hbA hS (show vp_in 1 6 from by unfold vp_in; decide) dL_law_2158 ?_
      refine lv_topi (fun x148 ex148 => ?_)
      obtain rfl : w1 = x148 := hw1.trans ex148.symm
      refine lv_aload_n hx hb dL_law_2159 rfl (lv_at hl 0 rfl) ?_
      refine lv_iload hx hb dL_law_2160 (lv_at hl 4 rfl) ?_
      refine lv_iconst (v := 2) hx hb dL_law_2162 (by decide) ?_
      refine lv_iadd hx hb dL_law_2163  ?_
      refine lv_topi (fun x149 ex149 => ?_)
      obtain rfl : x149 = 2 := ex149.trans (by decide)
      refine va_sld hx hb hX hbl hbA hS (show vp_in 2 6 from by unfold vp_in; decide) dL_law_2164 ?_
      refine lv_topi (fun x150 ex150 => ?_)
      obtain rfl : w2 = x150 := hw2.trans ex150.symm
      refine lv_aload_n hx hb dL_law_2165 rfl (lv_at hl 0 rfl) ?_
      refine lv_iload hx hb dL_law_2166 (lv_at hl 4 rfl) ?_
      refine lv_iconst (v := 3) hx hb dL_law_2168 (by decide) ?_
      refine lv_iadd hx hb dL_law_2169  ?_
      refine lv_topi (fun x151 ex151 => ?_)
      obtain rfl : x151 = 3 := ex151.trans (by decide)
      refine va_sld hx hb hX hbl hbA hS (show vp_in 3 6 from by unfold vp_in; decide) dL_law_2170 ?_
      refine lv_topi (fun x152 ex152 => ?_)
      obtain rfl : w3 = x152 := hw3.trans ex152.symm
      refine lv_if_eq (tgt := 2178) hx hb dL_law_2171 (by decide) (fun c153 => ?_) (fun c153 => (by exfalso; have bd_w3 := i_bd w3; (try simp only [i_lt, i_le, i_eq, kc_0] at c107 c153); omega))
      refine lv_iconst (v := 0) hx hb dL_law_2178 (by decide) ?_
      have hPc := hP.sub (ws' := [(aZ, .inr (15, fsZ)), (q_things, .inl (k_things, 5, .inl f_things))]) [0, 1] rfl
      have hDc := hD.sub (ws' := [(aZ, .inr (15, fsZ)), (q_things, .inl (k_things, 5, .inl f_things))]) [0, 1] (by decide) rfl
      have hKc := hK.sub (tys' := [(k_things, .int)]) [0] rfl
      have hFc := va_free (wc := [(aZ, .inr (15, fsZ)), (q_things, .inl (k_things, 5, .inl f_things))]) hD hS hA [0, 1] rfl
      refine va_calli (va_runV (As := [.int w1, .int w2, .int 0]) (rest := [.int 0]) ⟨hx, hb, hml, hown, hts⟩ (z_X12_choose l dC dI H.size aZ fsZ q_things f_things k_things w1 w2 (fh_sub o_fsZ.2 [0] rfl) hz_f_things) (cwV 3 hts g_lk_32_z_X12_choose_253 rfl rfl rfl (by decide +kernel) ⟨Nat.le_of_ble_eq_true rfl, Nat.le_of_ble_eq_true rfl⟩) ⟨fun a U g mk q => by obtain ⟨q0, q1, qP, qK, qD⟩ := q; exact ⟨q0, q1, qP, va_K.moved (u := U) (U := U.calling g mk a) (Vm.Alike.refl U.vm) qK, qD⟩, va_recv hK hP (ci := 15) (q0 := 0) rfl rfl, fun U hU hW => ⟨rfl, by rw [hU], by rw [hU]; exact hPc, va_K.moved hW.alike hKc, hDc.weaken (fun _ _ _ _ => trivial)⟩⟩ rfl rfl hl.1 rfl (lv_room (Nat.le_of_ble_eq_true rfl)) dL_law_2179 ⟨Nat.le_of_ble_eq_true rfl, Nat.le_of_ble_eq_true rfl⟩) hS (fun q _ h => hFc q h) hFc (fun r154 u t H1 locs ht hvm hw hB hz1 hk1 hS => ?_)
      obtain ⟨s155, rfl⟩ : ∃ z, z = u := ⟨_, rfl⟩
      obtain ⟨hP1, hK1, hD1⟩ := hB
      rw [ht] at hP1
      try dsimp only at hw
      obtain ⟨hP, hD⟩ := va_join (wr := [(aX, .inr (14, fsX)), (qP, .inl (kP, 4, .inr (.inr (.inr (.inr gP))))), (ap, .inr (8, fsp))]) (w1 := [(aZ, .inr (15, s155)), (q_things, .inl (k_things, 5, .inl f_things))]) hP hD [0, 1] [2, 3, 4] rfl rfl (by decide) (by decide) hk1 hFc hP1 hD1
      have hK := hK.sub (tys' := [(kP, .object "HeapWorks$Picture"), (k_things, .int)]) [1, 0] rfl
      generalize H1 = H at hP hS ⊢
      have hP : va_P (dC, dI) vwCl [(aX, .inr (14, fsX)), (qP, .inl (kP, 4, .inr (.inr (.inr (.inr gP))))), (ap, .inr (8, fsp)), (aZ, .inr (15, s155)), (q_things, .inl (k_things, 5, .inl f_things))] H := hP
      have hD : va_D A [(aX, .inr (14, fsX)), (qP, .inl (kP, 4, .inr (.inr (.inr (.inr gP))))), (ap, .inr (8, fsp)), (aZ, .inr (15, s155)), (q_things, .inl (k_things, 5, .inl f_things))] := hD
      rcases hw with ⟨c156, er157, o_s155⟩ | ⟨c158, c159, er160, o_s155⟩ | ⟨c161, c162, c163, er164, o_s155⟩ | ⟨c165, c166, c167, c168, er169, o_s155⟩
      · exact (by exfalso; (try simp only [i_lt, i_le, i_eq, kc_0, kc_4] at c111 c112 c156); omega)
      · skip
        subst er160
        have o_s155 := ow_on o_fsZ o_s155 (l' := [(0, .int 0), (48, .ref q_things), (48, .ref q_things)]) (w' := [0]) rfl rfl
        refine lv_icmp_eq (tgt := 3111) hx hb dL_law_2182 (by decide) (fun c170 => ?_) (fun c170 => absurd c170 (by decide))
        exact lw_end hst C0 hA hAf hZ hY (Nat.le_of_ble_eq_true rfl) (Nat.le_of_ble_eq_true rfl) dC dI P0k P0 D0 hS ls (lv_sub hl [0, 4] rfl)
      · exact (by exfalso; (try simp only [i_lt, i_le, i_eq, kc_0, kc_4] at c111 c112 c161 c162); omega)
      · exact (by exfalso; (try simp only [i_lt, i_le, i_eq, kc_0, kc_4] at c111 c112 c165 c166); omega)
    · skip
      subst er117
      refine lv_aload_n hx hb dL_law_2152 rfl (lv_at hl 2 rfl) ?_
      refine lv_aload_n hx hb dL_law_2153 rfl (lv_at hl 0 rfl) ?_
      refine lv_iload hx hb dL_law_2154 (lv_at hl 4 rfl) ?_
      refine lv_iconst (v := 1) hx hb dL_law_2156 (by decide) ?_
      refine lv_iadd hx hb dL_law_2157  ?_
      refine lv_topi (fun x171 ex171 => ?_)
      obtain rfl : x171 = 1 := ex171.trans (by decide)
      refine va_sld hx hb hX hbl hbA hS (show vp_in 1 6 from by unfold vp_in; decide) dL_law_2158 ?_
      refine lv_topi (fun x172 ex172 => ?_)
      obtain rfl : w1 = x172 := hw1.trans ex172.symm
      refine lv_aload_n hx hb dL_law_2159 rfl (lv_at hl 0 rfl) ?_
      refine lv_iload hx hb dL_law_2160 (lv_at hl 4 rfl) ?_
      refine lv_iconst (v := 2) hx hb dL_law_2162 (by decide) ?_
      refine lv_iadd hx hb dL_law_2163  ?_
      refine lv_topi (fun x173 ex173 => ?_)
      obtain rfl : x173 = 2 := ex173.trans (by decide)
      refine va_sld hx hb hX hbl hbA hS (show vp_in 2 6 from by unfold vp_in; decide) dL_law_2164 ?_
      refine lv_topi (fun x174 ex174 => ?_)
      obtain rfl : w2 = x174 := hw2.trans ex174.symm
      refine lv_aload_n hx hb dL_law_2165 rfl (lv_at hl 0 rfl) ?_
      refine lv_iload hx hb dL_law_2166 (lv_at hl 4 rfl) ?_
      refine lv_iconst (v := 3) hx hb dL_law_2168 (by decide) ?_
      refine lv_iadd hx hb dL_law_2169  ?_
      refine lv_topi (fun x175 ex175 => ?_)
      obtain rfl : x175 = 3 := ex175.trans (by decide)
      refine va_sld hx hb hX hbl hbA hS (show vp_in 3 6 from by unfold vp_in; decide) dL_law_2170 ?_
      refine lv_topi (fun x176 ex176 => ?_)
      obtain rfl : w3 = x176 := hw3.trans ex176.symm
      refine lv_if_eq (tgt := 2178) hx hb dL_law_2171 (by decide) (fun c177 => ?_) (fun c177 => (by exfalso; have bd_w3 := i_bd w3; (try simp only [i_lt, i_le, i_eq, kc_0] at c107 c177); omega))
      refine lv_iconst (v := 0) hx hb dL_law_2178 (by decide) ?_
      have hPc := hP.sub (ws' := [(aZ, .inr (15, fsZ)), (q_things, .inl (k_things, 5, .inl f_things))]) [0, 1] rfl
      have hDc := hD.sub (ws' := [(aZ, .inr (15, fsZ)), (q_things, .inl (k_things, 5, .inl f_things))]) [0, 1] (by decide) rfl
      have hKc := hK.sub (tys' := [(k_things, .int)]) [0] rfl
      have hFc := va_free (wc := [(aZ, .inr (15, fsZ)), (q_things, .inl (k_things, 5, .inl f_things))]) hD hS hA [0, 1] rfl
      refine va_calli (va_runV (As := [.int w1, .int w2, .int 0]) (rest := [.int 0]) ⟨hx, hb, hml, hown, hts⟩ (z_X12_choose l dC dI H.size aZ fsZ q_things f_things k_things w1 w2 (fh_sub o_fsZ.2 [0] rfl) hz_f_things) (cwV 3 hts g_lk_32_z_X12_choose_253 rfl rfl rfl (by decide +kernel) ⟨Nat.le_of_ble_eq_true rfl, Nat.le_of_ble_eq_true rfl⟩) ⟨fun a U g mk q => by obtain ⟨q0, q1, qP, qK, qD⟩ := q; exact ⟨q0, q1, qP, va_K.moved (u := U) (U := U.calling g mk a) (Vm.Alike.refl U.vm) qK, qD⟩, va_recv hK hP (ci := 15) (q0 := 0) rfl rfl, fun U hU hW => ⟨rfl, by rw [hU], by rw [hU]; exact hPc, va_K.moved hW.alike hKc, hDc.weaken (fun _ _ _ _ => trivial)⟩⟩ rfl rfl hl.1 rfl (lv_room (Nat.le_of_ble_eq_true rfl)) dL_law_2179 ⟨Nat.le_of_ble_eq_true rfl, Nat.le_of_ble_eq_true rfl⟩) hS (fun q _ h => hFc q h) hFc (fun r178 u t H1 locs ht hvm hw hB hz1 hk1 hS => ?_)
      obtain ⟨s179, rfl⟩ : ∃ z, z = u := ⟨_, rfl⟩
      obtain ⟨hP1, hK1, hD1⟩ := hB
      rw [ht] at hP1
      try dsimp only at hw
      obtain ⟨hP, hD⟩ := va_join (wr := [(aX, .inr (14, fsX)), (qP, .inl (kP, 4, .inr (.inr (.inr (.inr gP))))), (ap, .inr (8, fsp))]) (w1 := [(aZ, .inr (15, s179)), (q_things, .inl (k_things, 5, .inl f_things))]) hP hD [0, 1] [2, 3, 4] rfl rfl (by decide) (by decide) hk1 hFc hP1 hD1
      have hK := hK.sub (tys' := [(kP, .object "HeapWorks$Picture"), (k_things, .int)]) [1, 0] rfl
      generalize H1 = H at hP hS ⊢
      have hP : va_P (dC, dI) vwCl [(aX, .inr (14, fsX)), (qP, .inl (kP, 4, .inr (.inr (.inr (.inr gP))))), (ap, .inr (8, fsp)), (aZ, .inr (15, s179)), (q_things, .inl (k_things, 5, .inl f_things))] H := hP
      have hD : va_D A [(aX, .inr (14, fsX)), (qP, .inl (kP, 4, .inr (.inr (.inr (.inr gP))))), (ap, .inr (8, fsp)), (aZ, .inr (15, s179)), (q_things, .inl (k_things, 5, .inl f_things))] := hD
      rcases hw with ⟨c180, er181, o_s179⟩ | ⟨c182, c183, er184, o_s179⟩ | ⟨c185, c186, c187, er188, o_s179⟩ | ⟨c189, c190, c191, c192, er193, o_s179⟩
      · exact (by exfalso; (try simp only [i_lt, i_le, i_eq, kc_0, kc_4] at c114 c115 c180); omega)
      · exact (by exfalso; (try simp only [i_lt, i_le, i_eq, kc_0, kc_4] at c114 c115 c182 c183); omega)
      · skip
        subst er188
        have o_s179 := ow_on o_fsZ o_s179 (l' := [(0, .int 0), (48, .ref q_things), (48, .ref q_things)]) (w' := [0]) rfl rfl
        refine lv_icmp_eq (tgt := 3111) hx hb dL_law_2182 (by decide) (fun c194 => ?_) (fun c194 => absurd c194 (by decide))
        exact lw_end hst C0 hA hAf hZ hY (Nat.le_of_ble_eq_true rfl) (Nat.le_of_ble_eq_true rfl) dC dI P0k P0 D0 hS ls (lv_sub hl [0, 4] rfl)
      · exact (by exfalso; (try simp only [i_lt, i_le, i_eq, kc_0] at c116 c191 c192); omega)
    · skip
      subst er122
      refine lv_aload_n hx hb dL_law_2152 rfl (lv_at hl 2 rfl) ?_
      refine lv_aload_n hx hb dL_law_2153 rfl (lv_at hl 0 rfl) ?_
      refine lv_iload hx hb dL_law_2154 (lv_at hl 4 rfl) ?_
      refine lv_iconst (v := 1) hx hb dL_law_2156 (by decide) ?_
      refine lv_iadd hx hb dL_law_2157  ?_
      refine lv_topi (fun x195 ex195 => ?_)
      obtain rfl : x195 = 1 := ex195.trans (by decide)
      refine va_sld hx hb hX hbl hbA hS (show vp_in 1 6 from by unfold vp_in; decide) dL_law_2158 ?_
      refine lv_topi (fun x196 ex196 => ?_)
      obtain rfl : w1 = x196 := hw1.trans ex196.symm
      refine lv_aload_n hx hb dL_law_2159 rfl (lv_at hl 0 rfl) ?_
      refine lv_iload hx hb dL_law_2160 (lv_at hl 4 rfl) ?_
      refine lv_iconst (v := 2) hx hb dL_law_2162 (by decide) ?_
      refine lv_iadd hx hb dL_law_2163  ?_
      refine lv_topi (fun x197 ex197 => ?_)
      obtain rfl : x197 = 2 := ex197.trans (by decide)
      refine va_sld hx hb hX hbl hbA hS (show vp_in 2 6 from by unfold vp_in; decide) dL_law_2164 ?_
      refine lv_topi (fun x198 ex198 => ?_)
      obtain rfl : w2 = x198 := hw2.trans ex198.symm
      refine lv_aload_n hx hb dL_law_2165 rfl (lv_at hl 0 rfl) ?_
      refine lv_iload hx hb dL_law_2166 (lv_at hl 4 rfl) ?_
      refine lv_iconst (v := 3) hx hb dL_law_2168 (by decide) ?_
      refine lv_iadd hx hb dL_law_2169  ?_
      refine lv_topi (fun x199 ex199 => ?_)
      obtain rfl : x199 = 3 := ex199.trans (by decide)
      refine va_sld hx hb hX hbl hbA hS (show vp_in 3 6 from by unfold vp_in; decide) dL_law_2170 ?_
      refine lv_topi (fun x200 ex200 => ?_)
      obtain rfl : w3 = x200 := hw3.trans ex200.symm
      refine lv_if_eq (tgt := 2178) hx hb dL_law_2171 (by decide) (fun c201 => ?_) (fun c201 => (by exfalso; have bd_w3 := i_bd w3; (try simp only [i_lt, i_le, i_eq, kc_0] at c107 c201); omega))
      refine lv_iconst (v := 0) hx hb dL_law_2178 (by decide) ?_
      have hPc := hP.sub (ws' := [(aZ, .inr (15, fsZ)), (q_things, .inl (k_things, 5, .inl f_things))]) [0, 1] rfl
      have hDc := hD.sub (ws' := [(aZ, .inr (15, fsZ)), (q_things, .inl (k_things, 5, .inl f_things))]) [0, 1] (by decide) rfl
      have hKc := hK.sub (tys' := [(k_things, .int)]) [0] rfl
      have hFc := va_free (wc := [(aZ, .inr (15, fsZ)), (q_things, .inl (k_things, 5, .inl f_things))]) hD hS hA [0, 1] rfl
      refine va_calli (va_runV (As := [.int w1, .int w2, .int 0]) (rest := [.int 0]) ⟨hx, hb, hml, hown, hts⟩ (z_X12_choose l dC dI H.size aZ fsZ q_things f_things k_things w1 w2 (fh_sub o_fsZ.2 [0] rfl) hz_f_things) (cwV 3 hts g_lk_32_z_X12_choose_253 rfl rfl rfl (by decide +kernel) ⟨Nat.le_of_ble_eq_true rfl, Nat.le_of_ble_eq_true rfl⟩) ⟨fun a U g mk q => by obtain ⟨q0, q1, qP, qK, qD⟩ := q; exact ⟨q0, q1, qP, va_K.moved (u := U) (U := U.calling g mk a) (Vm.Alike.refl U.vm) qK, qD⟩, va_recv hK hP (ci := 15) (q0 := 0) rfl rfl, fun U hU hW => ⟨rfl, by rw [hU], by rw [hU]; exact hPc, va_K.moved hW.alike hKc, hDc.weaken (fun _ _ _ _ => trivial)⟩⟩ rfl rfl hl.1 rfl (lv_room (Nat.le_of_ble_eq_true rfl)) dL_law_2179 ⟨Nat.le_of_ble_eq_true rfl, Nat.le_of_ble_eq_true rfl⟩) hS (fun q _ h => hFc q h) hFc (fun r202 u t H1 locs ht hvm hw hB hz1 hk1 hS => ?_)
      obtain ⟨s203, rfl⟩ : ∃ z, z = u := ⟨_, rfl⟩
      obtain ⟨hP1, hK1, hD1⟩ := hB
      rw [ht] at hP1
      try dsimp only at hw
      obtain ⟨hP, hD⟩ := va_join (wr := [(aX, .inr (14, fsX)), (qP, .inl (kP, 4, .inr (.inr (.inr (.inr gP))))), (ap, .inr (8, fsp))]) (w1 := [(aZ, .inr (15, s203)), (q_things, .inl (k_things, 5, .inl f_things))]) hP hD [0, 1] [2, 3, 4] rfl rfl (by decide) (by decide) hk1 hFc hP1 hD1
      have hK := hK.sub (tys' := [(kP, .object "HeapWorks$Picture"), (k_things, .int)]) [1, 0] rfl
      generalize H1 = H at hP hS ⊢
      have hP : va_P (dC, dI) vwCl [(aX, .inr (14, fsX)), (qP, .inl (kP, 4, .inr (.inr (.inr (.inr gP))))), (ap, .inr (8, fsp)), (aZ, .inr (15, s203)), (q_things, .inl (k_things, 5, .inl f_things))] H := hP
      have hD : va_D A [(aX, .inr (14, fsX)), (qP, .inl (kP, 4, .inr (.inr (.inr (.inr gP))))), (ap, .inr (8, fsp)), (aZ, .inr (15, s203)), (q_things, .inl (k_things, 5, .inl f_things))] := hD
      rcases hw with ⟨c204, er205, o_s203⟩ | ⟨c206, c207, er208, o_s203⟩ | ⟨c209, c210, c211, er212, o_s203⟩ | ⟨c213, c214, c215, c216, er217, o_s203⟩
      · exact (by exfalso; (try simp only [i_lt, i_le, i_eq, kc_0, kc_4] at c118 c119 c204); omega)
      · exact (by exfalso; (try simp only [i_lt, i_le, i_eq, kc_0, kc_4] at c118 c119 c206 c207); omega)
      · exact (by exfalso; (try simp only [i_lt, i_le, i_eq, kc_0] at c120 c121 c211); omega)
      · skip
        subst er217
        have o_s203 := ow_on o_fsZ o_s203 (l' := [(0, .int 0), (48, .ref q_things), (48, .ref q_things)]) (w' := [0]) rfl rfl
        refine lv_icmp_eq (tgt := 3111) hx hb dL_law_2182 (by decide) (fun c218 => ?_) (fun c218 => absurd c218 (by decide))
        exact lw_end hst C0 hA hAf hZ hY (Nat.le_of_ble_eq_true rfl) (Nat.le_of_ble_eq_true rfl) dC dI P0k P0 D0 hS ls (lv_sub hl [0, 4] rfl)
  · skip
    refine lv_iconst (v := 1) hx hb dL_law_2144 (by decide) ?_
    refine lv_goto (tgt := 2149) hx hb dL_law_2145 (by decide) ?_
    have hPc := hP.sub (ws' := [(aX, .inr (14, fsX)), (qP, .inl (kP, 4, .inr (.inr (.inr (.inr gP))))), (ap, .inr (8, fsp))]) [0, 1, 2] rfl
    have hDc := hD.sub (ws' := [(aX, .inr (14, fsX)), (qP, .inl (kP, 4, .inr (.inr (.inr (.inr gP))))), (ap, .inr (8, fsp))]) [0, 1, 2] (by decide) rfl
    have hKc := hK.sub (tys' := [(kP, .object "HeapWorks$Picture")]) [0] rfl
    have hFc := va_free (wc := [(aX, .inr (14, fsX)), (qP, .inl (kP, 4, .inr (.inr (.inr (.inr gP))))), (ap, .inr (8, fsp))]) hD hS hA [0, 1, 2] rfl
    refine va_calli (va_runV (As := [.int w1, .int w2, .int 1]) (rest := []) ⟨hx, hb, hml, hown, hts⟩ (z_X11_choose_1 l dC dI H.size aX fsX qP gP kP ap fsp w1 w2 (fh_sub o_fsX.2 [0] rfl) (fh_sub o_fsp.2 [0] rfl) hg) (cwV 3 hts g_lk_32_z_X11_choose_1_249 rfl rfl rfl (by decide +kernel) ⟨Nat.le_of_ble_eq_true rfl, Nat.le_of_ble_eq_true rfl⟩) ⟨fun a U g mk q => by obtain ⟨q0, q1, qP, qK, qD⟩ := q; exact ⟨q0, q1, qP, va_K.moved (u := U) (U := U.calling g mk a) (Vm.Alike.refl U.vm) qK, qD⟩, va_recv hK hP (ci := 14) (q0 := 0) rfl rfl, fun U hU hW => ⟨rfl, by rw [hU], by rw [hU]; exact hPc, va_K.moved hW.alike hKc, hDc.weaken (fun _ _ _ _ => trivial)⟩⟩ rfl rfl hl.1 rfl (lv_room (Nat.le_of_ble_eq_true rfl)) dL_law_2149 ⟨Nat.le_of_ble_eq_true rfl, Nat.le_of_ble_eq_true rfl⟩) hS (fun q _ h => hFc q h) hFc (fun r219 u t H1 locs ht hvm hw hB hz1 hk1 hS => ?_)
    obtain ⟨hP1, hK1, hD1⟩ := hB
    rw [ht] at hP1
    try dsimp only at hw
    obtain ⟨hP, hD⟩ := va_join (wr := [(aZ, .inr (15, fsZ)), (q_things, .inl (k_things, 5, .inl f_things))]) (w1 := [(aX, .inr (14, fsX)), (qP, .inl (kP, 4, .inr (.inr (.inr (.inr gP))))), (ap, .inr (8, fsp))]) hP hD [0, 1, 2] [3, 4] rfl rfl (by decide) (by decide) hk1 hFc hP1 hD1
    have hK := hK.sub (tys' := [(k_things, .int), (kP, .object "HeapWorks$Picture")]) [1, 0] rfl
    generalize H1 = H at hP hS ⊢
    have hP : va_P (dC, dI) vwCl [(aZ, .inr (15, fsZ)), (q_things, .inl (k_things, 5, .inl f_things)), (aX, .inr (14, fsX)), (qP, .inl (kP, 4, .inr (.inr (.inr (.inr gP))))), (ap, .inr (8, fsp))] H := hP
    have hD : va_D A [(aZ, .inr (15, fsZ)), (q_things, .inl (k_things, 5, .inl f_things)), (aX, .inr (14, fsX)), (qP, .inl (kP, 4, .inr (.inr (.inr (.inr gP))))), (ap, .inr (8, fsp))] := hD
    rcases hw with ⟨c220, er221⟩ | ⟨c222, c223, er224⟩ | ⟨c225, c226, c227, er228⟩ | ⟨c229, c230, c231, c232, er233⟩
    · skip
      subst er221
      refine lv_aload_n hx hb dL_law_2152 rfl (lv_at hl 2 rfl) ?_
      refine lv_aload_n hx hb dL_law_2153 rfl (lv_at hl 0 rfl) ?_
      refine lv_iload hx hb dL_law_2154 (lv_at hl 4 rfl) ?_
      refine lv_iconst (v := 1) hx hb dL_law_2156 (by decide) ?_
      refine lv_iadd hx hb dL_law_2157  ?_
      refine lv_topi (fun x234 ex234 => ?_)
      obtain rfl : x234 = 1 := ex234.trans (by decide)
      refine va_sld hx hb hX hbl hbA hS (show vp_in 1 6 from by unfold vp_in; decide) dL_law_2158 ?_
      refine lv_topi (fun x235 ex235 => ?_)
      obtain rfl : w1 = x235 := hw1.trans ex235.symm
      refine lv_aload_n hx hb dL_law_2159 rfl (lv_at hl 0 rfl) ?_
      refine lv_iload hx hb dL_law_2160 (lv_at hl 4 rfl) ?_
      refine lv_iconst (v := 2) hx hb dL_law_2162 (by decide) ?_
      refine lv_iadd hx hb dL_law_2163  ?_
      refine lv_topi (fun x236 ex236 => ?_)
      obtain rfl : x236 = 2 := ex236.trans (by decide)
      refine va_sld hx hb hX hbl hbA hS (show vp_in 2 6 from by unfold vp_in; decide) dL_law_2164 ?_
      refine lv_topi (fun x237 ex237 => ?_)
      obtain rfl : w2 = x237 := hw2.trans ex237.symm
      refine lv_aload_n hx hb dL_law_2165 rfl (lv_at hl 0 rfl) ?_
      refine lv_iload hx hb dL_law_2166 (lv_at hl 4 rfl) ?_
      refine lv_iconst (v := 3) hx hb dL_law_2168 (by decide) ?_
      refine lv_iadd hx hb dL_law_2169  ?_
      refine lv_topi (fun x238 ex238 => ?_)
      obtain rfl : x238 = 3 := ex238.trans (by decide)
      refine va_sld hx hb hX hbl hbA hS (show vp_in 3 6 from by unfold vp_in; decide) dL_law_2170 ?_
      refine lv_topi (fun x239 ex239 => ?_)
      obtain rfl : w3 = x239 := hw3.trans ex239.symm
      refine lv_if_eq (tgt := 2178) hx hb dL_law_2171 (by decide) (fun c240 => ?_) (fun c240 => ?_)
      · skip
        refine lv_iconst (v := 0) hx hb dL_law_2178 (by decide) ?_
        have hPc := hP.sub (ws' := [(aZ, .inr (15, fsZ)), (q_things, .inl (k_things, 5, .inl f_things))]) [0, 1] rfl
        have hDc := hD.sub (ws' := [(aZ, .inr (15, fsZ)), (q_things, .inl (k_things, 5, .inl f_things))]) [0, 1] (by decide) rfl
        have hKc := hK.sub (tys' := [(k_things, .int)]) [0] rfl
        have hFc := va_free (wc := [(aZ, .inr (15, fsZ)), (q_things, .inl (k_things, 5, .inl f_things))]) hD hS hA [0, 1] rfl
        refine va_calli (va_runV (As := [.int w1, .int w2, .int 0]) (rest := [.int 0]) ⟨hx, hb, hml, hown, hts⟩ (z_X12_choose l dC dI H.size aZ fsZ q_things f_things k_things w1 w2 (fh_sub o_fsZ.2 [0] rfl) hz_f_things) (cwV 3 hts g_lk_32_z_X12_choose_253 rfl rfl rfl (by decide +kernel) ⟨Nat.le_of_ble_eq_true rfl, Nat.le_of_ble_eq_true rfl⟩) ⟨fun a U g mk q => by obtain ⟨q0, q1, qP, qK, qD⟩ := q; exact ⟨q0, q1, qP, va_K.moved (u := U) (U := U.calling g mk a) (Vm.Alike.refl U.vm) qK, qD⟩, va_recv hK hP (ci := 15) (q0 := 0) rfl rfl, fun U hU hW => ⟨rfl, by rw [hU], by rw [hU]; exact hPc, va_K.moved hW.alike hKc, hDc.weaken (fun _ _ _ _ => trivial)⟩⟩ rfl rfl hl.1 rfl (lv_room (Nat.le_of_ble_eq_true rfl)) dL_law_2179 ⟨Nat.le_of_ble_eq_true rfl, Nat.le_of_ble_eq_true rfl⟩) hS (fun q _ h => hFc q h) hFc (fun r241 u t H1 locs ht hvm hw hB hz1 hk1 hS => ?_)
        obtain ⟨s242, rfl⟩ : ∃ z, z = u := ⟨_, rfl⟩
        obtain ⟨hP1, hK1, hD1⟩ := hB
        rw [ht] at hP1
        try dsimp only at hw
        obtain ⟨hP, hD⟩ := va_join (wr := [(aX, .inr (14, fsX)), (qP, .inl (kP, 4, .inr (.inr (.inr (.inr gP))))), (ap, .inr (8, fsp))]) (w1 := [(aZ, .inr (15, s242)), (q_things, .inl (k_things, 5, .inl f_things))]) hP hD [0, 1] [2, 3, 4] rfl rfl (by decide) (by decide) hk1 hFc hP1 hD1
        have hK := hK.sub (tys' := [(kP, .object "HeapWorks$Picture"), (k_things, .int)]) [1, 0] rfl
        generalize H1 = H at hP hS ⊢
        have hP : va_P (dC, dI) vwCl [(aX, .inr (14, fsX)), (qP, .inl (kP, 4, .inr (.inr (.inr (.inr gP))))), (ap, .inr (8, fsp)), (aZ, .inr (15, s242)), (q_things, .inl (k_things, 5, .inl f_things))] H := hP
        have hD : va_D A [(aX, .inr (14, fsX)), (qP, .inl (kP, 4, .inr (.inr (.inr (.inr gP))))), (ap, .inr (8, fsp)), (aZ, .inr (15, s242)), (q_things, .inl (k_things, 5, .inl f_things))] := hD
        rcases hw with ⟨c243, er244, o_s242⟩ | ⟨c245, c246, er247, o_s242⟩ | ⟨c248, c249, c250, er251, o_s242⟩ | ⟨c252, c253, c254, c255, er256, o_s242⟩
        · skip
          subst er244
          have o_s242 := ow_on o_fsZ o_s242 (l' := [(0, .int 0), (48, .ref q_things), (48, .ref q_things)]) (w' := [0]) rfl rfl
          refine lv_icmp_eq (tgt := 3111) hx hb dL_law_2182 (by decide) (fun c257 => ?_) (fun c257 => absurd c257 (by decide))
          exact lw_end hst C0 hA hAf hZ hY (Nat.le_of_ble_eq_true rfl) (Nat.le_of_ble_eq_true rfl) dC dI P0k P0 D0 hS ls (lv_sub hl [0, 4] rfl)
        · exact (by exfalso; (try simp only [i_lt, i_le, i_eq, kc_0, kc_4] at c220 c245 c246); omega)
        · exact (by exfalso; (try simp only [i_lt, i_le, i_eq, kc_0, kc_4] at c220 c248 c249); omega)
        · exact (by exfalso; (try simp only [i_lt, i_le, i_eq, kc_0, kc_4] at c220 c252 c253); omega)
      · skip
        refine lv_iconst (v := 1) hx hb dL_law_2174 (by decide) ?_
        refine lv_goto (tgt := 2179) hx hb dL_law_2175 (by decide) ?_
        have hPc := hP.sub (ws' := [(aZ, .inr (15, fsZ)), (q_things, .inl (k_things, 5, .inl f_things))]) [0, 1] rfl
        have hDc := hD.sub (ws' := [(aZ, .inr (15, fsZ)), (q_things, .inl (k_things, 5, .inl f_things))]) [0, 1] (by decide) rfl
        have hKc := hK.sub (tys' := [(k_things, .int)]) [0] rfl
        have hFc := va_free (wc := [(aZ, .inr (15, fsZ)), (q_things, .inl (k_things, 5, .inl f_things))]) hD hS hA [0, 1] rfl
        refine va_calli (va_runV (As := [.int w1, .int w2, .int 1]) (rest := [.int 0]) ⟨hx, hb, hml, hown, hts⟩ (z_X12_choose_1 l dC dI H.size aZ fsZ q_things f_things k_things w1 w2 (fh_sub o_fsZ.2 [0] rfl) hz_f_things) (cwV 3 hts g_lk_32_z_X12_choose_1_253 rfl rfl rfl (by decide +kernel) ⟨Nat.le_of_ble_eq_true rfl, Nat.le_of_ble_eq_true rfl⟩) ⟨fun a U g mk q => by obtain ⟨q0, q1, qP, qK, qD⟩ := q; exact ⟨q0, q1, qP, va_K.moved (u := U) (U := U.calling g mk a) (Vm.Alike.refl U.vm) qK, qD⟩, va_recv hK hP (ci := 15) (q0 := 0) rfl rfl, fun U hU hW => ⟨rfl, by rw [hU], by rw [hU]; exact hPc, va_K.moved hW.alike hKc, hDc.weaken (fun _ _ _ _ => trivial)⟩⟩ rfl rfl hl.1 rfl (lv_room (Nat.le_of_ble_eq_true rfl)) dL_law_2179 ⟨Nat.le_of_ble_eq_true rfl, Nat.le_of_ble_eq_true rfl⟩) hS (fun q _ h => hFc q h) hFc (fun r258 u t H1 locs ht hvm hw hB hz1 hk1 hS => ?_)
        obtain ⟨s259, rfl⟩ : ∃ z, z = u := ⟨_, rfl⟩
        obtain ⟨hP1, hK1, hD1⟩ := hB
        rw [ht] at hP1
        try dsimp only at hw
        obtain ⟨hP, hD⟩ := va_join (wr := [(aX, .inr (14, fsX)), (qP, .inl (kP, 4, .inr (.inr (.inr (.inr gP))))), (ap, .inr (8, fsp))]) (w1 := [(aZ, .inr (15, s259)), (q_things, .inl (k_things, 5, .inl f_things))]) hP hD [0, 1] [2, 3, 4] rfl rfl (by decide) (by decide) hk1 hFc hP1 hD1
        have hK := hK.sub (tys' := [(kP, .object "HeapWorks$Picture"), (k_things, .int)]) [1, 0] rfl
        generalize H1 = H at hP hS ⊢
        have hP : va_P (dC, dI) vwCl [(aX, .inr (14, fsX)), (qP, .inl (kP, 4, .inr (.inr (.inr (.inr gP))))), (ap, .inr (8, fsp)), (aZ, .inr (15, s259)), (q_things, .inl (k_things, 5, .inl f_things))] H := hP
        have hD : va_D A [(aX, .inr (14, fsX)), (qP, .inl (kP, 4, .inr (.inr (.inr (.inr gP))))), (ap, .inr (8, fsp)), (aZ, .inr (15, s259)), (q_things, .inl (k_things, 5, .inl f_things))] := hD
        rcases hw with ⟨c260, er261, o_s259⟩ | ⟨c262, c263, er264, o_s259⟩ | ⟨c265, c266, c267, er268, o_s259⟩ | ⟨c269, c270, c271, c272, er273, o_s259⟩
        · skip
          subst er261
          have o_s259 := ow_on o_fsZ o_s259 (l' := [(0, .int 0), (48, .ref q_things), (48, .ref q_things)]) (w' := [0]) rfl rfl
          refine lv_icmp_eq (tgt := 3111) hx hb dL_law_2182 (by decide) (fun c274 => ?_) (fun c274 => absurd c274 (by decide))
          exact lw_end hst C0 hA hAf hZ hY (Nat.le_of_ble_eq_true rfl) (Nat.le_of_ble_eq_true rfl) dC dI P0k P0 D0 hS ls (lv_sub hl [0, 4] rfl)
        · exact (by exfalso; (try simp only [i_lt, i_le, i_eq, kc_0, kc_4] at c220 c262 c263); omega)
        · exact (by exfalso; (try simp only [i_lt, i_le, i_eq, kc_0, kc_4] at c220 c265 c266); omega)
        · exact (by exfalso; (try simp only [i_lt, i_le, i_eq, kc_0, kc_4] at c220 c269 c270); omega)
    · skip
      subst er224
      refine lv_aload_n hx hb dL_law_2152 rfl (lv_at hl 2 rfl) ?_
      refine lv_aload_n hx hb dL_law_2153 rfl (lv_at hl 0 rfl) ?_
      refine lv_iload hx hb dL_law_2154 (lv_at hl 4 rfl) ?_
      refine lv_iconst (v := 1) hx hb dL_law_2156 (by decide) ?_
      refine lv_iadd hx hb dL_law_2157  ?_
      refine lv_topi (fun x275 ex275 => ?_)
      obtain rfl : x275 = 1 := ex275.trans (by decide)
      refine va_sld hx hb hX hbl hbA hS (show vp_in 1 6 from by unfold vp_in; decide) dL_law_2158 ?_
      refine lv_topi (fun x276 ex276 => ?_)
      obtain rfl : w1 = x276 := hw1.trans ex276.symm
      refine lv_aload_n hx hb dL_law_2159 rfl (lv_at hl 0 rfl) ?_
      refine lv_iload hx hb dL_law_2160 (lv_at hl 4 rfl) ?_
      refine lv_iconst (v := 2) hx hb dL_law_2162 (by decide) ?_
      refine lv_iadd hx hb dL_law_2163  ?_
      refine lv_topi (fun x277 ex277 => ?_)
      obtain rfl : x277 = 2 := ex277.trans (by decide)
      refine va_sld hx hb hX hbl hbA hS (show vp_in 2 6 from by unfold vp_in; decide) dL_law_2164 ?_
      refine lv_topi (fun x278 ex278 => ?_)
      obtain rfl : w2 = x278 := hw2.trans ex278.symm
      refine lv_aload_n hx hb dL_law_2165 rfl (lv_at hl 0 rfl) ?_
      refine lv_iload hx hb dL_law_2166 (lv_at hl 4 rfl) ?_
      refine lv_iconst (v := 3) hx hb dL_law_2168 (by decide) ?_
      refine lv_iadd hx hb dL_law_2169  ?_
      refine lv_topi (fun x279 ex279 => ?_)
      obtain rfl : x279 = 3 := ex279.trans (by decide)
      refine va_sld hx hb hX hbl hbA hS (show vp_in 3 6 from by unfold vp_in; decide) dL_law_2170 ?_
      refine lv_topi (fun x280 ex280 => ?_)
      obtain rfl : w3 = x280 := hw3.trans ex280.symm
      refine lv_if_eq (tgt := 2178) hx hb dL_law_2171 (by decide) (fun c281 => ?_) (fun c281 => ?_)
      · skip
        refine lv_iconst (v := 0) hx hb dL_law_2178 (by decide) ?_
        have hPc := hP.sub (ws' := [(aZ, .inr (15, fsZ)), (q_things, .inl (k_things, 5, .inl f_things))]) [0, 1] rfl
        have hDc := hD.sub (ws' := [(aZ, .inr (15, fsZ)), (q_things, .inl (k_things, 5, .inl f_things))]) [0, 1] (by decide) rfl
        have hKc := hK.sub (tys' := [(k_things, .int)]) [0] rfl
        have hFc := va_free (wc := [(aZ, .inr (15, fsZ)), (q_things, .inl (k_things, 5, .inl f_things))]) hD hS hA [0, 1] rfl
        refine va_calli (va_runV (As := [.int w1, .int w2, .int 0]) (rest := [.int 0]) ⟨hx, hb, hml, hown, hts⟩ (z_X12_choose l dC dI H.size aZ fsZ q_things f_things k_things w1 w2 (fh_sub o_fsZ.2 [0] rfl) hz_f_things) (cwV 3 hts g_lk_32_z_X12_choose_253 rfl rfl rfl (by decide +kernel) ⟨Nat.le_of_ble_eq_true rfl, Nat.le_of_ble_eq_true rfl⟩) ⟨fun a U g mk q => by obtain ⟨q0, q1, qP, qK, qD⟩ := q; exact ⟨q0, q1, qP, va_K.moved (u := U) (U := U.calling g mk a) (Vm.Alike.refl U.vm) qK, qD⟩, va_recv hK hP (ci := 15) (q0 := 0) rfl rfl, fun U hU hW => ⟨rfl, by rw [hU], by rw [hU]; exact hPc, va_K.moved hW.alike hKc, hDc.weaken (fun _ _ _ _ => trivial)⟩⟩ rfl rfl hl.1 rfl (lv_room (Nat.le_of_ble_eq_true rfl)) dL_law_2179 ⟨Nat.le_of_ble_eq_true rfl, Nat.le_of_ble_eq_true rfl⟩) hS (fun q _ h => hFc q h) hFc (fun r282 u t H1 locs ht hvm hw hB hz1 hk1 hS => ?_)
        obtain ⟨s283, rfl⟩ : ∃ z, z = u := ⟨_, rfl⟩
        obtain ⟨hP1, hK1, hD1⟩ := hB
        rw [ht] at hP1
        try dsimp only at hw
        obtain ⟨hP, hD⟩ := va_join (wr := [(aX, .inr (14, fsX)), (qP, .inl (kP, 4, .inr (.inr (.inr (.inr gP))))), (ap, .inr (8, fsp))]) (w1 := [(aZ, .inr (15, s283)), (q_things, .inl (k_things, 5, .inl f_things))]) hP hD [0, 1] [2, 3, 4] rfl rfl (by decide) (by decide) hk1 hFc hP1 hD1
        have hK := hK.sub (tys' := [(kP, .object "HeapWorks$Picture"), (k_things, .int)]) [1, 0] rfl
        generalize H1 = H at hP hS ⊢
        have hP : va_P (dC, dI) vwCl [(aX, .inr (14, fsX)), (qP, .inl (kP, 4, .inr (.inr (.inr (.inr gP))))), (ap, .inr (8, fsp)), (aZ, .inr (15, s283)), (q_things, .inl (k_things, 5, .inl f_things))] H := hP
        have hD : va_D A [(aX, .inr (14, fsX)), (qP, .inl (kP, 4, .inr (.inr (.inr (.inr gP))))), (ap, .inr (8, fsp)), (aZ, .inr (15, s283)), (q_things, .inl (k_things, 5, .inl f_things))] := hD
        rcases hw with ⟨c284, er285, o_s283⟩ | ⟨c286, c287, er288, o_s283⟩ | ⟨c289, c290, c291, er292, o_s283⟩ | ⟨c293, c294, c295, c296, er297, o_s283⟩
        · exact (by exfalso; (try simp only [i_lt, i_le, i_eq, kc_0, kc_4] at c222 c223 c284); omega)
        · skip
          subst er288
          have o_s283 := ow_on o_fsZ o_s283 (l' := [(0, .int 0), (48, .ref q_things), (48, .ref q_things)]) (w' := [0]) rfl rfl
          refine lv_icmp_eq (tgt := 3111) hx hb dL_law_2182 (by decide) (fun c298 => ?_) (fun c298 => absurd c298 (by decide))
          exact lw_end hst C0 hA hAf hZ hY (Nat.le_of_ble_eq_true rfl) (Nat.le_of_ble_eq_true rfl) dC dI P0k P0 D0 hS ls (lv_sub hl [0, 4] rfl)
        · exact (by exfalso; (try simp only [i_lt, i_le, i_eq, kc_0, kc_4] at c222 c223 c289 c290); omega)
        · exact (by exfalso; (try simp only [i_lt, i_le, i_eq, kc_0, kc_4] at c222 c223 c293 c294); omega)
      · skip
        refine lv_iconst (v := 1) hx hb dL_law_2174 (by decide) ?_
        refine lv_goto (tgt := 2179) hx hb dL_law_2175 (by decide) ?_
        have hPc := hP.sub (ws' := [(aZ, .inr (15, fsZ)), (q_things, .inl (k_things, 5, .inl f_things))]) [0, 1] rfl
        have hDc := hD.sub (ws' := [(aZ, .inr (15, fsZ)), (q_things, .inl (k_things, 5, .inl f_things))]) [0, 1] (by decide) rfl
        have hKc := hK.sub (tys' := [(k_things, .int)]) [0] rfl
        have hFc := va_free (wc := [(aZ, .inr (15, fsZ)), (q_things, .inl (k_things, 5, .inl f_things))]) hD hS hA [0, 1] rfl
        refine va_calli (va_runV (As := [.int w1, .int w2, .int 1]) (rest := [.int 0]) ⟨hx, hb, hml, hown, hts⟩ (z_X12_choose_1 l dC dI H.size aZ fsZ q_things f_things k_things w1 w2 (fh_sub o_fsZ.2 [0] rfl) hz_f_things) (cwV 3 hts g_lk_32_z_X12_choose_1_253 rfl rfl rfl (by decide +kernel) ⟨Nat.le_of_ble_eq_true rfl, Nat.le_of_ble_eq_true rfl⟩) ⟨fun a U g mk q => by obtain ⟨q0, q1, qP, qK, qD⟩ := q; exact ⟨q0, q1, qP, va_K.moved (u := U) (U := U.calling g mk a) (Vm.Alike.refl U.vm) qK, qD⟩, va_recv hK hP (ci := 15) (q0 := 0) rfl rfl, fun U hU hW => ⟨rfl, by rw [hU], by rw [hU]; exact hPc, va_K.moved hW.alike hKc, hDc.weaken (fun _ _ _ _ => trivial)⟩⟩ rfl rfl hl.1 rfl (lv_room (Nat.le_of_ble_eq_true rfl)) dL_law_2179 ⟨Nat.le_of_ble_eq_true rfl, Nat.le_of_ble_eq_true rfl⟩) hS (fun q _ h => hFc q h) hFc (fun r299 u t H1 locs ht hvm hw hB hz1 hk1 hS => ?_)
        obtain ⟨s300, rfl⟩ : ∃ z, z = u := ⟨_, rfl⟩
        obtain ⟨hP1, hK1, hD1⟩ := hB
        rw [ht] at hP1
        try dsimp only at hw
        obtain ⟨hP, hD⟩ := va_join (wr := [(aX, .inr (14, fsX)), (qP, .inl (kP, 4, .inr (.inr (.inr (.inr gP))))), (ap, .inr (8, fsp))]) (w1 := [(aZ, .inr (15, s300)), (q_things, .inl (k_things, 5, .inl f_things))]) hP hD [0, 1] [2, 3, 4] rfl rfl (by decide) (by decide) hk1 hFc hP1 hD1
        have hK := hK.sub (tys' := [(kP, .object "HeapWorks$Picture"), (k_things, .int)]) [1, 0] rfl
        generalize H1 = H at hP hS ⊢
        have hP : va_P (dC, dI) vwCl [(aX, .inr (14, fsX)), (qP, .inl (kP, 4, .inr (.inr (.inr (.inr gP))))), (ap, .inr (8, fsp)), (aZ, .inr (15, s300)), (q_things, .inl (k_things, 5, .inl f_things))] H := hP
        have hD : va_D A [(aX, .inr (14, fsX)), (qP, .inl (kP, 4, .inr (.inr (.inr (.inr gP))))), (ap, .inr (8, fsp)), (aZ, .inr (15, s300)), (q_things, .inl (k_things, 5, .inl f_things))] := hD
        rcases hw with ⟨c301, er302, o_s300⟩ | ⟨c303, c304, er305, o_s300⟩ | ⟨c306, c307, c308, er309, o_s300⟩ | ⟨c310, c311, c312, c313, er314, o_s300⟩
        · exact (by exfalso; (try simp only [i_lt, i_le, i_eq, kc_0, kc_4] at c222 c223 c301); omega)
        · skip
          subst er305
          have o_s300 := ow_on o_fsZ o_s300 (l' := [(0, .int 0), (48, .ref q_things), (48, .ref q_things)]) (w' := [0]) rfl rfl
          refine lv_icmp_eq (tgt := 3111) hx hb dL_law_2182 (by decide) (fun c315 => ?_) (fun c315 => absurd c315 (by decide))
          exact lw_end hst C0 hA hAf hZ hY (Nat.le_of_ble_eq_true rfl) (Nat.le_of_ble_eq_true rfl) dC dI P0k P0 D0 hS ls (lv_sub hl [0, 4] rfl)
        · exact (by exfalso; (try simp only [i_lt, i_le, i_eq, kc_0, kc_4] at c222 c223 c306 c307); omega)
        · exact (by exfalso; (try simp only [i_lt, i_le, i_eq, kc_0, kc_4] at c222 c223 c310 c311); omega)
    · skip
      subst er228
      refine lv_aload_n hx hb dL_law_2152 rfl (lv_at hl 2 rfl) ?_
      refine lv_aload_n hx hb dL_law_2153 rfl (lv_at hl 0 rfl) ?_
      refine lv_iload hx hb dL_law_2154 (lv_at hl 4 rfl) ?_
      refine lv_iconst (v := 1) hx hb dL_law_2156 (by decide) ?_
      refine lv_iadd hx hb dL_law_2157  ?_
      refine lv_topi (fun x316 ex316 => ?_)
      obtain rfl : x316 = 1 := ex316.trans (by decide)
      refine va_sld hx hb hX hbl hbA hS (show vp_in 1 6 from by unfold vp_in; decide) dL_law_2158 ?_
      refine lv_topi (fun x317 ex317 => ?_)
      obtain rfl : w1 = x317 := hw1.trans ex317.symm
      refine lv_aload_n hx hb dL_law_2159 rfl (lv_at hl 0 rfl) ?_
      refine lv_iload hx hb dL_law_2160 (lv_at hl 4 rfl) ?_
      refine lv_iconst (v := 2) hx hb dL_law_2162 (by decide) ?_
      refine lv_iadd hx hb dL_law_2163  ?_
      refine lv_topi (fun x318 ex318 => ?_)
      obtain rfl : x318 = 2 := ex318.trans (by decide)
      refine va_sld hx hb hX hbl hbA hS (show vp_in 2 6 from by unfold vp_in; decide) dL_law_2164 ?_
      refine lv_topi (fun x319 ex319 => ?_)
      obtain rfl : w2 = x319 := hw2.trans ex319.symm
      refine lv_aload_n hx hb dL_law_2165 rfl (lv_at hl 0 rfl) ?_
      refine lv_iload hx hb dL_law_2166 (lv_at hl 4 rfl) ?_
      refine lv_iconst (v := 3) hx hb dL_law_2168 (by decide) ?_
      refine lv_iadd hx hb dL_law_2169  ?_
      refine lv_topi (fun x320 ex320 => ?_)
      obtain rfl : x320 = 3 := ex320.trans (by decide)
      refine va_sld hx hb hX hbl hbA hS (show vp_in 3 6 from by unfold vp_in; decide) dL_law_2170 ?_
      refine lv_topi (fun x321 ex321 => ?_)
      obtain rfl : w3 = x321 := hw3.trans ex321.symm
      refine lv_if_eq (tgt := 2178) hx hb dL_law_2171 (by decide) (fun c322 => ?_) (fun c322 => ?_)
      · skip
        refine lv_iconst (v := 0) hx hb dL_law_2178 (by decide) ?_
        have hPc := hP.sub (ws' := [(aZ, .inr (15, fsZ)), (q_things, .inl (k_things, 5, .inl f_things))]) [0, 1] rfl
        have hDc := hD.sub (ws' := [(aZ, .inr (15, fsZ)), (q_things, .inl (k_things, 5, .inl f_things))]) [0, 1] (by decide) rfl
        have hKc := hK.sub (tys' := [(k_things, .int)]) [0] rfl
        have hFc := va_free (wc := [(aZ, .inr (15, fsZ)), (q_things, .inl (k_things, 5, .inl f_things))]) hD hS hA [0, 1] rfl
        refine va_calli (va_runV (As := [.int w1, .int w2, .int 0]) (rest := [.int 0]) ⟨hx, hb, hml, hown, hts⟩ (z_X12_choose l dC dI H.size aZ fsZ q_things f_things k_things w1 w2 (fh_sub o_fsZ.2 [0] rfl) hz_f_things) (cwV 3 hts g_lk_32_z_X12_choose_253 rfl rfl rfl (by decide +kernel) ⟨Nat.le_of_ble_eq_true rfl, Nat.le_of_ble_eq_true rfl⟩) ⟨fun a U g mk q => by obtain ⟨q0, q1, qP, qK, qD⟩ := q; exact ⟨q0, q1, qP, va_K.moved (u := U) (U := U.calling g mk a) (Vm.Alike.refl U.vm) qK, qD⟩, va_recv hK hP (ci := 15) (q0 := 0) rfl rfl, fun U hU hW => ⟨rfl, by rw [hU], by rw [hU]; exact hPc, va_K.moved hW.alike hKc, hDc.weaken (fun _ _ _ _ => trivial)⟩⟩ rfl rfl hl.1 rfl (lv_room (Nat.le_of_ble_eq_true rfl)) dL_law_2179 ⟨Nat.le_of_ble_eq_true rfl, Nat.le_of_ble_eq_true rfl⟩) hS (fun q _ h => hFc q h) hFc (fun r323 u t H1 locs ht hvm hw hB hz1 hk1 hS => ?_)
        obtain ⟨s324, rfl⟩ : ∃ z, z = u := ⟨_, rfl⟩
        obtain ⟨hP1, hK1, hD1⟩ := hB
        rw [ht] at hP1
        try dsimp only at hw
        obtain ⟨hP, hD⟩ := va_join (wr := [(aX, .inr (14, fsX)), (qP, .inl (kP, 4, .inr (.inr (.inr (.inr gP))))), (ap, .inr (8, fsp))]) (w1 := [(aZ, .inr (15, s324)), (q_things, .inl (k_things, 5, .inl f_things))]) hP hD [0, 1] [2, 3, 4] rfl rfl (by decide) (by decide) hk1 hFc hP1 hD1
        have hK := hK.sub (tys' := [(kP, .object "HeapWorks$Picture"), (k_things, .int)]) [1, 0] rfl
        generalize H1 = H at hP hS ⊢
        have hP : va_P (dC, dI) vwCl [(aX, .inr (14, fsX)), (qP, .inl (kP, 4, .inr (.inr (.inr (.inr gP))))), (ap, .inr (8, fsp)), (aZ, .inr (15, s324)), (q_things, .inl (k_things, 5, .inl f_things))] H := hP
        have hD : va_D A [(aX, .inr (14, fsX)), (qP, .inl (kP, 4, .inr (.inr (.inr (.inr gP))))), (ap, .inr (8, fsp)), (aZ, .inr (15, s324)), (q_things, .inl (k_things, 5, .inl f_things))] := hD
        rcases hw with ⟨c325, er326, o_s324⟩ | ⟨c327, c328, er329, o_s324⟩ | ⟨c330, c331, c332, er333, o_s324⟩ | ⟨c334, c335, c336, c337, er338, o_s324⟩
        · exact (by exfalso; (try simp only [i_lt, i_le, i_eq, kc_0, kc_4] at c225 c226 c325); omega)
        · exact (by exfalso; (try simp only [i_lt, i_le, i_eq, kc_0, kc_4] at c225 c226 c327 c328); omega)
        · skip
          subst er333
          have o_s324 := ow_on o_fsZ o_s324 (l' := [(0, .int 0), (48, .ref q_things), (48, .ref q_things)]) (w' := [0]) rfl rfl
          refine lv_icmp_eq (tgt := 3111) hx hb dL_law_2182 (by decide) (fun c339 => ?_) (fun c339 => absurd c339 (by decide))
          exact lw_end hst C0 hA hAf hZ hY (Nat.le_of_ble_eq_true rfl) (Nat.le_of_ble_eq_true rfl) dC dI P0k P0 D0 hS ls (lv_sub hl [0, 4] rfl)
        · exact (by exfalso; (try simp only [i_lt, i_le, i_eq, kc_0] at c227 c336 c337); omega)
      · skip
        refine lv_iconst (v := 1) hx hb dL_law_2174 (by decide) ?_
        refine lv_goto (tgt := 2179) hx hb dL_law_2175 (by decide) ?_
        have hPc := hP.sub (ws' := [(aZ, .inr (15, fsZ)), (q_things, .inl (k_things, 5, .inl f_things))]) [0, 1] rfl
        have hDc := hD.sub (ws' := [(aZ, .inr (15, fsZ)), (q_things, .inl (k_things, 5, .inl f_things))]) [0, 1] (by decide) rfl
        have hKc := hK.sub (tys' := [(k_things, .int)]) [0] rfl
        have hFc := va_free (wc := [(aZ, .inr (15, fsZ)), (q_things, .inl (k_things, 5, .inl f_things))]) hD hS hA [0, 1] rfl
        refine va_calli (va_runV (As := [.int w1, .int w2, .int 1]) (rest := [.int 0]) ⟨hx, hb, hml, hown, hts⟩ (z_X12_choose_1 l dC dI H.size aZ fsZ q_things f_things k_things w1 w2 (fh_sub o_fsZ.2 [0] rfl) hz_f_things) (cwV 3 hts g_lk_32_z_X12_choose_1_253 rfl rfl rfl (by decide +kernel) ⟨Nat.le_of_ble_eq_true rfl, Nat.le_of_ble_eq_true rfl⟩) ⟨fun a U g mk q => by obtain ⟨q0, q1, qP, qK, qD⟩ := q; exact ⟨q0, q1, qP, va_K.moved (u := U) (U := U.calling g mk a) (Vm.Alike.refl U.vm) qK, qD⟩, va_recv hK hP (ci := 15) (q0 := 0) rfl rfl, fun U hU hW => ⟨rfl, by rw [hU], by rw [hU]; exact hPc, va_K.moved hW.alike hKc, hDc.weaken (fun _ _ _ _ => trivial)⟩⟩ rfl rfl hl.1 rfl (lv_room (Nat.le_of_ble_eq_true rfl)) dL_law_2179 ⟨Nat.le_of_ble_eq_true rfl, Nat.le_of_ble_eq_true rfl⟩) hS (fun q _ h => hFc q h) hFc (fun r340 u t H1 locs ht hvm hw hB hz1 hk1 hS => ?_)
        obtain ⟨s341, rfl⟩ : ∃ z, z = u := ⟨_, rfl⟩
        obtain ⟨hP1, hK1, hD1⟩ := hB
        rw [ht] at hP1
        try dsimp only at hw
        obtain ⟨hP, hD⟩ := va_join (wr := [(aX, .inr (14, fsX)), (qP, .inl (kP, 4, .inr (.inr (.inr (.inr gP))))), (ap, .inr (8, fsp))]) (w1 := [(aZ, .inr (15, s341)), (q_things, .inl (k_things, 5, .inl f_things))]) hP hD [0, 1] [2, 3, 4] rfl rfl (by decide) (by decide) hk1 hFc hP1 hD1
        have hK := hK.sub (tys' := [(kP, .object "HeapWorks$Picture"), (k_things, .int)]) [1, 0] rfl
        generalize H1 = H at hP hS ⊢
        have hP : va_P (dC, dI) vwCl [(aX, .inr (14, fsX)), (qP, .inl (kP, 4, .inr (.inr (.inr (.inr gP))))), (ap, .inr (8, fsp)), (aZ, .inr (15, s341)), (q_things, .inl (k_things, 5, .inl f_things))] H := hP
        have hD : va_D A [(aX, .inr (14, fsX)), (qP, .inl (kP, 4, .inr (.inr (.inr (.inr gP))))), (ap, .inr (8, fsp)), (aZ, .inr (15, s341)), (q_things, .inl (k_things, 5, .inl f_things))] := hD
        rcases hw with ⟨c342, er343, o_s341⟩ | ⟨c344, c345, er346, o_s341⟩ | ⟨c347, c348, c349, er350, o_s341⟩ | ⟨c351, c352, c353, c354, er355, o_s341⟩
        · exact (by exfalso; (try simp only [i_lt, i_le, i_eq, kc_0, kc_4] at c225 c226 c342); omega)
        · exact (by exfalso; (try simp only [i_lt, i_le, i_eq, kc_0, kc_4] at c225 c226 c344 c345); omega)
        · skip
          subst er350
          have o_s341 := ow_on o_fsZ o_s341 (l' := [(0, .int 0), (48, .ref q_things), (48, .ref q_things)]) (w' := [0]) rfl rfl
          refine lv_icmp_eq (tgt := 3111) hx hb dL_law_2182 (by decide) (fun c356 => ?_) (fun c356 => absurd c356 (by decide))
          exact lw_end hst C0 hA hAf hZ hY (Nat.le_of_ble_eq_true rfl) (Nat.le_of_ble_eq_true rfl) dC dI P0k P0 D0 hS ls (lv_sub hl [0, 4] rfl)
        · exact (by exfalso; (try simp only [i_lt, i_le, i_eq, kc_0] at c227 c353 c354); omega)
    · skip
      subst er233
      refine lv_aload_n hx hb dL_law_2152 rfl (lv_at hl 2 rfl) ?_
      refine lv_aload_n hx hb dL_law_2153 rfl (lv_at hl 0 rfl) ?_
      refine lv_iload hx hb dL_law_2154 (lv_at hl 4 rfl) ?_
      refine lv_iconst (v := 1) hx hb dL_law_2156 (by decide) ?_
      refine lv_iadd hx hb dL_law_2157  ?_
      refine lv_topi (fun x357 ex357 => ?_)
      obtain rfl : x357 = 1 := ex357.trans (by decide)
      refine va_sld hx hb hX hbl hbA hS (show vp_in 1 6 from by unfold vp_in; decide) dL_law_2158 ?_
      refine lv_topi (fun x358 ex358 => ?_)
      obtain rfl : w1 = x358 := hw1.trans ex358.symm
      refine lv_aload_n hx hb dL_law_2159 rfl (lv_at hl 0 rfl) ?_
      refine lv_iload hx hb dL_law_2160 (lv_at hl 4 rfl) ?_
      refine lv_iconst (v := 2) hx hb dL_law_2162 (by decide) ?_
      refine lv_iadd hx hb dL_law_2163  ?_
      refine lv_topi (fun x359 ex359 => ?_)
      obtain rfl : x359 = 2 := ex359.trans (by decide)
      refine va_sld hx hb hX hbl hbA hS (show vp_in 2 6 from by unfold vp_in; decide) dL_law_2164 ?_
      refine lv_topi (fun x360 ex360 => ?_)
      obtain rfl : w2 = x360 := hw2.trans ex360.symm
      refine lv_aload_n hx hb dL_law_2165 rfl (lv_at hl 0 rfl) ?_
      refine lv_iload hx hb dL_law_2166 (lv_at hl 4 rfl) ?_
      refine lv_iconst (v := 3) hx hb dL_law_2168 (by decide) ?_
      refine lv_iadd hx hb dL_law_2169  ?_
      refine lv_topi (fun x361 ex361 => ?_)
      obtain rfl : x361 = 3 := ex361.trans (by decide)
      refine va_sld hx hb hX hbl hbA hS (show vp_in 3 6 from by unfold vp_in; decide) dL_law_2170 ?_
      refine lv_topi (fun x362 ex362 => ?_)
      obtain rfl : w3 = x362 := hw3.trans ex362.symm
      refine lv_if_eq (tgt := 2178) hx hb dL_law_2171 (by decide) (fun c363 => ?_) (fun c363 => ?_)
      · skip
        refine lv_iconst (v := 0) hx hb dL_law_2178 (by decide) ?_
        have hPc := hP.sub (ws' := [(aZ, .inr (15, fsZ)), (q_things, .inl (k_things, 5, .inl f_things))]) [0, 1] rfl
        have hDc := hD.sub (ws' := [(aZ, .inr (15, fsZ)), (q_things, .inl (k_things, 5, .inl f_things))]) [0, 1] (by decide) rfl
        have hKc := hK.sub (tys' := [(k_things, .int)]) [0] rfl
        have hFc := va_free (wc := [(aZ, .inr (15, fsZ)), (q_things, .inl (k_things, 5, .inl f_things))]) hD hS hA [0, 1] rfl
        refine va_calli (va_runV (As := [.int w1, .int w2, .int 0]) (rest := [.int 0]) ⟨hx, hb, hml, hown, hts⟩ (z_X12_choose l dC dI H.size aZ fsZ q_things f_things k_things w1 w2 (fh_sub o_fsZ.2 [0] rfl) hz_f_things) (cwV 3 hts g_lk_32_z_X12_choose_253 rfl rfl rfl (by decide +kernel) ⟨Nat.le_of_ble_eq_true rfl, Nat.le_of_ble_eq_true rfl⟩) ⟨fun a U g mk q => by obtain ⟨q0, q1, qP, qK, qD⟩ := q; exact ⟨q0, q1, qP, va_K.moved (u := U) (U := U.calling g mk a) (Vm.Alike.refl U.vm) qK, qD⟩, va_recv hK hP (ci := 15) (q0 := 0) rfl rfl, fun U hU hW => ⟨rfl, by rw [hU], by rw [hU]; exact hPc, va_K.moved hW.alike hKc, hDc.weaken (fun _ _ _ _ => trivial)⟩⟩ rfl rfl hl.1 rfl (lv_room (Nat.le_of_ble_eq_true rfl)) dL_law_2179 ⟨Nat.le_of_ble_eq_true rfl, Nat.le_of_ble_eq_true rfl⟩) hS (fun q _ h => hFc q h) hFc (fun r364 u t H1 locs ht hvm hw hB hz1 hk1 hS => ?_)
        obtain ⟨s365, rfl⟩ : ∃ z, z = u := ⟨_, rfl⟩
        obtain ⟨hP1, hK1, hD1⟩ := hB
        rw [ht] at hP1
        try dsimp only at hw
        obtain ⟨hP, hD⟩ := va_join (wr := [(aX, .inr (14, fsX)), (qP, .inl (kP, 4, .inr (.inr (.inr (.inr gP))))), (ap, .inr (8, fsp))]) (w1 := [(aZ, .inr (15, s365)), (q_things, .inl (k_things, 5, .inl f_things))]) hP hD [0, 1] [2, 3, 4] rfl rfl (by decide) (by decide) hk1 hFc hP1 hD1
        have hK := hK.sub (tys' := [(kP, .object "HeapWorks$Picture"), (k_things, .int)]) [1, 0] rfl
        generalize H1 = H at hP hS ⊢
        have hP : va_P (dC, dI) vwCl [(aX, .inr (14, fsX)), (qP, .inl (kP, 4, .inr (.inr (.inr (.inr gP))))), (ap, .inr (8, fsp)), (aZ, .inr (15, s365)), (q_things, .inl (k_things, 5, .inl f_things))] H := hP
        have hD : va_D A [(aX, .inr (14, fsX)), (qP, .inl (kP, 4, .inr (.inr (.inr (.inr gP))))), (ap, .inr (8, fsp)), (aZ, .inr (15, s365)), (q_things, .inl (k_things, 5, .inl f_things))] := hD
        rcases hw with ⟨c366, er367, o_s365⟩ | ⟨c368, c369, er370, o_s365⟩ | ⟨c371, c372, c373, er374, o_s365⟩ | ⟨c375, c376, c377, c378, er379, o_s365⟩
        · exact (by exfalso; (try simp only [i_lt, i_le, i_eq, kc_0, kc_4] at c229 c230 c366); omega)
        · exact (by exfalso; (try simp only [i_lt, i_le, i_eq, kc_0, kc_4] at c229 c230 c368 c369); omega)
        · exact (by exfalso; (try simp only [i_lt, i_le, i_eq, kc_0] at c231 c232 c373); omega)
        · skip
          subst er379
          have o_s365 := ow_on o_fsZ o_s365 (l' := [(0, .int 0), (48, .ref q_things), (48, .ref q_things)]) (w' := [0]) rfl rfl
          refine lv_icmp_eq (tgt := 3111) hx hb dL_law_2182 (by decide) (fun c380 => ?_) (fun c380 => absurd c380 (by decide))
          exact lw_end hst C0 hA hAf hZ hY (Nat.le_of_ble_eq_true rfl) (Nat.le_of_ble_eq_true rfl) dC dI P0k P0 D0 hS ls (lv_sub hl [0, 4] rfl)
      · skip
        refine lv_iconst (v := 1) hx hb dL_law_2174 (by decide) ?_
        refine lv_goto (tgt := 2179) hx hb dL_law_2175 (by decide) ?_
        have hPc := hP.sub (ws' := [(aZ, .inr (15, fsZ)), (q_things, .inl (k_things, 5, .inl f_things))]) [0, 1] rfl
        have hDc := hD.sub (ws' := [(aZ, .inr (15, fsZ)), (q_things, .inl (k_things, 5, .inl f_things))]) [0, 1] (by decide) rfl
        have hKc := hK.sub (tys' := [(k_things, .int)]) [0] rfl
        have hFc := va_free (wc := [(aZ, .inr (15, fsZ)), (q_things, .inl (k_things, 5, .inl f_things))]) hD hS hA [0, 1] rfl
        refine va_calli (va_runV (As := [.int w1, .int w2, .int 1]) (rest := [.int 0]) ⟨hx, hb, hml, hown, hts⟩ (z_X12_choose_1 l dC dI H.size aZ fsZ q_things f_things k_things w1 w2 (fh_sub o_fsZ.2 [0] rfl) hz_f_things) (cwV 3 hts g_lk_32_z_X12_choose_1_253 rfl rfl rfl (by decide +kernel) ⟨Nat.le_of_ble_eq_true rfl, Nat.le_of_ble_eq_true rfl⟩) ⟨fun a U g mk q => by obtain ⟨q0, q1, qP, qK, qD⟩ := q; exact ⟨q0, q1, qP, va_K.moved (u := U) (U := U.calling g mk a) (Vm.Alike.refl U.vm) qK, qD⟩, va_recv hK hP (ci := 15) (q0 := 0) rfl rfl, fun U hU hW => ⟨rfl, by rw [hU], by rw [hU]; exact hPc, va_K.moved hW.alike hKc, hDc.weaken (fun _ _ _ _ => trivial)⟩⟩ rfl rfl hl.1 rfl (lv_room (Nat.le_of_ble_eq_true rfl)) dL_law_2179 ⟨Nat.le_of_ble_eq_true rfl, Nat.le_of_ble_eq_true rfl⟩) hS (fun q _ h => hFc q h) hFc (fun r381 u t H1 locs ht hvm hw hB hz1 hk1 hS => ?_)
        obtain ⟨s382, rfl⟩ : ∃ z, z = u := ⟨_, rfl⟩
        obtain ⟨hP1, hK1, hD1⟩ := hB
        rw [ht] at hP1
        try dsimp only at hw
        obtain ⟨hP, hD⟩ := va_join (wr := [(aX, .inr (14, fsX)), (qP, .inl (kP, 4, .inr (.inr (.inr (.inr gP))))), (ap, .inr (8, fsp))]) (w1 := [(aZ, .inr (15, s382)), (q_things, .inl (k_things, 5, .inl f_things))]) hP hD [0, 1] [2, 3, 4] rfl rfl (by decide) (by decide) hk1 hFc hP1 hD1
        have hK := hK.sub (tys' := [(kP, .object "HeapWorks$Picture"), (k_things, .int)]) [1, 0] rfl
        generalize H1 = H at hP hS ⊢
        have hP : va_P (dC, dI) vwCl [(aX, .inr (14, fsX)), (qP, .inl (kP, 4, .inr (.inr (.inr (.inr gP))))), (ap, .inr (8, fsp)), (aZ, .inr (15, s382)), (q_things, .inl (k_things, 5, .inl f_things))] H := hP
        have hD : va_D A [(aX, .inr (14, fsX)), (qP, .inl (kP, 4, .inr (.inr (.inr (.inr gP))))), (ap, .inr (8, fsp)), (aZ, .inr (15, s382)), (q_things, .inl (k_things, 5, .inl f_things))] := hD
        rcases hw with ⟨c383, er384, o_s382⟩ | ⟨c385, c386, er387, o_s382⟩ | ⟨c388, c389, c390, er391, o_s382⟩ | ⟨c392, c393, c394, c395, er396, o_s382⟩
        · exact (by exfalso; (try simp only [i_lt, i_le, i_eq, kc_0, kc_4] at c229 c230 c383); omega)
        · exact (by exfalso; (try simp only [i_lt, i_le, i_eq, kc_0, kc_4] at c229 c230 c385 c386); omega)
        · exact (by exfalso; (try simp only [i_lt, i_le, i_eq, kc_0] at c231 c232 c390); omega)
        · skip
          subst er396
          have o_s382 := ow_on o_fsZ o_s382 (l' := [(0, .int 0), (48, .ref q_things), (48, .ref q_things)]) (w' := [0]) rfl rfl
          refine lv_icmp_eq (tgt := 3111) hx hb dL_law_2182 (by decide) (fun c397 => ?_) (fun c397 => absurd c397 (by decide))
          exact lw_end hst C0 hA hAf hZ hY (Nat.le_of_ble_eq_true rfl) (Nat.le_of_ble_eq_true rfl) dC dI P0k P0 D0 hS ls (lv_sub hl [0, 4] rfl)

set_option maxRecDepth 20000 in
theorem g_lk_33_z_L_lost_254 : GoodIn lwW (va_wsS RL 254 yL_lost w_z_L_lost) := goodIn_app (goodIn_sub (ws := ([.methodLink RL 254 yL_lost, .static yL_lost, .initialized RL] : List Cond)) (gm_c (gm_at lwV_69_in 8 rfl) (gm_c (gm_at lwV_69_in 9 rfl) (gm_c (gm_at lwV_5_in 10 rfl) gm_nil))) (by decide +kernel)) (goodIn_ca (goodIn_sub (ws := .codeWith yL_lost cL_lost 4 (some .int) [(0, 9, 12, 13)] :: l_z_L_lost) (gm_c (gm_at lwV_70_in 1 rfl) (gm_c (gm_at lwV_70_in 2 rfl) (gm_c (gm_at lwV_70_in 3 rfl) (gm_c (gm_at lwV_70_in 4 rfl) (gm_c (gm_at lwV_0_in 3 rfl) (gm_c (gm_at lwV_6_in 9 rfl) (gm_c (gm_at lwV_70_in 5 rfl) (gm_c (gm_at lwV_54_in 10 rfl) (gm_c (gm_at lwV_54_in 11 rfl) (gm_c (gm_at lwV_55_in 0 rfl) (gm_c (gm_at lwV_70_in 6 rfl) (gm_c (gm_at lwV_70_in 7 rfl) (gm_c (gm_at lwV_70_in 8 rfl) (gm_c (gm_at lwV_55_in 4 rfl) (gm_c (gm_at lwV_55_in 6 rfl) (gm_c (gm_at lwV_55_in 7 rfl) (gm_c (gm_at lwV_55_in 8 rfl) (gm_c (gm_at lwV_7_in 0 rfl) (gm_c (gm_at lwV_7_in 1 rfl) (gm_c (gm_at lwV_55_in 9 rfl) (gm_c (gm_at lwV_70_in 9 rfl) (gm_c (gm_at lwV_70_in 10 rfl) (gm_c (gm_at lwV_56_in 5 rfl) (gm_c (gm_at lwV_70_in 11 rfl) (gm_c (gm_at lwV_28_in 9 rfl) (gm_c (gm_at lwV_3_in 2 rfl) (gm_c (gm_at lwV_56_in 7 rfl) (gm_c (gm_at lwV_56_in 8 rfl) (gm_c (gm_at lwV_28_in 10 rfl) (gm_c (gm_at lwV_28_in 11 rfl) (gm_c (gm_at lwV_29_in 0 rfl) (gm_c (gm_at lwV_29_in 1 rfl) gm_nil)))))))))))))))))))))))))))))))) (by decide +kernel)) (goodIn_app (goodIn_in il_X11 gd_X11) (goodIn_app (goodIn_in il_at0_X11_122 gd_at0_X11_122) (goodIn_in il_X5 gd_X5))))
set_option maxRecDepth 20000 in
theorem g_lk_33_z_X12_lost_256 : GoodIn lwW (wsV RL 256 RX12 yX12_lost w_z_X12_lost) := goodIn_app (goodIn_sub (ws := ([.methodLink RL 256 yX12_lost, .instanceMethod yX12_lost, .selects RX12 yX12_lost yX12_lost, .initialized RX12] : List Cond)) (gm_c (gm_at lwV_69_in 10 rfl) (gm_c (gm_at lwV_69_in 11 rfl) (gm_c (gm_at lwV_70_in 0 rfl) (gm_c (gm_at lwV_0_in 7 rfl) gm_nil)))) (by decide +kernel)) (goodIn_ca (goodIn_sub (ws := .code yX12_lost cX12_lost 3 (some .int) :: l_z_X12_lost) (gm_c (gm_at lwV_71_in 0 rfl) (gm_c (gm_at lwV_57_in 0 rfl) (gm_c (gm_at lwV_57_in 1 rfl) (gm_c (gm_at lwV_57_in 2 rfl) (gm_c (gm_at lwV_0_in 7 rfl) (gm_c (gm_at lwV_1_in 5 rfl) (gm_c (gm_at lwV_71_in 1 rfl) (gm_c (gm_at lwV_71_in 2 rfl) (gm_c (gm_at lwV_71_in 3 rfl) (gm_c (gm_at lwV_58_in 2 rfl) (gm_c (gm_at lwV_57_in 9 rfl) (gm_c (gm_at lwV_57_in 10 rfl) (gm_c (gm_at lwV_71_in 4 rfl) (gm_c (gm_at lwV_71_in 5 rfl) (gm_c (gm_at lwV_58_in 0 rfl) gm_nil))))))))))))))) (by decide +kernel)) (goodIn_in il_X12 gd_X12))
set_option maxRecDepth 20000 in
theorem g_lk_33_z_X12_thrown_149 : GoodIn lwW (wsV RL 149 RX12 yX12_thrown w_z_X12_thrown) := goodIn_app (goodIn_sub (ws := ([.methodLink RL 149 yX12_thrown, .instanceMethod yX12_thrown, .selects RX12 yX12_thrown yX12_thrown, .initialized RX12] : List Cond)) (gm_c (gm_at lwV_6_in 2 rfl) (gm_c (gm_at lwV_6_in 3 rfl) (gm_c (gm_at lwV_6_in 4 rfl) (gm_c (gm_at lwV_0_in 7 rfl) gm_nil)))) (by decide +kernel)) (goodIn_ca (goodIn_sub (ws := .code yX12_thrown cX12_thrown 1 (some .int) :: l_z_X12_thrown) (gm_c (gm_at lwV_9_in 9 rfl) (gm_c (gm_at lwV_1_in 5 rfl) gm_nil)) (by decide +kernel)) (goodIn_in il_X12 gd_X12))
set_option maxRecDepth 20000 in
theorem g_lk_33_z_X12_thrown_2_149 : GoodIn lwW (wsV RL 149 RX12 yX12_thrown w_z_X12_thrown_2) := goodIn_app (goodIn_sub (ws := ([.methodLink RL 149 yX12_thrown, .instanceMethod yX12_thrown, .selects RX12 yX12_thrown yX12_thrown, .initialized RX12] : List Cond)) (gm_c (gm_at lwV_6_in 2 rfl) (gm_c (gm_at lwV_6_in 3 rfl) (gm_c (gm_at lwV_6_in 4 rfl) (gm_c (gm_at lwV_0_in 7 rfl) gm_nil)))) (by decide +kernel)) (goodIn_ca (goodIn_sub (ws := .code yX12_thrown cX12_thrown 1 (some .int) :: l_z_X12_thrown_2) (gm_c (gm_at lwV_9_in 9 rfl) (gm_c (gm_at lwV_1_in 5 rfl) gm_nil)) (by decide +kernel)) (goodIn_in il_X12 gd_X12))
set_option maxHeartbeats 4000000 in
set_option maxRecDepth 100000 in
/-- the law, one call: lost -/
theorem lk_33 {p : Program} {l : Launch} {e : Env} {s : State} {m : MethodId} {below : List Frame} {meth : Method} {c : Code} {b : Nat} {xs : Nat → Int32} (hst : l.stackTraces = false) (C0 : lw_At p s m meth c b 6 xs) {A : Nat → Prop} (hA : ∀ q : Nat, s.heap.size ≤ q → A q) (hAf : ∀ q : Nat, A q → s.heap.size ≤ q) (hZ : Zz A s) (hY : Yy s) (dC : Nat → ClassId) (dI : Nat → Nat → Nat) (aX : Nat) (fsX : List Value) (qP : Nat) (gP : Nat → Option Nat) (kP : ClassId) (ap : Nat) (fsp : List Value) (qm : Nat) (fm : Nat → Int32) (km : ClassId) (aZ : Nat) (fsZ : List Value) (q_things : Nat) (f_things : Nat → Int32) (k_things : ClassId) (q_lostMany : Nat) (f_lostMany : Nat → Int32) (k_lostMany : ClassId) (q_rootMany : Nat) (f_rootMany : Nat → Int32) (k_rootMany : ClassId) (qO : Nat) (fO : Nat → Int64) (kO : ClassId) (w1 : Int32) (hw1 : w1 = xs (1 : Int32).toNatClampNeg) (w2 : Int32) (hw2 : w2 = xs (2 : Int32).toNatClampNeg) (w3 : Int32) (hw3 : w3 = xs (3 : Int32).toNatClampNeg) (w4 : Int32) (hw4 : w4 = xs (4 : Int32).toNatClampNeg) (w5 : Int32) (hw5 : w5 = xs (5 : Int32).toNatClampNeg) (k_fsX : fh fsX 18 [(4, .ref qP)]) (k_fsp : fh fsp 21 [(0, .int 0), (11, .int 0), (16, .int 0), (17, .ref qm)]) (k_fsZ : fh fsZ 150 [(0, .int 0), (48, .ref q_things), (62, .ref q_lostMany), (65, .ref q_rootMany), (73, .int 0)]) (hg : gP w1.toNatClampNeg = some ap) (hz_f_things : ∀ j, f_things j = 0) (hz_f_lostMany : ∀ j, f_lostMany j = 0) (hz_f_rootMany : ∀ j, f_rootMany j = 0) {H : Heap} {locs : List Loc} (hK : va_K (dC, dI) vwCl [(kP, .object "HeapWorks$Picture"), (km, .int), (k_things, .int), (k_lostMany, .int), (k_rootMany, .int), (kO, .long)] s) (hP : va_P (dC, dI) vwCl [(aX, .inr (14, fsX)), (qP, .inl (kP, 4, .inr (.inr (.inr (.inr gP))))), (ap, .inr (8, fsp)), (qm, .inl (km, 400, .inl fm)), (aZ, .inr (15, fsZ)), (q_things, .inl (k_things, 5, .inl f_things)), (q_lostMany, .inl (k_lostMany, 5, .inl f_lostMany)), (q_rootMany, .inl (k_rootMany, 5, .inl f_rootMany)), (qO, .inl (kO, 1, .inr (.inl fO)))] H) (hD : va_D A [(aX, .inr (14, fsX)), (qP, .inl (kP, 4, .inr (.inr (.inr (.inr gP))))), (ap, .inr (8, fsp)), (qm, .inl (km, 400, .inl fm)), (aZ, .inr (15, fsZ)), (q_things, .inl (k_things, 5, .inl f_things)), (q_lostMany, .inl (k_lostMany, 5, .inl f_lostMany)), (q_rootMany, .inl (k_rootMany, 5, .inl f_rootMany)), (qO, .inl (kO, 1, .inr (.inl fO)))]) (hS : va_S A s.heap H locs) (ls : Array Slot) (hl : lv_has ls 8 [(0, .ref b), (1, .ref aX), (2, .ref aZ), (3, .ref qO), (4, .int 0)]) : W p l e room_1 s m #[Value.ref b] below meth c H locs 390 571359 (lw_Z below #[Value.ref b] s) (F0 m 2187 ls []) := by
  obtain ⟨hx, hb, hr, hml, hown0, hts0, hX, hbl, hlocks, hgv⟩ := id C0
  have hown : s.vm.findClass RL = some m.cls := hown0
  have hts : ∀ w ∈ lwW, w.before #[Value.ref b] s = true := fun w h => hts0 w (lwW_in w h)
  have hbA : ¬ A b := fun h => absurd (hAf b h) (Nat.not_le.mpr hbl)
  have o_fsX := ow_0 k_fsX
  have o_fsp := ow_0 k_fsp
  have o_fsZ := ow_0 k_fsZ
  refine lv_aload_n hx hb dL_law_2187 rfl (lv_at hl 1 rfl) ?_
  refine lv_aload_n hx hb dL_law_2188 rfl (lv_at hl 0 rfl) ?_
  refine lv_iload hx hb dL_law_2189 (lv_at hl 4 rfl) ?_
  refine lv_iconst (v := 1) hx hb dL_law_2191 (by decide) ?_
  refine lv_iadd hx hb dL_law_2192  ?_
  refine lv_topi (fun x101 ex101 => ?_)
  obtain rfl : x101 = 1 := ex101.trans (by decide)
  refine va_sld hx hb hX hbl hbA hS (show vp_in 1 6 from by unfold vp_in; decide) dL_law_2193 ?_
  refine lv_topi (fun x102 ex102 => ?_)
  obtain rfl : w1 = x102 := hw1.trans ex102.symm
  refine lv_aload_n hx hb dL_law_2194 rfl (lv_at hl 3 rfl) ?_
  have hPc := hP.sub (ws' := [(aX, .inr (14, fsX)), (qP, .inl (kP, 4, .inr (.inr (.inr (.inr gP))))), (ap, .inr (8, fsp)), (qm, .inl (km, 400, .inl fm)), (qO, .inl (kO, 1, .inr (.inl fO)))]) [0, 1, 2, 3, 8] rfl
  have hDc := hD.sub (ws' := [(aX, .inr (14, fsX)), (qP, .inl (kP, 4, .inr (.inr (.inr (.inr gP))))), (ap, .inr (8, fsp)), (qm, .inl (km, 400, .inl fm)), (qO, .inl (kO, 1, .inr (.inl fO)))]) [0, 1, 2, 3, 8] (by decide) rfl
  have hKc := hK.sub (tys' := [(kP, .object "HeapWorks$Picture"), (km, .int), (kO, .long)]) [0, 1, 5] rfl
  have hFc := va_free (wc := [(aX, .inr (14, fsX)), (qP, .inl (kP, 4, .inr (.inr (.inr (.inr gP))))), (ap, .inr (8, fsp)), (qm, .inl (km, 400, .inl fm)), (qO, .inl (kO, 1, .inr (.inl fO)))]) hD hS hA [0, 1, 2, 3, 8] rfl
  refine vx_calli (vx_runSX (As := [.ref aX, .int w1, .ref qO]) (rest := []) ⟨hx, hb, hml, hown, hts⟩ (z_L_lost l dC dI H.size aX fsX qP gP kP ap fsp qm fm km qO fO kO w1 (fh_sub o_fsX.2 [0] rfl) (fh_sub o_fsp.2 [0, 1, 2, 3] rfl) hst hg) (vx_cwSW 3 hts g_lk_33_z_L_lost_254 rfl rfl rfl (by decide +kernel) ⟨Nat.le_of_ble_eq_true rfl, Nat.le_of_ble_eq_true rfl⟩) ⟨fun a U g mk q => by obtain ⟨q0, q1, qZ, qY, qP, qK, qD⟩ := q; exact ⟨q0, q1, Zz_call qZ, Yy_call qY, qP, va_K.moved (u := U) (U := U.calling g mk a) (Vm.Alike.refl U.vm) qK, qD⟩, fun U hU hW => ⟨rfl, by rw [hU], Zz_go hZ hS hFc hU hW, Yy_go hY hW, by rw [hU]; exact hPc, va_K.moved hW.alike hKc, hDc.weaken (fun _ _ _ _ => trivial)⟩⟩ rfl rfl hl.1 rfl (lv_room (Nat.le_of_ble_eq_true rfl)) dL_law_2195 ⟨Nat.le_of_ble_eq_true rfl, Nat.le_of_ble_eq_true rfl⟩) hS (fun q _ h => hFc q h) hFc (fun q _ h => hFc q h) (fun E ce q9 u t H1 locs ht hvm hpx hBX hz1 hk1 hS hce hcv hcl => ?_) (fun r103 u t H1 locs ht hvm hw hB hz1 hk1 hS => ?_)
  · exact False.elim hBX
  · skip
    obtain ⟨f104, rfl⟩ : ∃ z, z = u := ⟨_, rfl⟩
    obtain ⟨hP1, hK1, hD1⟩ := hB
    rw [ht] at hP1
    try dsimp only at hw
    obtain ⟨hP, hD⟩ := va_join (wr := [(aZ, .inr (15, fsZ)), (q_things, .inl (k_things, 5, .inl f_things)), (q_lostMany, .inl (k_lostMany, 5, .inl f_lostMany)), (q_rootMany, .inl (k_rootMany, 5, .inl f_rootMany))]) (w1 := [(qO, .inl (kO, 1, .inr (.inl f104)))]) hP hD [0, 1, 2, 3, 8] [4, 5, 6, 7] rfl rfl (by decide) (by decide) hk1 hFc hP1 hD1
    have hK := hK.sub (tys' := [(k_things, .int), (k_lostMany, .int), (k_rootMany, .int), (kO, .long)]) [2, 3, 4, 5] rfl
    generalize H1 = H at hP hS ⊢
    refine W.widen (k := 391) (n := 571365) (by omega) (by omega) ?_
    have hP : va_P (dC, dI) vwCl [(aZ, .inr (15, fsZ)), (q_things, .inl (k_things, 5, .inl f_things)), (q_lostMany, .inl (k_lostMany, 5, .inl f_lostMany)), (q_rootMany, .inl (k_rootMany, 5, .inl f_rootMany)), (qO, .inl (kO, 1, .inr (.inl f104)))] H := hP
    have hD : va_D A [(aZ, .inr (15, fsZ)), (q_things, .inl (k_things, 5, .inl f_things)), (q_lostMany, .inl (k_lostMany, 5, .inl f_lostMany)), (q_rootMany, .inl (k_rootMany, 5, .inl f_rootMany)), (qO, .inl (kO, 1, .inr (.inl f104)))] := hD
    rcases hw with ⟨c105, er106⟩ | ⟨c107, c108, er109⟩ | ⟨c110, c111, er112, q113⟩
    · skip
      subst er106
      refine lv_istore (lv' := [(5, .int 1), (0, .ref b), (1, .ref aX), (2, .ref aZ), (3, .ref qO), (4, .int 0)]) hx hb dL_law_2198 hl (by decide) rfl (fun ls hl => ?_)
      refine lv_aload_n hx hb dL_law_2200 rfl (lv_at hl 3 rfl) ?_
      refine lv_aload_n hx hb dL_law_2201 rfl (lv_at hl 1 rfl) ?_
      refine lv_iload hx hb dL_law_2202 (lv_at hl 5 rfl) ?_
      refine lv_iconst (v := 1) hx hb dL_law_2204 (by decide) ?_
      refine lv_iadd hx hb dL_law_2205  ?_
      refine lv_topi (fun x114 ex114 => ?_)
      obtain rfl : x114 = 1 := ex114.trans (by decide)
      refine va_sld hx hb hX hbl hbA hS (show vp_in 1 6 from by unfold vp_in; decide) dL_law_2206 ?_
      refine lv_topi (fun x115 ex115 => ?_)
      obtain rfl : w1 = x115 := hw1.trans ex115.symm
      have hPc := hP.sub (ws' := [(aZ, .inr (15, fsZ)), (q_things, .inl (k_things, 5, .inl f_things)), (q_lostMany, .inl (k_lostMany, 5, .inl f_lostMany)), (q_rootMany, .inl (k_rootMany, 5, .inl f_rootMany))]) [0, 1, 2, 3] rfl
      have hDc := hD.sub (ws' := [(aZ, .inr (15, fsZ)), (q_things, .inl (k_things, 5, .inl f_things)), (q_lostMany, .inl (k_lostMany, 5, .inl f_lostMany)), (q_rootMany, .inl (k_rootMany, 5, .inl f_rootMany))]) [0, 1, 2, 3] (by decide) rfl
      have hKc := hK.sub (tys' := [(k_things, .int), (k_lostMany, .int), (k_rootMany, .int)]) [0, 1, 2] rfl
      have hFc := va_free (wc := [(aZ, .inr (15, fsZ)), (q_things, .inl (k_things, 5, .inl f_things)), (q_lostMany, .inl (k_lostMany, 5, .inl f_lostMany)), (q_rootMany, .inl (k_rootMany, 5, .inl f_rootMany))]) hD hS hA [0, 1, 2, 3] rfl
      refine va_calli (va_runV (As := [.int w1]) (rest := []) ⟨hx, hb, hml, hown, hts⟩ (z_X12_lost l dC dI H.size aZ fsZ q_things f_things k_things q_lostMany f_lostMany k_lostMany q_rootMany f_rootMany k_rootMany w1 (fh_sub o_fsZ.2 [0, 1, 2, 3, 4] rfl) hz_f_things hz_f_lostMany hz_f_rootMany) (cwV 1 hts g_lk_33_z_X12_lost_256 rfl rfl rfl (by decide +kernel) ⟨Nat.le_of_ble_eq_true rfl, Nat.le_of_ble_eq_true rfl⟩) ⟨fun a U g mk q => by obtain ⟨q0, q1, qP, qK, qD⟩ := q; exact ⟨q0, q1, qP, va_K.moved (u := U) (U := U.calling g mk a) (Vm.Alike.refl U.vm) qK, qD⟩, va_recv hK hP (ci := 15) (q0 := 0) rfl rfl, fun U hU hW => ⟨rfl, by rw [hU], by rw [hU]; exact hPc, va_K.moved hW.alike hKc, hDc.weaken (fun _ _ _ _ => trivial)⟩⟩ rfl rfl hl.1 rfl (lv_room (Nat.le_of_ble_eq_true rfl)) dL_law_2207 ⟨Nat.le_of_ble_eq_true rfl, Nat.le_of_ble_eq_true rfl⟩) hS (fun q _ h => hFc q h) hFc (fun r116 u t H1 locs ht hvm hw hB hz1 hk1 hS => ?_)
      obtain ⟨s117, f118⟩ := u
      obtain ⟨hP1, hK1, hD1⟩ := hB
      rw [ht] at hP1
      try dsimp only at hw
      obtain ⟨hP, hD⟩ := va_join (wr := [(qO, .inl (kO, 1, .inr (.inl f104)))]) (w1 := [(aZ, .inr (15, s117)), (q_things, .inl (k_things, 5, .inl f_things)), (q_lostMany, .inl (k_lostMany, 5, .inl f118)), (q_rootMany, .inl (k_rootMany, 5, .inl f_rootMany))]) hP hD [0, 1, 2, 3] [4] rfl rfl (by decide) (by decide) hk1 hFc hP1 hD1
      have hK := hK.sub (tys' := [(kO, .long), (k_things, .int), (k_lostMany, .int), (k_rootMany, .int)]) [3, 0, 1, 2] rfl
      generalize H1 = H at hP hS ⊢
      have hP : va_P (dC, dI) vwCl [(qO, .inl (kO, 1, .inr (.inl f104))), (aZ, .inr (15, s117)), (q_things, .inl (k_things, 5, .inl f_things)), (q_lostMany, .inl (k_lostMany, 5, .inl f118)), (q_rootMany, .inl (k_rootMany, 5, .inl f_rootMany))] H := hP
      have hD : va_D A [(qO, .inl (kO, 1, .inr (.inl f104))), (aZ, .inr (15, s117)), (q_things, .inl (k_things, 5, .inl f_things)), (q_lostMany, .inl (k_lostMany, 5, .inl f118)), (q_rootMany, .inl (k_rootMany, 5, .inl f_rootMany))] := hD
      rcases hw with ⟨c119, er120, o_s117, q121⟩ | ⟨c122, c123, er124, o_s117, q125⟩ | ⟨c126, c127, er128, o_s117, q129, q130⟩
      · skip
        subst er120
        have o_s117 := ow_on o_fsZ o_s117 (l' := [(0, .int 1), (48, .ref q_things), (62, .ref q_lostMany), (65, .ref q_rootMany), (73, .int 0), (48, .ref q_things), (62, .ref q_lostMany), (65, .ref q_rootMany), (73, .int 0)]) (w' := [0]) rfl rfl
        refine lv_istore (lv' := [(6, .int 0), (5, .int 1), (0, .ref b), (1, .ref aX), (2, .ref aZ), (3, .ref qO), (4, .int 0)]) hx hb dL_law_2210 hl (by decide) rfl (fun ls hl => ?_)
        refine lv_aload_n hx hb dL_law_2212 rfl (lv_at hl 4 rfl) ?_
        have hPc := hP.sub (ws' := [(aZ, .inr (15, s117))]) [1] rfl
        have hDc := hD.sub (ws' := [(aZ, .inr (15, s117))]) [1] (by decide) rfl
        have hKc := hK.sub (tys' := []) [] rfl
        have hFc := va_free (wc := [(aZ, .inr (15, s117))]) hD hS hA [1] rfl
        refine va_calli (va_runV (As := []) (rest := []) ⟨hx, hb, hml, hown, hts⟩ (z_X12_thrown l dC dI H.size aZ s117 (fh_sub o_s117.2 [0] rfl) ) (cwV 0 hts g_lk_33_z_X12_thrown_149 rfl rfl rfl (by decide +kernel) ⟨Nat.le_of_ble_eq_true rfl, Nat.le_of_ble_eq_true rfl⟩) ⟨fun a U g mk q => by obtain ⟨q0, q1, qP, qK, qD⟩ := q; exact ⟨q0, q1, qP, va_K.moved (u := U) (U := U.calling g mk a) (Vm.Alike.refl U.vm) qK, qD⟩, va_recv hK hP (ci := 15) (q0 := 1) rfl rfl, fun U hU hW => ⟨rfl, by rw [hU], by rw [hU]; exact hPc, va_K.moved hW.alike hKc, hDc.weaken (fun _ _ _ _ => trivial)⟩⟩ rfl rfl hl.1 rfl (lv_room (Nat.le_of_ble_eq_true rfl)) dL_law_2213 ⟨Nat.le_of_ble_eq_true rfl, Nat.le_of_ble_eq_true rfl⟩) hS (fun q _ h => hFc q h) hFc (fun r131 u t H1 locs ht hvm hw hB hz1 hk1 hS => ?_)
        obtain ⟨hP1, hK1, hD1⟩ := hB
        rw [ht] at hP1
        try dsimp only at hw
        obtain ⟨hP, hD⟩ := va_join (wr := [(qO, .inl (kO, 1, .inr (.inl f104))), (q_things, .inl (k_things, 5, .inl f_things)), (q_lostMany, .inl (k_lostMany, 5, .inl f118)), (q_rootMany, .inl (k_rootMany, 5, .inl f_rootMany))]) (w1 := [(aZ, .inr (15, s117))]) hP hD [1] [0, 2, 3, 4] rfl rfl (by decide) (by decide) hk1 hFc hP1 hD1
        have hK := hK.sub (tys' := [(kO, .long), (k_things, .int), (k_lostMany, .int), (k_rootMany, .int)]) [0, 1, 2, 3] rfl
        generalize H1 = H at hP hS ⊢
        have hP : va_P (dC, dI) vwCl [(qO, .inl (kO, 1, .inr (.inl f104))), (q_things, .inl (k_things, 5, .inl f_things)), (q_lostMany, .inl (k_lostMany, 5, .inl f118)), (q_rootMany, .inl (k_rootMany, 5, .inl f_rootMany)), (aZ, .inr (15, s117))] H := hP
        have hD : va_D A [(qO, .inl (kO, 1, .inr (.inl f104))), (q_things, .inl (k_things, 5, .inl f_things)), (q_lostMany, .inl (k_lostMany, 5, .inl f118)), (q_rootMany, .inl (k_rootMany, 5, .inl f_rootMany)), (aZ, .inr (15, s117))] := hD
        have er132 := hw
        subst er132
        refine lv_iload hx hb dL_law_2216 (lv_at hl 1 rfl) ?_
        refine lv_icmp_eq (tgt := 2223) hx hb dL_law_2218 (by decide) (fun c133 => ?_) (fun c133 => absurd c133 (by decide))
        refine lv_iload hx hb dL_law_2223 (lv_at hl 1 rfl) ?_
        refine lv_if_ne (tgt := 2240) hx hb dL_law_2225 (by decide) (fun c134 => ?_) (fun c134 => absurd c134 (by decide))
        refine lv_goto (tgt := 3111) hx hb dL_law_2240 (by decide) ?_
        exact lw_end hst C0 hA hAf hZ hY (Nat.le_of_ble_eq_true rfl) (Nat.le_of_ble_eq_true rfl) dC dI P0k P0 D0 hS ls (lv_sub hl [2, 6] rfl)
      · exact (by exfalso; (try simp only [i_lt, i_le, i_eq, kc_0, kc_4] at c105 c122 c123); omega)
      · exact (by exfalso; (try simp only [i_lt, i_le, i_eq, kc_0, kc_4] at c105 c126 c127); omega)
    · skip
      subst er109
      refine lv_istore (lv' := [(5, .int 1), (0, .ref b), (1, .ref aX), (2, .ref aZ), (3, .ref qO), (4, .int 0)]) hx hb dL_law_2198 hl (by decide) rfl (fun ls hl => ?_)
      refine lv_aload_n hx hb dL_law_2200 rfl (lv_at hl 3 rfl) ?_
      refine lv_aload_n hx hb dL_law_2201 rfl (lv_at hl 1 rfl) ?_
      refine lv_iload hx hb dL_law_2202 (lv_at hl 5 rfl) ?_
      refine lv_iconst (v := 1) hx hb dL_law_2204 (by decide) ?_
      refine lv_iadd hx hb dL_law_2205  ?_
      refine lv_topi (fun x135 ex135 => ?_)
      obtain rfl : x135 = 1 := ex135.trans (by decide)
      refine va_sld hx hb hX hbl hbA hS (show vp_in 1 6 from by unfold vp_in; decide) dL_law_2206 ?_
      refine lv_topi (fun x136 ex136 => ?_)
      obtain rfl : w1 = x136 := hw1.trans ex136.symm
      have hPc := hP.sub (ws' := [(aZ, .inr (15, fsZ)), (q_things, .inl (k_things, 5, .inl f_things)), (q_lostMany, .inl (k_lostMany, 5, .inl f_lostMany)), (q_rootMany, .inl (k_rootMany, 5, .inl f_rootMany))]) [0, 1, 2, 3] rfl
      have hDc := hD.sub (ws' := [(aZ, .inr (15, fsZ)), (q_things, .inl (k_things, 5, .inl f_things)), (q_lostMany, .inl (k_lostMany, 5, .inl f_lostMany)), (q_rootMany, .inl (k_rootMany, 5, .inl f_rootMany))]) [0, 1, 2, 3] (by decide) rfl
      have hKc := hK.sub (tys' := [(k_things, .int), (k_lostMany, .int), (k_rootMany, .int)]) [0, 1, 2] rfl
      have hFc := va_free (wc := [(aZ, .inr (15, fsZ)), (q_things, .inl (k_things, 5, .inl f_things)), (q_lostMany, .inl (k_lostMany, 5, .inl f_lostMany)), (q_rootMany, .inl (k_rootMany, 5, .inl f_rootMany))]) hD hS hA [0, 1, 2, 3] rfl
      refine va_calli (va_runV (As := [.int w1]) (rest := []) ⟨hx, hb, hml, hown, hts⟩ (z_X12_lost l dC dI H.size aZ fsZ q_things f_things k_things q_lostMany f_lostMany k_lostMany q_rootMany f_rootMany k_rootMany w1 (fh_sub o_fsZ.2 [0, 1, 2, 3, 4] rfl) hz_f_things hz_f_lostMany hz_f_rootMany) (cwV 1 hts g_lk_33_z_X12_lost_256 rfl rfl rfl (by decide +kernel) ⟨Nat.le_of_ble_eq_true rfl, Nat.le_of_ble_eq_true rfl⟩) ⟨fun a U g mk q => by obtain ⟨q0, q1, qP, qK, qD⟩ := q; exact ⟨q0, q1, qP, va_K.moved (u := U) (U := U.calling g mk a) (Vm.Alike.refl U.vm) qK, qD⟩, va_recv hK hP (ci := 15) (q0 := 0) rfl rfl, fun U hU hW => ⟨rfl, by rw [hU], by rw [hU]; exact hPc, va_K.moved hW.alike hKc, hDc.weaken (fun _ _ _ _ => trivial)⟩⟩ rfl rfl hl.1 rfl (lv_room (Nat.le_of_ble_eq_true rfl)) dL_law_2207 ⟨Nat.le_of_ble_eq_true rfl, Nat.le_of_ble_eq_true rfl⟩) hS (fun q _ h => hFc q h) hFc (fun r137 u t H1 locs ht hvm hw hB hz1 hk1 hS => ?_)
      obtain ⟨s138, f139⟩ := u
      obtain ⟨hP1, hK1, hD1⟩ := hB
      rw [ht] at hP1
      try dsimp only at hw
      obtain ⟨hP, hD⟩ := va_join (wr := [(qO, .inl (kO, 1, .inr (.inl f104)))]) (w1 := [(aZ, .inr (15, s138)), (q_things, .inl (k_things, 5, .inl f_things)), (q_lostMany, .inl (k_lostMany, 5, .inl f139)), (q_rootMany, .inl (k_rootMany, 5, .inl f_rootMany))]) hP hD [0, 1, 2, 3] [4] rfl rfl (by decide) (by decide) hk1 hFc hP1 hD1
      have hK := hK.sub (tys' := [(kO, .long), (k_things, .int), (k_lostMany, .int), (k_rootMany, .int)]) [3, 0, 1, 2] rfl
      generalize H1 = H at hP hS ⊢
      have hP : va_P (dC, dI) vwCl [(qO, .inl (kO, 1, .inr (.inl f104))), (aZ, .inr (15, s138)), (q_things, .inl (k_things, 5, .inl f_things)), (q_lostMany, .inl (k_lostMany, 5, .inl f139)), (q_rootMany, .inl (k_rootMany, 5, .inl f_rootMany))] H := hP
      have hD : va_D A [(qO, .inl (kO, 1, .inr (.inl f104))), (aZ, .inr (15, s138)), (q_things, .inl (k_things, 5, .inl f_things)), (q_lostMany, .inl (k_lostMany, 5, .inl f139)), (q_rootMany, .inl (k_rootMany, 5, .inl f_rootMany))] := hD
      rcases hw with ⟨c140, er141, o_s138, q142⟩ | ⟨c143, c144, er145, o_s138, q146⟩ | ⟨c147, c148, er149, o_s138, q150, q151⟩
      · exact (by exfalso; (try simp only [i_lt, i_le, i_eq, kc_0, kc_4] at c107 c108 c140); omega)
      · skip
        subst er145
        have o_s138 := ow_on o_fsZ o_s138 (l' := [(0, .int 1), (48, .ref q_things), (62, .ref q_lostMany), (65, .ref q_rootMany), (73, .int 0), (48, .ref q_things), (62, .ref q_lostMany), (65, .ref q_rootMany), (73, .int 0)]) (w' := [0]) rfl rfl
        refine lv_istore (lv' := [(6, .int 0), (5, .int 1), (0, .ref b), (1, .ref aX), (2, .ref aZ), (3, .ref qO), (4, .int 0)]) hx hb dL_law_2210 hl (by decide) rfl (fun ls hl => ?_)
        refine lv_aload_n hx hb dL_law_2212 rfl (lv_at hl 4 rfl) ?_
        have hPc := hP.sub (ws' := [(aZ, .inr (15, s138))]) [1] rfl
        have hDc := hD.sub (ws' := [(aZ, .inr (15, s138))]) [1] (by decide) rfl
        have hKc := hK.sub (tys' := []) [] rfl
        have hFc := va_free (wc := [(aZ, .inr (15, s138))]) hD hS hA [1] rfl
        refine va_calli (va_runV (As := []) (rest := []) ⟨hx, hb, hml, hown, hts⟩ (z_X12_thrown l dC dI H.size aZ s138 (fh_sub o_s138.2 [0] rfl) ) (cwV 0 hts g_lk_33_z_X12_thrown_149 rfl rfl rfl (by decide +kernel) ⟨Nat.le_of_ble_eq_true rfl, Nat.le_of_ble_eq_true rfl⟩) ⟨fun a U g mk q => by obtain ⟨q0, q1, qP, qK, qD⟩ := q; exact ⟨q0, q1, qP, va_K.moved (u := U) (U := U.calling g mk a) (Vm.Alike.refl U.vm) qK, qD⟩, va_recv hK hP (ci := 15) (q0 := 1) rfl rfl, fun U hU hW => ⟨rfl, by rw [hU], by rw [hU]; exact hPc, va_K.moved hW.alike hKc, hDc.weaken (fun _ _ _ _ => trivial)⟩⟩ rfl rfl hl.1 rfl (lv_room (Nat.le_of_ble_eq_true rfl)) dL_law_2213 ⟨Nat.le_of_ble_eq_true rfl, Nat.le_of_ble_eq_true rfl⟩) hS (fun q _ h => hFc q h) hFc (fun r152 u t H1 locs ht hvm hw hB hz1 hk1 hS => ?_)
        obtain ⟨hP1, hK1, hD1⟩ := hB
        rw [ht] at hP1
        try dsimp only at hw
        obtain ⟨hP, hD⟩ := va_join (wr := [(qO, .inl (kO, 1, .inr (.inl f104))), (q_things, .inl (k_things, 5, .inl f_things)), (q_lostMany, .inl (k_lostMany, 5, .inl f139)), (q_rootMany, .inl (k_rootMany, 5, .inl f_rootMany))]) (w1 := [(aZ, .inr (15, s138))]) hP hD [1] [0, 2, 3, 4] rfl rfl (by decide) (by decide) hk1 hFc hP1 hD1
        have hK := hK.sub (tys' := [(kO, .long), (k_things, .int), (k_lostMany, .int), (k_rootMany, .int)]) [0, 1, 2, 3] rfl
        generalize H1 = H at hP hS ⊢
        have hP : va_P (dC, dI) vwCl [(qO, .inl (kO, 1, .inr (.inl f104))), (q_things, .inl (k_things, 5, .inl f_things)), (q_lostMany, .inl (k_lostMany, 5, .inl f139)), (q_rootMany, .inl (k_rootMany, 5, .inl f_rootMany)), (aZ, .inr (15, s138))] H := hP
        have hD : va_D A [(qO, .inl (kO, 1, .inr (.inl f104))), (q_things, .inl (k_things, 5, .inl f_things)), (q_lostMany, .inl (k_lostMany, 5, .inl f139)), (q_rootMany, .inl (k_rootMany, 5, .inl f_rootMany)), (aZ, .inr (15, s138))] := hD
        have er153 := hw
        subst er153
        refine lv_iload hx hb dL_law_2216 (lv_at hl 1 rfl) ?_
        refine lv_icmp_eq (tgt := 2223) hx hb dL_law_2218 (by decide) (fun c154 => ?_) (fun c154 => absurd c154 (by decide))
        refine lv_iload hx hb dL_law_2223 (lv_at hl 1 rfl) ?_
        refine lv_if_ne (tgt := 2240) hx hb dL_law_2225 (by decide) (fun c155 => ?_) (fun c155 => absurd c155 (by decide))
        refine lv_goto (tgt := 3111) hx hb dL_law_2240 (by decide) ?_
        exact lw_end hst C0 hA hAf hZ hY (Nat.le_of_ble_eq_true rfl) (Nat.le_of_ble_eq_true rfl) dC dI P0k P0 D0 hS ls (lv_sub hl [2, 6] rfl)
      · exact (by exfalso; (try simp only [i_lt, i_le, i_eq, kc_0, kc_4] at c107 c108 c147 c148); omega)
    · skip
      subst er112
      refine lv_istore (lv' := [(5, .int 0), (0, .ref b), (1, .ref aX), (2, .ref aZ), (3, .ref qO), (4, .int 0)]) hx hb dL_law_2198 hl (by decide) rfl (fun ls hl => ?_)
      refine lv_aload_n hx hb dL_law_2200 rfl (lv_at hl 3 rfl) ?_
      refine lv_aload_n hx hb dL_law_2201 rfl (lv_at hl 1 rfl) ?_
      refine lv_iload hx hb dL_law_2202 (lv_at hl 5 rfl) ?_
      refine lv_iconst (v := 1) hx hb dL_law_2204 (by decide) ?_
      refine lv_iadd hx hb dL_law_2205  ?_
      refine lv_topi (fun x156 ex156 => ?_)
      obtain rfl : x156 = 1 := ex156.trans (by decide)
      refine va_sld hx hb hX hbl hbA hS (show vp_in 1 6 from by unfold vp_in; decide) dL_law_2206 ?_
      refine lv_topi (fun x157 ex157 => ?_)
      obtain rfl : w1 = x157 := hw1.trans ex157.symm
      have hPc := hP.sub (ws' := [(aZ, .inr (15, fsZ)), (q_things, .inl (k_things, 5, .inl f_things)), (q_lostMany, .inl (k_lostMany, 5, .inl f_lostMany)), (q_rootMany, .inl (k_rootMany, 5, .inl f_rootMany))]) [0, 1, 2, 3] rfl
      have hDc := hD.sub (ws' := [(aZ, .inr (15, fsZ)), (q_things, .inl (k_things, 5, .inl f_things)), (q_lostMany, .inl (k_lostMany, 5, .inl f_lostMany)), (q_rootMany, .inl (k_rootMany, 5, .inl f_rootMany))]) [0, 1, 2, 3] (by decide) rfl
      have hKc := hK.sub (tys' := [(k_things, .int), (k_lostMany, .int), (k_rootMany, .int)]) [0, 1, 2] rfl
      have hFc := va_free (wc := [(aZ, .inr (15, fsZ)), (q_things, .inl (k_things, 5, .inl f_things)), (q_lostMany, .inl (k_lostMany, 5, .inl f_lostMany)), (q_rootMany, .inl (k_rootMany, 5, .inl f_rootMany))]) hD hS hA [0, 1, 2, 3] rfl
      refine va_calli (va_runV (As := [.int w1]) (rest := []) ⟨hx, hb, hml, hown, hts⟩ (z_X12_lost l dC dI H.size aZ fsZ q_things f_things k_things q_lostMany f_lostMany k_lostMany q_rootMany f_rootMany k_rootMany w1 (fh_sub o_fsZ.2 [0, 1, 2, 3, 4] rfl) hz_f_things hz_f_lostMany hz_f_rootMany) (cwV 1 hts g_lk_33_z_X12_lost_256 rfl rfl rfl (by decide +kernel) ⟨Nat.le_of_ble_eq_true rfl, Nat.le_of_ble_eq_true rfl⟩) ⟨fun a U g mk q => by obtain ⟨q0, q1, qP, qK, qD⟩ := q; exact ⟨q0, q1, qP, va_K.moved (u := U) (U := U.calling g mk a) (Vm.Alike.refl U.vm) qK, qD⟩, va_recv hK hP (ci := 15) (q0 := 0) rfl rfl, fun U hU hW => ⟨rfl, by rw [hU], by rw [hU]; exact hPc, va_K.moved hW.alike hKc, hDc.weaken (fun _ _ _ _ => trivial)⟩⟩ rfl rfl hl.1 rfl (lv_room (Nat.le_of_ble_eq_true rfl)) dL_law_2207 ⟨Nat.le_of_ble_eq_true rfl, Nat.le_of_ble_eq_true rfl⟩) hS (fun q _ h => hFc q h) hFc (fun r158 u t H1 locs ht hvm hw hB hz1 hk1 hS => ?_)
      obtain ⟨s159, f160⟩ := u
      obtain ⟨hP1, hK1, hD1⟩ := hB
      rw [ht] at hP1
      try dsimp only at hw
      obtain ⟨hP, hD⟩ := va_join (wr := [(qO, .inl (kO, 1, .inr (.inl f104)))]) (w1 := [(aZ, .inr (15, s159)), (q_things, .inl (k_things, 5, .inl f_things)), (q_lostMany, .inl (k_lostMany, 5, .inl f160)), (q_rootMany, .inl (k_rootMany, 5, .inl f_rootMany))]) hP hD [0, 1, 2, 3] [4] rfl rfl (by decide) (by decide) hk1 hFc hP1 hD1
      have hK := hK.sub (tys' := [(kO, .long), (k_things, .int), (k_lostMany, .int), (k_rootMany, .int)]) [3, 0, 1, 2] rfl
      generalize H1 = H at hP hS ⊢
      have hP : va_P (dC, dI) vwCl [(qO, .inl (kO, 1, .inr (.inl f104))), (aZ, .inr (15, s159)), (q_things, .inl (k_things, 5, .inl f_things)), (q_lostMany, .inl (k_lostMany, 5, .inl f160)), (q_rootMany, .inl (k_rootMany, 5, .inl f_rootMany))] H := hP
      have hD : va_D A [(qO, .inl (kO, 1, .inr (.inl f104))), (aZ, .inr (15, s159)), (q_things, .inl (k_things, 5, .inl f_things)), (q_lostMany, .inl (k_lostMany, 5, .inl f160)), (q_rootMany, .inl (k_rootMany, 5, .inl f_rootMany))] := hD
      rcases hw with ⟨c161, er162, o_s159, q163⟩ | ⟨c164, c165, er166, o_s159, q167⟩ | ⟨c168, c169, er170, o_s159, q171, q172⟩
      · exact (by exfalso; (try simp only [i_lt, i_le, i_eq, kc_0, kc_4] at c110 c111 c161); omega)
      · exact (by exfalso; (try simp only [i_lt, i_le, i_eq, kc_0, kc_4] at c110 c111 c164 c165); omega)
      · skip
        subst er170
        have o_s159 := ow_on o_fsZ o_s159 (l' := [(73, .int 0), (48, .ref q_things), (65, .ref q_rootMany), (0, .int 0), (48, .ref q_things), (62, .ref q_lostMany), (65, .ref q_rootMany), (48, .ref q_things), (62, .ref q_lostMany), (65, .ref q_rootMany)]) (w' := [73, 0]) rfl rfl
        refine lv_istore (lv' := [(6, .int 0), (5, .int 0), (0, .ref b), (1, .ref aX), (2, .ref aZ), (3, .ref qO), (4, .int 0)]) hx hb dL_law_2210 hl (by decide) rfl (fun ls hl => ?_)
        refine lv_aload_n hx hb dL_law_2212 rfl (lv_at hl 4 rfl) ?_
        have hPc := hP.sub (ws' := [(aZ, .inr (15, s159))]) [1] rfl
        have hDc := hD.sub (ws' := [(aZ, .inr (15, s159))]) [1] (by decide) rfl
        have hKc := hK.sub (tys' := []) [] rfl
        have hFc := va_free (wc := [(aZ, .inr (15, s159))]) hD hS hA [1] rfl
        refine va_calli (va_runV (As := []) (rest := []) ⟨hx, hb, hml, hown, hts⟩ (z_X12_thrown_2 l dC dI H.size aZ s159 (fh_sub o_s159.2 [3] rfl) ) (cwV 0 hts g_lk_33_z_X12_thrown_2_149 rfl rfl rfl (by decide +kernel) ⟨Nat.le_of_ble_eq_true rfl, Nat.le_of_ble_eq_true rfl⟩) ⟨fun a U g mk q => by obtain ⟨q0, q1, qP, qK, qD⟩ := q; exact ⟨q0, q1, qP, va_K.moved (u := U) (U := U.calling g mk a) (Vm.Alike.refl U.vm) qK, qD⟩, va_recv hK hP (ci := 15) (q0 := 1) rfl rfl, fun U hU hW => ⟨rfl, by rw [hU], by rw [hU]; exact hPc, va_K.moved hW.alike hKc, hDc.weaken (fun _ _ _ _ => trivial)⟩⟩ rfl rfl hl.1 rfl (lv_room (Nat.le_of_ble_eq_true rfl)) dL_law_2213 ⟨Nat.le_of_ble_eq_true rfl, Nat.le_of_ble_eq_true rfl⟩) hS (fun q _ h => hFc q h) hFc (fun r173 u t H1 locs ht hvm hw hB hz1 hk1 hS => ?_)
        obtain ⟨hP1, hK1, hD1⟩ := hB
        rw [ht] at hP1
        try dsimp only at hw
        obtain ⟨hP, hD⟩ := va_join (wr := [(qO, .inl (kO, 1, .inr (.inl f104))), (q_things, .inl (k_things, 5, .inl f_things)), (q_lostMany, .inl (k_lostMany, 5, .inl f160)), (q_rootMany, .inl (k_rootMany, 5, .inl f_rootMany))]) (w1 := [(aZ, .inr (15, s159))]) hP hD [1] [0, 2, 3, 4] rfl rfl (by decide) (by decide) hk1 hFc hP1 hD1
        have hK := hK.sub (tys' := [(kO, .long), (k_things, .int), (k_lostMany, .int), (k_rootMany, .int)]) [0, 1, 2, 3] rfl
        generalize H1 = H at hP hS ⊢
        have hP : va_P (dC, dI) vwCl [(qO, .inl (kO, 1, .inr (.inl f104))), (q_things, .inl (k_things, 5, .inl f_things)), (q_lostMany, .inl (k_lostMany, 5, .inl f160)), (q_rootMany, .inl (k_rootMany, 5, .inl f_rootMany)), (aZ, .inr (15, s159))] H := hP
        have hD : va_D A [(qO, .inl (kO, 1, .inr (.inl f104))), (q_things, .inl (k_things, 5, .inl f_things)), (q_lostMany, .inl (k_lostMany, 5, .inl f160)), (q_rootMany, .inl (k_rootMany, 5, .inl f_rootMany)), (aZ, .inr (15, s159))] := hD
        have er174 := hw
        subst er174
        refine lv_iload hx hb dL_law_2216 (lv_at hl 1 rfl) ?_
        refine lv_icmp_eq (tgt := 2223) hx hb dL_law_2218 (by decide) (fun c175 => ?_) (fun c175 => absurd c175 (by decide))
        refine lv_iload hx hb dL_law_2223 (lv_at hl 1 rfl) ?_
        refine lv_if_ne (tgt := 2240) hx hb dL_law_2225 (by decide) (fun c176 => absurd c176 (by decide)) (fun c176 => ?_)
        refine lv_aload_n hx hb dL_law_2228 rfl (lv_at hl 5 rfl) ?_
        refine lv_iconst (v := 0) hx hb dL_law_2229 (by decide) ?_
        refine va_lald hx hb hK hP 0 0 rfl rfl (show vp_in 0 1 from by unfold vp_in; decide) dL_law_2230 ?_
        refine lv_topl (fun x177 ex177 => ?_)
        obtain rfl : 0 = x177 := (ex177.trans q113).symm
        refine lv_iload hx hb dL_law_2231 (lv_at hl 0 rfl) ?_
        refine lv_i2l hx hb dL_law_2233 rfl ?_
        refine lv_topl (fun x178 ex178 => ?_)
        obtain rfl : x178 = 0 := ex178.trans (by decide)
        refine W.lcmp hx hb dL_law_2234  ?_
        refine lv_topi (fun x179 ex179 => ?_)
        obtain rfl : x179 = 0 := ex179.trans (by decide)
        refine lv_if_eq (tgt := 2240) hx hb dL_law_2235 (by decide) (fun c180 => ?_) (fun c180 => absurd c180 (by decide))
        refine lv_goto (tgt := 3111) hx hb dL_law_2240 (by decide) ?_
        exact lw_end hst C0 hA hAf hZ hY (Nat.le_of_ble_eq_true rfl) (Nat.le_of_ble_eq_true rfl) dC dI P0k P0 D0 hS ls (lv_sub hl [2, 6] rfl)

set_option maxRecDepth 20000 in
theorem g_lk_34_z_X11_lostThing_257 : GoodIn lwW (wsV RL 257 RX11 yX11_lostThing w_z_X11_lostThing) := goodIn_app (goodIn_sub (ws := ([.methodLink RL 257 yX11_lostThing, .instanceMethod yX11_lostThing, .selects RX11 yX11_lostThing yX11_lostThing, .initialized RX11] : List Cond)) (gm_c (gm_at lwV_71_in 6 rfl) (gm_c (gm_at lwV_71_in 7 rfl) (gm_c (gm_at lwV_71_in 8 rfl) (gm_c (gm_at lwV_0_in 3 rfl) gm_nil)))) (by decide +kernel)) (goodIn_ca (goodIn_sub (ws := .code yX11_lostThing cX11_lostThing 3 (some .int) :: l_z_X11_lostThing) (gm_c (gm_at lwV_72_in 0 rfl) (gm_c (gm_at lwV_55_in 7 rfl) (gm_c (gm_at lwV_55_in 8 rfl) (gm_c (gm_at lwV_0_in 3 rfl) (gm_c (gm_at lwV_55_in 0 rfl) (gm_c (gm_at lwV_72_in 1 rfl) (gm_c (gm_at lwV_55_in 9 rfl) gm_nil))))))) (by decide +kernel)) (goodIn_app (goodIn_in il_X11 gd_X11) (goodIn_in il_X5 gd_X5)))
set_option maxRecDepth 20000 in
theorem g_lk_34_z_X12_lostThing_260 : GoodIn lwW (wsV RL 260 RX12 yX12_lostThing w_z_X12_lostThing) := goodIn_app (goodIn_sub (ws := ([.methodLink RL 260 yX12_lostThing, .instanceMethod yX12_lostThing, .selects RX12 yX12_lostThing yX12_lostThing, .initialized RX12] : List Cond)) (gm_c (gm_at lwV_71_in 9 rfl) (gm_c (gm_at lwV_71_in 10 rfl) (gm_c (gm_at lwV_71_in 11 rfl) (gm_c (gm_at lwV_0_in 7 rfl) gm_nil)))) (by decide +kernel)) (goodIn_ca (goodIn_sub (ws := .code yX12_lostThing cX12_lostThing 3 (some .int) :: l_z_X12_lostThing) (gm_c (gm_at lwV_72_in 2 rfl) (gm_c (gm_at lwV_1_in 5 rfl) (gm_c (gm_at lwV_57_in 0 rfl) (gm_c (gm_at lwV_57_in 1 rfl) (gm_c (gm_at lwV_57_in 2 rfl) (gm_c (gm_at lwV_0_in 7 rfl) (gm_c (gm_at lwV_58_in 2 rfl) (gm_c (gm_at lwV_57_in 10 rfl) gm_nil)))))))) (by decide +kernel)) (goodIn_in il_X12 gd_X12))
set_option maxHeartbeats 4000000 in
set_option maxRecDepth 100000 in
/-- the law, one call: lostThing -/
theorem lk_34 {p : Program} {l : Launch} {e : Env} {s : State} {m : MethodId} {below : List Frame} {meth : Method} {c : Code} {b : Nat} {xs : Nat → Int32} (hst : l.stackTraces = false) (C0 : lw_At p s m meth c b 6 xs) {A : Nat → Prop} (hA : ∀ q : Nat, s.heap.size ≤ q → A q) (hAf : ∀ q : Nat, A q → s.heap.size ≤ q) (hZ : Zz A s) (hY : Yy s) (dC : Nat → ClassId) (dI : Nat → Nat → Nat) (aX : Nat) (fsX : List Value) (qP : Nat) (gP : Nat → Option Nat) (kP : ClassId) (ap : Nat) (fsp : List Value) (aZ : Nat) (fsZ : List Value) (q_lostMany : Nat) (f_lostMany : Nat → Int32) (k_lostMany : ClassId) (qO : Nat) (w1 : Int32) (hw1 : w1 = xs (1 : Int32).toNatClampNeg) (w2 : Int32) (hw2 : w2 = xs (2 : Int32).toNatClampNeg) (w3 : Int32) (hw3 : w3 = xs (3 : Int32).toNatClampNeg) (w4 : Int32) (hw4 : w4 = xs (4 : Int32).toNatClampNeg) (w5 : Int32) (hw5 : w5 = xs (5 : Int32).toNatClampNeg) (k_fsX : fh fsX 18 [(4, .ref qP)]) (k_fsp : fh fsp 21 [(16, .int 0)]) (k_fsZ : fh fsZ 150 [(62, .ref q_lostMany)]) (hg : gP w1.toNatClampNeg = some ap) (hz_f_lostMany : ∀ j, f_lostMany j = 0) {H : Heap} {locs : List Loc} (hK : va_K (dC, dI) vwCl [(kP, .object "HeapWorks$Picture"), (k_lostMany, .int)] s) (hP : va_P (dC, dI) vwCl [(aX, .inr (14, fsX)), (qP, .inl (kP, 4, .inr (.inr (.inr (.inr gP))))), (ap, .inr (8, fsp)), (aZ, .inr (15, fsZ)), (q_lostMany, .inl (k_lostMany, 5, .inl f_lostMany))] H) (hD : va_D A [(aX, .inr (14, fsX)), (qP, .inl (kP, 4, .inr (.inr (.inr (.inr gP))))), (ap, .inr (8, fsp)), (aZ, .inr (15, fsZ)), (q_lostMany, .inl (k_lostMany, 5, .inl f_lostMany))]) (hS : va_S A s.heap H locs) (ls : Array Slot) (hl : lv_has ls 8 [(0, .ref b), (1, .ref aX), (2, .ref aZ), (3, .ref qO), (4, .int 0)]) : W p l e room_1 s m #[Value.ref b] below meth c H locs 390 571359 (lw_Z below #[Value.ref b] s) (F0 m 2243 ls []) := by
  obtain ⟨hx, hb, hr, hml, hown0, hts0, hX, hbl, hlocks, hgv⟩ := id C0
  have hown : s.vm.findClass RL = some m.cls := hown0
  have hts : ∀ w ∈ lwW, w.before #[Value.ref b] s = true := fun w h => hts0 w (lwW_in w h)
  have hbA : ¬ A b := fun h => absurd (hAf b h) (Nat.not_le.mpr hbl)
  have o_fsX := ow_0 k_fsX
  have o_fsp := ow_0 k_fsp
  have o_fsZ := ow_0 k_fsZ
  refine lv_aload_n hx hb dL_law_2243 rfl (lv_at hl 1 rfl) ?_
  refine lv_aload_n hx hb dL_law_2244 rfl (lv_at hl 0 rfl) ?_
  refine lv_iload hx hb dL_law_2245 (lv_at hl 4 rfl) ?_
  refine lv_iconst (v := 1) hx hb dL_law_2247 (by decide) ?_
  refine lv_iadd hx hb dL_law_2248  ?_
  refine lv_topi (fun x101 ex101 => ?_)
  obtain rfl : x101 = 1 := ex101.trans (by decide)
  refine va_sld hx hb hX hbl hbA hS (show vp_in 1 6 from by unfold vp_in; decide) dL_law_2249 ?_
  refine lv_topi (fun x102 ex102 => ?_)
  obtain rfl : w1 = x102 := hw1.trans ex102.symm
  refine lv_aload_n hx hb dL_law_2250 rfl (lv_at hl 0 rfl) ?_
  refine lv_iload hx hb dL_law_2251 (lv_at hl 4 rfl) ?_
  refine lv_iconst (v := 2) hx hb dL_law_2253 (by decide) ?_
  refine lv_iadd hx hb dL_law_2254  ?_
  refine lv_topi (fun x103 ex103 => ?_)
  obtain rfl : x103 = 2 := ex103.trans (by decide)
  refine va_sld hx hb hX hbl hbA hS (show vp_in 2 6 from by unfold vp_in; decide) dL_law_2255 ?_
  refine lv_topi (fun x104 ex104 => ?_)
  obtain rfl : w2 = x104 := hw2.trans ex104.symm
  have hPc := hP.sub (ws' := [(aX, .inr (14, fsX)), (qP, .inl (kP, 4, .inr (.inr (.inr (.inr gP))))), (ap, .inr (8, fsp))]) [0, 1, 2] rfl
  have hDc := hD.sub (ws' := [(aX, .inr (14, fsX)), (qP, .inl (kP, 4, .inr (.inr (.inr (.inr gP))))), (ap, .inr (8, fsp))]) [0, 1, 2] (by decide) rfl
  have hKc := hK.sub (tys' := [(kP, .object "HeapWorks$Picture")]) [0] rfl
  have hFc := va_free (wc := [(aX, .inr (14, fsX)), (qP, .inl (kP, 4, .inr (.inr (.inr (.inr gP))))), (ap, .inr (8, fsp))]) hD hS hA [0, 1, 2] rfl
  refine va_calli (va_runV (As := [.int w1, .int w2]) (rest := []) ⟨hx, hb, hml, hown, hts⟩ (z_X11_lostThing l dC dI H.size aX fsX qP gP kP ap fsp w1 w2 (fh_sub o_fsX.2 [0] rfl) (fh_sub o_fsp.2 [0] rfl) hg) (cwV 2 hts g_lk_34_z_X11_lostThing_257 rfl rfl rfl (by decide +kernel) ⟨Nat.le_of_ble_eq_true rfl, Nat.le_of_ble_eq_true rfl⟩) ⟨fun a U g mk q => by obtain ⟨q0, q1, qP, qK, qD⟩ := q; exact ⟨q0, q1, qP, va_K.moved (u := U) (U := U.calling g mk a) (Vm.Alike.refl U.vm) qK, qD⟩, va_recv hK hP (ci := 14) (q0 := 0) rfl rfl, fun U hU hW => ⟨rfl, by rw [hU], by rw [hU]; exact hPc, va_K.moved hW.alike hKc, hDc.weaken (fun _ _ _ _ => trivial)⟩⟩ rfl rfl hl.1 rfl (lv_room (Nat.le_of_ble_eq_true rfl)) dL_law_2256 ⟨Nat.le_of_ble_eq_true rfl, Nat.le_of_ble_eq_true rfl⟩) hS (fun q _ h => hFc q h) hFc (fun r105 u t H1 locs ht hvm hw hB hz1 hk1 hS => ?_)
  obtain ⟨hP1, hK1, hD1⟩ := hB
  rw [ht] at hP1
  try dsimp only at hw
  obtain ⟨hP, hD⟩ := va_join (wr := [(aZ, .inr (15, fsZ)), (q_lostMany, .inl (k_lostMany, 5, .inl f_lostMany))]) (w1 := [(aX, .inr (14, fsX)), (qP, .inl (kP, 4, .inr (.inr (.inr (.inr gP))))), (ap, .inr (8, fsp))]) hP hD [0, 1, 2] [3, 4] rfl rfl (by decide) (by decide) hk1 hFc hP1 hD1
  have hK := hK.sub (tys' := [(k_lostMany, .int), (kP, .object "HeapWorks$Picture")]) [1, 0] rfl
  generalize H1 = H at hP hS ⊢
  have hP : va_P (dC, dI) vwCl [(aZ, .inr (15, fsZ)), (q_lostMany, .inl (k_lostMany, 5, .inl f_lostMany)), (aX, .inr (14, fsX)), (qP, .inl (kP, 4, .inr (.inr (.inr (.inr gP))))), (ap, .inr (8, fsp))] H := hP
  have hD : va_D A [(aZ, .inr (15, fsZ)), (q_lostMany, .inl (k_lostMany, 5, .inl f_lostMany)), (aX, .inr (14, fsX)), (qP, .inl (kP, 4, .inr (.inr (.inr (.inr gP))))), (ap, .inr (8, fsp))] := hD
  rcases hw with ⟨c106, er107⟩ | ⟨c108, c109, er110⟩ | ⟨c111, c112, c113, er114⟩ | ⟨c115, c116, c117, c118, er119⟩
  · skip
    subst er107
    refine lv_aload_n hx hb dL_law_2259 rfl (lv_at hl 2 rfl) ?_
    refine lv_aload_n hx hb dL_law_2260 rfl (lv_at hl 0 rfl) ?_
    refine lv_iload hx hb dL_law_2261 (lv_at hl 4 rfl) ?_
    refine lv_iconst (v := 1) hx hb dL_law_2263 (by decide) ?_
    refine lv_iadd hx hb dL_law_2264  ?_
    refine lv_topi (fun x120 ex120 => ?_)
    obtain rfl : x120 = 1 := ex120.trans (by decide)
    refine va_sld hx hb hX hbl hbA hS (show vp_in 1 6 from by unfold vp_in; decide) dL_law_2265 ?_
    refine lv_topi (fun x121 ex121 => ?_)
    obtain rfl : w1 = x121 := hw1.trans ex121.symm
    refine lv_aload_n hx hb dL_law_2266 rfl (lv_at hl 0 rfl) ?_
    refine lv_iload hx hb dL_law_2267 (lv_at hl 4 rfl) ?_
    refine lv_iconst (v := 2) hx hb dL_law_2269 (by decide) ?_
    refine lv_iadd hx hb dL_law_2270  ?_
    refine lv_topi (fun x122 ex122 => ?_)
    obtain rfl : x122 = 2 := ex122.trans (by decide)
    refine va_sld hx hb hX hbl hbA hS (show vp_in 2 6 from by unfold vp_in; decide) dL_law_2271 ?_
    refine lv_topi (fun x123 ex123 => ?_)
    obtain rfl : w2 = x123 := hw2.trans ex123.symm
    have hPc := hP.sub (ws' := [(aZ, .inr (15, fsZ)), (q_lostMany, .inl (k_lostMany, 5, .inl f_lostMany))]) [0, 1] rfl
    have hDc := hD.sub (ws' := [(aZ, .inr (15, fsZ)), (q_lostMany, .inl (k_lostMany, 5, .inl f_lostMany))]) [0, 1] (by decide) rfl
    have hKc := hK.sub (tys' := [(k_lostMany, .int)]) [0] rfl
    have hFc := va_free (wc := [(aZ, .inr (15, fsZ)), (q_lostMany, .inl (k_lostMany, 5, .inl f_lostMany))]) hD hS hA [0, 1] rfl
    refine va_calli (va_runV (As := [.int w1, .int w2]) (rest := [.int (-1)]) ⟨hx, hb, hml, hown, hts⟩ (z_X12_lostThing l dC dI H.size aZ fsZ q_lostMany f_lostMany k_lostMany w1 w2 (fh_sub o_fsZ.2 [0] rfl) hz_f_lostMany) (cwV 2 hts g_lk_34_z_X12_lostThing_260 rfl rfl rfl (by decide +kernel) ⟨Nat.le_of_ble_eq_true rfl, Nat.le_of_ble_eq_true rfl⟩) ⟨fun a U g mk q => by obtain ⟨q0, q1, qP, qK, qD⟩ := q; exact ⟨q0, q1, qP, va_K.moved (u := U) (U := U.calling g mk a) (Vm.Alike.refl U.vm) qK, qD⟩, va_recv hK hP (ci := 15) (q0 := 0) rfl rfl, fun U hU hW => ⟨rfl, by rw [hU], by rw [hU]; exact hPc, va_K.moved hW.alike hKc, hDc.weaken (fun _ _ _ _ => trivial)⟩⟩ rfl rfl hl.1 rfl (lv_room (Nat.le_of_ble_eq_true rfl)) dL_law_2272 ⟨Nat.le_of_ble_eq_true rfl, Nat.le_of_ble_eq_true rfl⟩) hS (fun q _ h => hFc q h) hFc (fun r124 u t H1 locs ht hvm hw hB hz1 hk1 hS => ?_)
    obtain ⟨s125, rfl⟩ : ∃ z, z = u := ⟨_, rfl⟩
    obtain ⟨hP1, hK1, hD1⟩ := hB
    rw [ht] at hP1
    try dsimp only at hw
    obtain ⟨hP, hD⟩ := va_join (wr := [(aX, .inr (14, fsX)), (qP, .inl (kP, 4, .inr (.inr (.inr (.inr gP))))), (ap, .inr (8, fsp))]) (w1 := [(aZ, .inr (15, s125)), (q_lostMany, .inl (k_lostMany, 5, .inl f_lostMany))]) hP hD [0, 1] [2, 3, 4] rfl rfl (by decide) (by decide) hk1 hFc hP1 hD1
    have hK := hK.sub (tys' := [(kP, .object "HeapWorks$Picture"), (k_lostMany, .int)]) [1, 0] rfl
    generalize H1 = H at hP hS ⊢
    have hP : va_P (dC, dI) vwCl [(aX, .inr (14, fsX)), (qP, .inl (kP, 4, .inr (.inr (.inr (.inr gP))))), (ap, .inr (8, fsp)), (aZ, .inr (15, s125)), (q_lostMany, .inl (k_lostMany, 5, .inl f_lostMany))] H := hP
    have hD : va_D A [(aX, .inr (14, fsX)), (qP, .inl (kP, 4, .inr (.inr (.inr (.inr gP))))), (ap, .inr (8, fsp)), (aZ, .inr (15, s125)), (q_lostMany, .inl (k_lostMany, 5, .inl f_lostMany))] := hD
    rcases hw with ⟨c126, er127, o_s125⟩ | ⟨c128, c129, er130, o_s125⟩ | ⟨c131, c132, c133, er134, o_s125⟩ | ⟨c135, c136, c137, c138, er139, o_s125⟩
    · skip
      subst er127
      have o_s125 := ow_on o_fsZ o_s125 (l' := [(0, .int 0), (62, .ref q_lostMany), (62, .ref q_lostMany)]) (w' := [0]) rfl rfl
      refine lv_icmp_eq (tgt := 3111) hx hb dL_law_2275 (by decide) (fun c140 => ?_) (fun c140 => absurd c140 (by decide))
      exact lw_end hst C0 hA hAf hZ hY (Nat.le_of_ble_eq_true rfl) (Nat.le_of_ble_eq_true rfl) dC dI P0k P0 D0 hS ls (lv_sub hl [0, 4] rfl)
    · exact (by exfalso; (try simp only [i_lt, i_le, i_eq, kc_0, kc_4] at c106 c128 c129); omega)
    · exact (by exfalso; (try simp only [i_lt, i_le, i_eq, kc_0, kc_4] at c106 c131 c132); omega)
    · exact (by exfalso; (try simp only [i_lt, i_le, i_eq, kc_0, kc_4] at c106 c135 c136); omega)
  · skip
    subst er110
    refine lv_aload_n hx hb dL_law_2259 rfl (lv_at hl 2 rfl) ?_
    refine lv_aload_n hx hb dL_law_2260 rfl (lv_at hl 0 rfl) ?_
    refine lv_iload hx hb dL_law_2261 (lv_at hl 4 rfl) ?_
    refine lv_iconst (v := 1) hx hb dL_law_2263 (by decide) ?_
    refine lv_iadd hx hb dL_law_2264  ?_
    refine lv_topi (fun x141 ex141 => ?_)
    obtain rfl : x141 = 1 := ex141.trans (by decide)
    refine va_sld hx hb hX hbl hbA hS (show vp_in 1 6 from by unfold vp_in; decide) dL_law_2265 ?_
    refine lv_topi (fun x142 ex142 => ?_)
    obtain rfl : w1 = x142 := hw1.trans ex142.symm
    refine lv_aload_n hx hb dL_law_2266 rfl (lv_at hl 0 rfl) ?_
    refine lv_iload hx hb dL_law_2267 (lv_at hl 4 rfl) ?_
    refine lv_iconst (v := 2) hx hb dL_law_2269 (by decide) ?_
    refine lv_iadd hx hb dL_law_2270  ?_
    refine lv_topi (fun x143 ex143 => ?_)
    obtain rfl : x143 = 2 := ex143.trans (by decide)
    refine va_sld hx hb hX hbl hbA hS (show vp_in 2 6 from by unfold vp_in; decide) dL_law_2271 ?_
    refine lv_topi (fun x144 ex144 => ?_)
    obtain rfl : w2 = x144 := hw2.trans ex144.symm
    have hPc := hP.sub (ws' := [(aZ, .inr (15, fsZ)), (q_lostMany, .inl (k_lostMany, 5, .inl f_lostMany))]) [0, 1] rfl
    have hDc := hD.sub (ws' := [(aZ, .inr (15, fsZ)), (q_lostMany, .inl (k_lostMany, 5, .inl f_lostMany))]) [0, 1] (by decide) rfl
    have hKc := hK.sub (tys' := [(k_lostMany, .int)]) [0] rfl
    have hFc := va_free (wc := [(aZ, .inr (15, fsZ)), (q_lostMany, .inl (k_lostMany, 5, .inl f_lostMany))]) hD hS hA [0, 1] rfl
    refine va_calli (va_runV (As := [.int w1, .int w2]) (rest := [.int (-1)]) ⟨hx, hb, hml, hown, hts⟩ (z_X12_lostThing l dC dI H.size aZ fsZ q_lostMany f_lostMany k_lostMany w1 w2 (fh_sub o_fsZ.2 [0] rfl) hz_f_lostMany) (cwV 2 hts g_lk_34_z_X12_lostThing_260 rfl rfl rfl (by decide +kernel) ⟨Nat.le_of_ble_eq_true rfl, Nat.le_of_ble_eq_true rfl⟩) ⟨fun a U g mk q => by obtain ⟨q0, q1, qP, qK, qD⟩ := q; exact ⟨q0, q1, qP, va_K.moved (u := U) (U := U.calling g mk a) (Vm.Alike.refl U.vm) qK, qD⟩, va_recv hK hP (ci := 15) (q0 := 0) rfl rfl, fun U hU hW => ⟨rfl, by rw [hU], by rw [hU]; exact hPc, va_K.moved hW.alike hKc, hDc.weaken (fun _ _ _ _ => trivial)⟩⟩ rfl rfl hl.1 rfl (lv_room (Nat.le_of_ble_eq_true rfl)) dL_law_2272 ⟨Nat.le_of_ble_eq_true rfl, Nat.le_of_ble_eq_true rfl⟩) hS (fun q _ h => hFc q h) hFc (fun r145 u t H1 locs ht hvm hw hB hz1 hk1 hS => ?_)
    obtain ⟨s146, rfl⟩ : ∃ z, z = u := ⟨_, rfl⟩
    obtain ⟨hP1, hK1, hD1⟩ := hB
    rw [ht] at hP1
    try dsimp only at hw
    obtain ⟨hP, hD⟩ := va_join (wr := [(aX, .inr (14, fsX)), (qP, .inl (kP, 4, .inr (.inr (.inr (.inr gP))))), (ap, .inr (8, fsp))]) (w1 := [(aZ, .inr (15, s146)), (q_lostMany, .inl (k_lostMany, 5, .inl f_lostMany))]) hP hD [0, 1] [2, 3, 4] rfl rfl (by decide) (by decide) hk1 hFc hP1 hD1
    have hK := hK.sub (tys' := [(kP, .object "HeapWorks$Picture"), (k_lostMany, .int)]) [1, 0] rfl
    generalize H1 = H at hP hS ⊢
    have hP : va_P (dC, dI) vwCl [(aX, .inr (14, fsX)), (qP, .inl (kP, 4, .inr (.inr (.inr (.inr gP))))), (ap, .inr (8, fsp)), (aZ, .inr (15, s146)), (q_lostMany, .inl (k_lostMany, 5, .inl f_lostMany))] H := hP
    have hD : va_D A [(aX, .inr (14, fsX)), (qP, .inl (kP, 4, .inr (.inr (.inr (.inr gP))))), (ap, .inr (8, fsp)), (aZ, .inr (15, s146)), (q_lostMany, .inl (k_lostMany, 5, .inl f_lostMany))] := hD
    rcases hw with ⟨c147, er148, o_s146⟩ | ⟨c149, c150, er151, o_s146⟩ | ⟨c152, c153, c154, er155, o_s146⟩ | ⟨c156, c157, c158, c159, er160, o_s146⟩
    · exact (by exfalso; (try simp only [i_lt, i_le, i_eq, kc_0, kc_4] at c108 c109 c147); omega)
    · skip
      subst er151
      have o_s146 := ow_on o_fsZ o_s146 (l' := [(0, .int 0), (62, .ref q_lostMany), (62, .ref q_lostMany)]) (w' := [0]) rfl rfl
      refine lv_icmp_eq (tgt := 3111) hx hb dL_law_2275 (by decide) (fun c161 => ?_) (fun c161 => absurd c161 (by decide))
      exact lw_end hst C0 hA hAf hZ hY (Nat.le_of_ble_eq_true rfl) (Nat.le_of_ble_eq_true rfl) dC dI P0k P0 D0 hS ls (lv_sub hl [0, 4] rfl)
    · exact (by exfalso; (try simp only [i_lt, i_le, i_eq, kc_0, kc_4] at c108 c109 c152 c153); omega)
    · exact (by exfalso; (try simp only [i_lt, i_le, i_eq, kc_0, kc_4] at c108 c109 c156 c157); omega)
  · skip
    subst er114
    refine lv_aload_n hx hb dL_law_2259 rfl (lv_at hl 2 rfl) ?_
    refine lv_aload_n hx hb dL_law_2260 rfl (lv_at hl 0 rfl) ?_
    refine lv_iload hx hb dL_law_2261 (lv_at hl 4 rfl) ?_
    refine lv_iconst (v := 1) hx hb dL_law_2263 (by decide) ?_
    refine lv_iadd hx hb dL_law_2264  ?_
    refine lv_topi (fun x162 ex162 => ?_)
    obtain rfl : x162 = 1 := ex162.trans (by decide)
    refine va_sld hx hb hX hbl hbA hS (show vp_in 1 6 from by unfold vp_in; decide) dL_law_2265 ?_
    refine lv_topi (fun x163 ex163 => ?_)
    obtain rfl : w1 = x163 := hw1.trans ex163.symm
    refine lv_aload_n hx hb dL_law_2266 rfl (lv_at hl 0 rfl) ?_
    refine lv_iload hx hb dL_law_2267 (lv_at hl 4 rfl) ?_
    refine lv_iconst (v := 2) hx hb dL_law_2269 (by decide) ?_
    refine lv_iadd hx hb dL_law_2270  ?_
    refine lv_topi (fun x164 ex164 => ?_)
    obtain rfl : x164 = 2 := ex164.trans (by decide)
    refine va_sld hx hb hX hbl hbA hS (show vp_in 2 6 from by unfold vp_in; decide) dL_law_2271 ?_
    refine lv_topi (fun x165 ex165 => ?_)
    obtain rfl : w2 = x165 := hw2.trans ex165.symm
    have hPc := hP.sub (ws' := [(aZ, .inr (15, fsZ)), (q_lostMany, .inl (k_lostMany, 5, .inl f_lostMany))]) [0, 1] rfl
    have hDc := hD.sub (ws' := [(aZ, .inr (15, fsZ)), (q_lostMany, .inl (k_lostMany, 5, .inl f_lostMany))]) [0, 1] (by decide) rfl
    have hKc := hK.sub (tys' := [(k_lostMany, .int)]) [0] rfl
    have hFc := va_free (wc := [(aZ, .inr (15, fsZ)), (q_lostMany, .inl (k_lostMany, 5, .inl f_lostMany))]) hD hS hA [0, 1] rfl
    refine va_calli (va_runV (As := [.int w1, .int w2]) (rest := [.int (-1)]) ⟨hx, hb, hml, hown, hts⟩ (z_X12_lostThing l dC dI H.size aZ fsZ q_lostMany f_lostMany k_lostMany w1 w2 (fh_sub o_fsZ.2 [0] rfl) hz_f_lostMany) (cwV 2 hts g_lk_34_z_X12_lostThing_260 rfl rfl rfl (by decide +kernel) ⟨Nat.le_of_ble_eq_true rfl, Nat.le_of_ble_eq_true rfl⟩) ⟨fun a U g mk q => by obtain ⟨q0, q1, qP, qK, qD⟩ := q; exact ⟨q0, q1, qP, va_K.moved (u := U) (U := U.calling g mk a) (Vm.Alike.refl U.vm) qK, qD⟩, va_recv hK hP (ci := 15) (q0 := 0) rfl rfl, fun U hU hW => ⟨rfl, by rw [hU], by rw [hU]; exact hPc, va_K.moved hW.alike hKc, hDc.weaken (fun _ _ _ _ => trivial)⟩⟩ rfl rfl hl.1 rfl (lv_room (Nat.le_of_ble_eq_true rfl)) dL_law_2272 ⟨Nat.le_of_ble_eq_true rfl, Nat.le_of_ble_eq_true rfl⟩) hS (fun q _ h => hFc q h) hFc (fun r166 u t H1 locs ht hvm hw hB hz1 hk1 hS => ?_)
    obtain ⟨s167, rfl⟩ : ∃ z, z = u := ⟨_, rfl⟩
    obtain ⟨hP1, hK1, hD1⟩ := hB
    rw [ht] at hP1
    try dsimp only at hw
    obtain ⟨hP, hD⟩ := va_join (wr := [(aX, .inr (14, fsX)), (qP, .inl (kP, 4, .inr (.inr (.inr (.inr gP))))), (ap, .inr (8, fsp))]) (w1 := [(aZ, .inr (15, s167)), (q_lostMany, .inl (k_lostMany, 5, .inl f_lostMany))]) hP hD [0, 1] [2, 3, 4] rfl rfl (by decide) (by decide) hk1 hFc hP1 hD1
    have hK := hK.sub (tys' := [(kP, .object "HeapWorks$Picture"), (k_lostMany, .int)]) [1, 0] rfl
    generalize H1 = H at hP hS ⊢
    have hP : va_P (dC, dI) vwCl [(aX, .inr (14, fsX)), (qP, .inl (kP, 4, .inr (.inr (.inr (.inr gP))))), (ap, .inr (8, fsp)), (aZ, .inr (15, s167)), (q_lostMany, .inl (k_lostMany, 5, .inl f_lostMany))] H := hP
    have hD : va_D A [(aX, .inr (14, fsX)), (qP, .inl (kP, 4, .inr (.inr (.inr (.inr gP))))), (ap, .inr (8, fsp)), (aZ, .inr (15, s167)), (q_lostMany, .inl (k_lostMany, 5, .inl f_lostMany))] := hD
    rcases hw with ⟨c168, er169, o_s167⟩ | ⟨c170, c171, er172, o_s167⟩ | ⟨c173, c174, c175, er176, o_s167⟩ | ⟨c177, c178, c179, c180, er181, o_s167⟩
    · exact (by exfalso; (try simp only [i_lt, i_le, i_eq, kc_0, kc_4] at c111 c112 c168); omega)
    · exact (by exfalso; (try simp only [i_lt, i_le, i_eq, kc_0, kc_4] at c111 c112 c170 c171); omega)
    · skip
      subst er176
      have o_s167 := ow_on o_fsZ o_s167 (l' := [(0, .int 0), (62, .ref q_lostMany), (62, .ref q_lostMany)]) (w' := [0]) rfl rfl
      refine lv_icmp_eq (tgt := 3111) hx hb dL_law_2275 (by decide) (fun c182 => ?_) (fun c182 => absurd c182 (by decide))
      exact lw_end hst C0 hA hAf hZ hY (Nat.le_of_ble_eq_true rfl) (Nat.le_of_ble_eq_true rfl) dC dI P0k P0 D0 hS ls (lv_sub hl [0, 4] rfl)
    · exact (by exfalso; (try simp only [i_lt, i_le, i_eq, kc_0] at c113 c179 c180); omega)
  · skip
    subst er119
    refine lv_aload_n hx hb dL_law_2259 rfl (lv_at hl 2 rfl) ?_
    refine lv_aload_n hx hb dL_law_2260 rfl (lv_at hl 0 rfl) ?_
    refine lv_iload hx hb dL_law_2261 (lv_at hl 4 rfl) ?_
    refine lv_iconst (v := 1) hx hb dL_law_2263 (by decide) ?_
    refine lv_iadd hx hb dL_law_2264  ?_
    refine lv_topi (fun x183 ex183 => ?_)
    obtain rfl : x183 = 1 := ex183.trans (by decide)
    refine va_sld hx hb hX hbl hbA hS (show vp_in 1 6 from by unfold vp_in; decide) dL_law_2265 ?_
    refine lv_topi (fun x184 ex184 => ?_)
    obtain rfl : w1 = x184 := hw1.trans ex184.symm
    refine lv_aload_n hx hb dL_law_2266 rfl (lv_at hl 0 rfl) ?_
    refine lv_iload hx hb dL_law_2267 (lv_at hl 4 rfl) ?_
    refine lv_iconst (v := 2) hx hb dL_law_2269 (by decide) ?_
    refine lv_iadd hx hb dL_law_2270  ?_
    refine lv_topi (fun x185 ex185 => ?_)
    obtain rfl : x185 = 2 := ex185.trans (by decide)
    refine va_sld hx hb hX hbl hbA hS (show vp_in 2 6 from by unfold vp_in; decide) dL_law_2271 ?_
    refine lv_topi (fun x186 ex186 => ?_)
    obtain rfl : w2 = x186 := hw2.trans ex186.symm
    have hPc := hP.sub (ws' := [(aZ, .inr (15, fsZ)), (q_lostMany, .inl (k_lostMany, 5, .inl f_lostMany))]) [0, 1] rfl
    have hDc := hD.sub (ws' := [(aZ, .inr (15, fsZ)), (q_lostMany, .inl (k_lostMany, 5, .inl f_lostMany))]) [0, 1] (by decide) rfl
    have hKc := hK.sub (tys' := [(k_lostMany, .int)]) [0] rfl
    have hFc := va_free (wc := [(aZ, .inr (15, fsZ)), (q_lostMany, .inl (k_lostMany, 5, .inl f_lostMany))]) hD hS hA [0, 1] rfl
    refine va_calli (va_runV (As := [.int w1, .int w2]) (rest := [.int (-1)]) ⟨hx, hb, hml, hown, hts⟩ (z_X12_lostThing l dC dI H.size aZ fsZ q_lostMany f_lostMany k_lostMany w1 w2 (fh_sub o_fsZ.2 [0] rfl) hz_f_lostMany) (cwV 2 hts g_lk_34_z_X12_lostThing_260 rfl rfl rfl (by decide +kernel) ⟨Nat.le_of_ble_eq_true rfl, Nat.le_of_ble_eq_true rfl⟩) ⟨fun a U g mk q => by obtain ⟨q0, q1, qP, qK, qD⟩ := q; exact ⟨q0, q1, qP, va_K.moved (u := U) (U := U.calling g mk a) (Vm.Alike.refl U.vm) qK, qD⟩, va_recv hK hP (ci := 15) (q0 := 0) rfl rfl, fun U hU hW => ⟨rfl, by rw [hU], by rw [hU]; exact hPc, va_K.moved hW.alike hKc, hDc.weaken (fun _ _ _ _ => trivial)⟩⟩ rfl rfl hl.1 rfl (lv_room (Nat.le_of_ble_eq_true rfl)) dL_law_2272 ⟨Nat.le_of_ble_eq_true rfl, Nat.le_of_ble_eq_true rfl⟩) hS (fun q _ h => hFc q h) hFc (fun r187 u t H1 locs ht hvm hw hB hz1 hk1 hS => ?_)
    obtain ⟨s188, rfl⟩ : ∃ z, z = u := ⟨_, rfl⟩
    obtain ⟨hP1, hK1, hD1⟩ := hB
    rw [ht] at hP1
    try dsimp only at hw
    obtain ⟨hP, hD⟩ := va_join (wr := [(aX, .inr (14, fsX)), (qP, .inl (kP, 4, .inr (.inr (.inr (.inr gP))))), (ap, .inr (8, fsp))]) (w1 := [(aZ, .inr (15, s188)), (q_lostMany, .inl (k_lostMany, 5, .inl f_lostMany))]) hP hD [0, 1] [2, 3, 4] rfl rfl (by decide) (by decide) hk1 hFc hP1 hD1
    have hK := hK.sub (tys' := [(kP, .object "HeapWorks$Picture"), (k_lostMany, .int)]) [1, 0] rfl
    generalize H1 = H at hP hS ⊢
    have hP : va_P (dC, dI) vwCl [(aX, .inr (14, fsX)), (qP, .inl (kP, 4, .inr (.inr (.inr (.inr gP))))), (ap, .inr (8, fsp)), (aZ, .inr (15, s188)), (q_lostMany, .inl (k_lostMany, 5, .inl f_lostMany))] H := hP
    have hD : va_D A [(aX, .inr (14, fsX)), (qP, .inl (kP, 4, .inr (.inr (.inr (.inr gP))))), (ap, .inr (8, fsp)), (aZ, .inr (15, s188)), (q_lostMany, .inl (k_lostMany, 5, .inl f_lostMany))] := hD
    rcases hw with ⟨c189, er190, o_s188⟩ | ⟨c191, c192, er193, o_s188⟩ | ⟨c194, c195, c196, er197, o_s188⟩ | ⟨c198, c199, c200, c201, er202, o_s188⟩
    · exact (by exfalso; (try simp only [i_lt, i_le, i_eq, kc_0, kc_4] at c115 c116 c189); omega)
    · exact (by exfalso; (try simp only [i_lt, i_le, i_eq, kc_0, kc_4] at c115 c116 c191 c192); omega)
    · exact (by exfalso; (try simp only [i_lt, i_le, i_eq, kc_0] at c117 c118 c196); omega)
    · skip
      subst er202
      have o_s188 := ow_on o_fsZ o_s188 (l' := [(0, .int 0), (62, .ref q_lostMany), (62, .ref q_lostMany)]) (w' := [0]) rfl rfl
      refine lv_icmp_eq (tgt := 3111) hx hb dL_law_2275 (by decide) (fun c203 => ?_) (fun c203 => absurd c203 (by decide))
      exact lw_end hst C0 hA hAf hZ hY (Nat.le_of_ble_eq_true rfl) (Nat.le_of_ble_eq_true rfl) dC dI P0k P0 D0 hS ls (lv_sub hl [0, 4] rfl)

