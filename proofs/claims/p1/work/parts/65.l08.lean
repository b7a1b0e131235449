set_option maxRecDepth 20000 in
theorem g_lk_48_z_X11_reopen_304 : GoodIn lwW (wsV RL 304 RX11 yX11_reopen w_z_X11_reopen) := goodIn_app (goodIn_sub (ws := ([.methodLink RL 304 yX11_reopen, .instanceMethod yX11_reopen, .selects RX11 yX11_reopen yX11_reopen, .initialized RX11] : List Cond)) (gm_c (gm_at lwV_97_in 9 rfl) (gm_c (gm_at lwV_97_in 10 rfl) (gm_c (gm_at lwV_97_in 11 rfl) (gm_c (gm_at lwV_0_in 3 rfl) gm_nil)))) (by decide +kernel)) (goodIn_ca (goodIn_sub (ws := .code yX11_reopen cX11_reopen 2 (some .int) :: l_z_X11_reopen) (gm_c (gm_at lwV_98_in 3 rfl) (gm_c (gm_at lwV_87_in 10 rfl) (gm_c (gm_at lwV_93_in 0 rfl) (gm_c (gm_at lwV_98_in 4 rfl) (gm_c (gm_at lwV_98_in 5 rfl) (gm_c (gm_at lwV_98_in 6 rfl) (gm_c (gm_at lwV_88_in 2 rfl) (gm_c (gm_at lwV_98_in 7 rfl) (gm_c (gm_at lwV_97_in 0 rfl) (gm_c (gm_at lwV_89_in 5 rfl) (gm_c (gm_at lwV_82_in 1 rfl) (gm_c (gm_at lwV_82_in 2 rfl) (gm_c (gm_at lwV_82_in 3 rfl) (gm_c (gm_at lwV_98_in 8 rfl) (gm_c (gm_at lwV_98_in 9 rfl) (gm_c (gm_at lwV_98_in 10 rfl) (gm_c (gm_at lwV_97_in 3 rfl) (gm_c (gm_at lwV_98_in 11 rfl) (gm_c (gm_at lwV_99_in 0 rfl) (gm_c (gm_at lwV_99_in 1 rfl) (gm_c (gm_at lwV_99_in 2 rfl) gm_nil))))))))))))))))))))) (by decide +kernel)) (goodIn_app (goodIn_in il_X11 gd_X11) (goodIn_in il_X0 gd_X0)))
set_option maxRecDepth 20000 in
theorem g_lk_48_z_X12_reopen_307 : GoodIn lwW (wsV RL 307 RX12 yX12_reopen w_z_X12_reopen) := goodIn_app (goodIn_sub (ws := ([.methodLink RL 307 yX12_reopen, .instanceMethod yX12_reopen, .selects RX12 yX12_reopen yX12_reopen, .initialized RX12] : List Cond)) (gm_c (gm_at lwV_98_in 0 rfl) (gm_c (gm_at lwV_98_in 1 rfl) (gm_c (gm_at lwV_98_in 2 rfl) (gm_c (gm_at lwV_0_in 7 rfl) gm_nil)))) (by decide +kernel)) (goodIn_ca (goodIn_sub (ws := .code yX12_reopen cX12_reopen 5 (some .int) :: l_z_X12_reopen) (gm_c (gm_at lwV_99_in 3 rfl) (gm_c (gm_at lwV_1_in 5 rfl) (gm_c (gm_at lwV_97_in 5 rfl) (gm_c (gm_at lwV_97_in 7 rfl) gm_nil)))) (by decide +kernel)) (goodIn_in il_X12 gd_X12))
set_option maxHeartbeats 4000000 in
set_option maxRecDepth 100000 in
/-- the law, one call: reopen -/
theorem lk_48 {p : Program} {l : Launch} {e : Env} {s : State} {m : MethodId} {below : List Frame} {meth : Method} {c : Code} {b : Nat} {xs : Nat → Int32} (hst : l.stackTraces = false) (C0 : lw_At p s m meth c b 6 xs) {A : Nat → Prop} (hA : ∀ q : Nat, s.heap.size ≤ q → A q) (hAf : ∀ q : Nat, A q → s.heap.size ≤ q) (hZ : Zz A s) (hY : Yy s) (dC : Nat → ClassId) (dI : Nat → Nat → Nat) (aX : Nat) (fsX : List Value) (aA : Nat) (fsA : List Value) (aZ : Nat) (fsZ : List Value) (qO : Nat) (aSp : Nat) (w1 : Int32) (hw1 : w1 = xs (1 : Int32).toNatClampNeg) (w2 : Int32) (hw2 : w2 = xs (2 : Int32).toNatClampNeg) (w3 : Int32) (hw3 : w3 = xs (3 : Int32).toNatClampNeg) (w4 : Int32) (hw4 : w4 = xs (4 : Int32).toNatClampNeg) (w5 : Int32) (hw5 : w5 = xs (5 : Int32).toNatClampNeg) (k_fsX : fh fsX 18 [(5, .ref aSp), (13, .ref aA)]) (k_fsA : fh fsA 15 [(4, .int 0), (5, .int 0)]) (k_fsZ : fh fsZ 150 [(148, .int 0), (149, .int 0)])  {H : Heap} {locs : List Loc} (hK : va_K (dC, dI) vwCl [] s) (hP : va_P (dC, dI) vwCl [(aX, .inr (14, fsX)), (aA, .inr (3, fsA)), (aZ, .inr (15, fsZ))] H) (hD : va_D A [(aX, .inr (14, fsX)), (aA, .inr (3, fsA)), (aZ, .inr (15, fsZ))]) (hS : va_S A s.heap H locs) (ls : Array Slot) (hl : lv_has ls 8 [(0, .ref b), (1, .ref aX), (2, .ref aZ), (3, .ref qO), (4, .int 0)]) : W p l e room_1 s m #[Value.ref b] below meth c H locs 390 571359 (lw_Z below #[Value.ref b] s) (F0 m 2993 ls []) := by
  obtain ⟨hx, hb, hr, hml, hown0, hts0, hX, hbl, hlocks, hgv⟩ := id C0
  have hown : s.vm.findClass RL = some m.cls := hown0
  have hts : ∀ w ∈ lwW, w.before #[Value.ref b] s = true := fun w h => hts0 w (lwW_in w h)
  have hbA : ¬ A b := fun h => absurd (hAf b h) (Nat.not_le.mpr hbl)
  have o_fsX := ow_0 k_fsX
  have o_fsA := ow_0 k_fsA
  have o_fsZ := ow_0 k_fsZ
  refine lv_aload_n hx hb dL_law_2993 rfl (lv_at hl 1 rfl) ?_
  refine lv_aload_n hx hb dL_law_2994 rfl (lv_at hl 0 rfl) ?_
  refine lv_iload hx hb dL_law_2995 (lv_at hl 4 rfl) ?_
  refine lv_iconst (v := 1) hx hb dL_law_2997 (by decide) ?_
  refine lv_iadd hx hb dL_law_2998  ?_
  refine lv_topi (fun x101 ex101 => ?_)
  obtain rfl : x101 = 1 := ex101.trans (by decide)
  refine va_sld hx hb hX hbl hbA hS (show vp_in 1 6 from by unfold vp_in; decide) dL_law_2999 ?_
  refine lv_topi (fun x102 ex102 => ?_)
  obtain rfl : w1 = x102 := hw1.trans ex102.symm
  have hPc := hP.sub (ws' := [(aX, .inr (14, fsX)), (aA, .inr (3, fsA))]) [0, 1] rfl
  have hDc := hD.sub (ws' := [(aX, .inr (14, fsX)), (aA, .inr (3, fsA))]) [0, 1] (by decide) rfl
  have hKc := hK.sub (tys' := []) [] rfl
  have hFc := va_free (wc := [(aX, .inr (14, fsX)), (aA, .inr (3, fsA))]) hD hS hA [0, 1] rfl
  refine va_calli (va_runV (As := [.int w1]) (rest := []) ⟨hx, hb, hml, hown, hts⟩ (z_X11_reopen l dC dI H.size aX fsX aA fsA w1 aSp (fh_sub o_fsX.2 [0, 1] rfl) (fh_sub o_fsA.2 [0, 1] rfl) ) (cwV 1 hts g_lk_48_z_X11_reopen_304 rfl rfl rfl (by decide +kernel) ⟨Nat.le_of_ble_eq_true rfl, Nat.le_of_ble_eq_true rfl⟩) ⟨fun a U g mk q => by obtain ⟨q0, q1, qP, qK, qD⟩ := q; exact ⟨q0, q1, qP, va_K.moved (u := U) (U := U.calling g mk a) (Vm.Alike.refl U.vm) qK, qD⟩, va_recv hK hP (ci := 14) (q0 := 0) rfl rfl, fun U hU hW => ⟨rfl, by rw [hU], by rw [hU]; exact hPc, va_K.moved hW.alike hKc, hDc.weaken (fun _ _ _ _ => trivial)⟩⟩ rfl rfl hl.1 rfl (lv_room (Nat.le_of_ble_eq_true rfl)) dL_law_3000 ⟨Nat.le_of_ble_eq_true rfl, Nat.le_of_ble_eq_true rfl⟩) hS (fun q _ h => hFc q h) hFc (fun r103 u t H1 locs ht hvm hw hB hz1 hk1 hS => ?_)
  obtain ⟨s104, rfl⟩ : ∃ z, z = u := ⟨_, rfl⟩
  obtain ⟨hP1, hK1, hD1⟩ := hB
  rw [ht] at hP1
  try dsimp only at hw
  obtain ⟨hP, hD⟩ := va_join (wr := [(aZ, .inr (15, fsZ))]) (w1 := [(aX, .inr (14, fsX)), (aA, .inr (3, s104))]) hP hD [0, 1] [2] rfl rfl (by decide) (by decide) hk1 hFc hP1 hD1
  have hK := hK.sub (tys' := []) [] rfl
  generalize H1 = H at hP hS ⊢
  have hP : va_P (dC, dI) vwCl [(aZ, .inr (15, fsZ)), (aX, .inr (14, fsX)), (aA, .inr (3, s104))] H := hP
  have hD : va_D A [(aZ, .inr (15, fsZ)), (aX, .inr (14, fsX)), (aA, .inr (3, s104))] := hD
  obtain ⟨er105, o_s104⟩ := hw
  subst er105
  have o_s104 := ow_on o_fsA o_s104 (l' := [(4, .int 0), (5, .int 0)]) (w' := [4, 5]) rfl rfl
  refine lv_aload_n hx hb dL_law_3003 rfl (lv_at hl 2 rfl) ?_
  refine lv_aload_n hx hb dL_law_3004 rfl (lv_at hl 0 rfl) ?_
  refine lv_iload hx hb dL_law_3005 (lv_at hl 4 rfl) ?_
  refine lv_iconst (v := 1) hx hb dL_law_3007 (by decide) ?_
  refine lv_iadd hx hb dL_law_3008  ?_
  refine lv_topi (fun x106 ex106 => ?_)
  obtain rfl : x106 = 1 := ex106.trans (by decide)
  refine va_sld hx hb hX hbl hbA hS (show vp_in 1 6 from by unfold vp_in; decide) dL_law_3009 ?_
  refine lv_topi (fun x107 ex107 => ?_)
  obtain rfl : w1 = x107 := hw1.trans ex107.symm
  have hPc := hP.sub (ws' := [(aZ, .inr (15, fsZ))]) [0] rfl
  have hDc := hD.sub (ws' := [(aZ, .inr (15, fsZ))]) [0] (by decide) rfl
  have hKc := hK.sub (tys' := []) [] rfl
  have hFc := va_free (wc := [(aZ, .inr (15, fsZ))]) hD hS hA [0] rfl
  refine va_calli (va_runV (As := [.int w1]) (rest := [.int 0]) ⟨hx, hb, hml, hown, hts⟩ (z_X12_reopen l dC dI H.size aZ fsZ w1 (fh_sub o_fsZ.2 [0, 1] rfl) ) (cwV 1 hts g_lk_48_z_X12_reopen_307 rfl rfl rfl (by decide +kernel) ⟨Nat.le_of_ble_eq_true rfl, Nat.le_of_ble_eq_true rfl⟩) ⟨fun a U g mk q => by obtain ⟨q0, q1, qP, qK, qD⟩ := q; exact ⟨q0, q1, qP, va_K.moved (u := U) (U := U.calling g mk a) (Vm.Alike.refl U.vm) qK, qD⟩, va_recv hK hP (ci := 15) (q0 := 0) rfl rfl, fun U hU hW => ⟨rfl, by rw [hU], by rw [hU]; exact hPc, va_K.moved hW.alike hKc, hDc.weaken (fun _ _ _ _ => trivial)⟩⟩ rfl rfl hl.1 rfl (lv_room (Nat.le_of_ble_eq_true rfl)) dL_law_3010 ⟨Nat.le_of_ble_eq_true rfl, Nat.le_of_ble_eq_true rfl⟩) hS (fun q _ h => hFc q h) hFc (fun r108 u t H1 locs ht hvm hw hB hz1 hk1 hS => ?_)
  obtain ⟨s109, rfl⟩ : ∃ z, z = u := ⟨_, rfl⟩
  obtain ⟨hP1, hK1, hD1⟩ := hB
  rw [ht] at hP1
  try dsimp only at hw
  obtain ⟨hP, hD⟩ := va_join (wr := [(aX, .inr (14, fsX)), (aA, .inr (3, s104))]) (w1 := [(aZ, .inr (15, s109))]) hP hD [0] [1, 2] rfl rfl (by decide) (by decide) hk1 hFc hP1 hD1
  have hK := hK.sub (tys' := []) [] rfl
  generalize H1 = H at hP hS ⊢
  have hP : va_P (dC, dI) vwCl [(aX, .inr (14, fsX)), (aA, .inr (3, s104)), (aZ, .inr (15, s109))] H := hP
  have hD : va_D A [(aX, .inr (14, fsX)), (aA, .inr (3, s104)), (aZ, .inr (15, s109))] := hD
  rcases hw with ⟨c110, c111, er112, o_s109⟩ | ⟨c113, er114, o_s109⟩
  · skip
    subst er112
    have o_s109 := ow_on o_fsZ o_s109 (l' := [(148, .int 0), (149, .int 0), (0, .int 0)]) (w' := [148, 149, 0]) rfl rfl
    refine lv_icmp_eq (tgt := 3111) hx hb dL_law_3013 (by decide) (fun c115 => ?_) (fun c115 => absurd c115 (by decide))
    exact lw_end hst C0 hA hAf hZ hY (Nat.le_of_ble_eq_true rfl) (Nat.le_of_ble_eq_true rfl) dC dI P0k P0 D0 hS ls (lv_sub hl [0, 4] rfl)
  · skip
    subst er114
    have o_s109 := ow_on o_fsZ o_s109 (l' := [(148, .int 0), (149, .int 0), (0, .int 0)]) (w' := [148, 149, 0]) rfl rfl
    refine lv_icmp_eq (tgt := 3111) hx hb dL_law_3013 (by decide) (fun c116 => ?_) (fun c116 => absurd c116 (by decide))
    exact lw_end hst C0 hA hAf hZ hY (Nat.le_of_ble_eq_true rfl) (Nat.le_of_ble_eq_true rfl) dC dI P0k P0 D0 hS ls (lv_sub hl [0, 4] rfl)

set_option maxRecDepth 20000 in
theorem g_lk_49_z_L_recall_308 : GoodIn lwW (va_wsS RL 308 yL_recall w_z_L_recall) := goodIn_app (goodIn_sub (ws := ([.methodLink RL 308 yL_recall, .static yL_recall, .initialized RL] : List Cond)) (gm_c (gm_at lwV_99_in 4 rfl) (gm_c (gm_at lwV_99_in 5 rfl) (gm_c (gm_at lwV_5_in 10 rfl) gm_nil))) (by decide +kernel)) (goodIn_ca (goodIn_sub (ws := .codeWith yL_recall cL_recall 5 (some .int) [(0, 10, 13, 13), (0, 10, 17, 30)] :: l_z_L_recall) (gm_c (gm_at lwV_99_in 9 rfl) (gm_c (gm_at lwV_99_in 10 rfl) (gm_c (gm_at lwV_99_in 11 rfl) (gm_c (gm_at lwV_100_in 0 rfl) (gm_c (gm_at lwV_0_in 3 rfl) (gm_c (gm_at lwV_6_in 9 rfl) (gm_c (gm_at lwV_19_in 11 rfl) (gm_c (gm_at lwV_100_in 1 rfl) (gm_c (gm_at lwV_54_in 10 rfl) (gm_c (gm_at lwV_54_in 11 rfl) (gm_c (gm_at lwV_20_in 4 rfl) (gm_c (gm_at lwV_20_in 5 rfl) (gm_c (gm_at lwV_87_in 10 rfl) (gm_c (gm_at lwV_96_in 10 rfl) (gm_c (gm_at lwV_55_in 6 rfl) (gm_c (gm_at lwV_55_in 7 rfl) (gm_c (gm_at lwV_55_in 8 rfl) (gm_c (gm_at lwV_7_in 0 rfl) (gm_c (gm_at lwV_7_in 1 rfl) (gm_c (gm_at lwV_55_in 9 rfl) gm_nil)))))))))))))))))))) (by decide +kernel)) (goodIn_app (goodIn_in il_at0_X11_223 gd_at0_X11_223) (goodIn_app (goodIn_in il_X11 gd_X11) (goodIn_app (goodIn_in il_X0 gd_X0) (goodIn_in il_at0_X11_122 gd_at0_X11_122)))))
set_option maxRecDepth 20000 in
theorem g_lk_49_z_X12_recall_310 : GoodIn lwW (wsV RL 310 RX12 yX12_recall w_z_X12_recall) := goodIn_app (goodIn_sub (ws := ([.methodLink RL 310 yX12_recall, .instanceMethod yX12_recall, .selects RX12 yX12_recall yX12_recall, .initialized RX12] : List Cond)) (gm_c (gm_at lwV_99_in 6 rfl) (gm_c (gm_at lwV_99_in 7 rfl) (gm_c (gm_at lwV_99_in 8 rfl) (gm_c (gm_at lwV_0_in 7 rfl) gm_nil)))) (by decide +kernel)) (goodIn_ca (goodIn_sub (ws := .code yX12_recall cX12_recall 3 (some .int) :: l_z_X12_recall) (gm_c (gm_at lwV_100_in 2 rfl) (gm_c (gm_at lwV_57_in 0 rfl) (gm_c (gm_at lwV_57_in 1 rfl) (gm_c (gm_at lwV_57_in 2 rfl) (gm_c (gm_at lwV_0_in 7 rfl) (gm_c (gm_at lwV_1_in 5 rfl) (gm_c (gm_at lwV_97_in 7 rfl) (gm_c (gm_at lwV_57_in 10 rfl) gm_nil)))))))) (by decide +kernel)) (goodIn_in il_X12 gd_X12))
set_option maxRecDepth 20000 in
theorem g_lk_49_z_X12_thrown_149 : GoodIn lwW (wsV RL 149 RX12 yX12_thrown w_z_X12_thrown) := goodIn_app (goodIn_sub (ws := ([.methodLink RL 149 yX12_thrown, .instanceMethod yX12_thrown, .selects RX12 yX12_thrown yX12_thrown, .initialized RX12] : List Cond)) (gm_c (gm_at lwV_6_in 2 rfl) (gm_c (gm_at lwV_6_in 3 rfl) (gm_c (gm_at lwV_6_in 4 rfl) (gm_c (gm_at lwV_0_in 7 rfl) gm_nil)))) (by decide +kernel)) (goodIn_ca (goodIn_sub (ws := .code yX12_thrown cX12_thrown 1 (some .int) :: l_z_X12_thrown) (gm_c (gm_at lwV_9_in 9 rfl) (gm_c (gm_at lwV_1_in 5 rfl) gm_nil)) (by decide +kernel)) (goodIn_in il_X12 gd_X12))
set_option maxRecDepth 20000 in
theorem g_lk_49_z_X12_thrown_1_149 : GoodIn lwW (wsV RL 149 RX12 yX12_thrown w_z_X12_thrown_1) := goodIn_app (goodIn_sub (ws := ([.methodLink RL 149 yX12_thrown, .instanceMethod yX12_thrown, .selects RX12 yX12_thrown yX12_thrown, .initialized RX12] : List Cond)) (gm_c (gm_at lwV_6_in 2 rfl) (gm_c (gm_at lwV_6_in 3 rfl) (gm_c (gm_at lwV_6_in 4 rfl) (gm_c (gm_at lwV_0_in 7 rfl) gm_nil)))) (by decide +kernel)) (goodIn_ca (goodIn_sub (ws := .code yX12_thrown cX12_thrown 1 (some .int) :: l_z_X12_thrown_1) (gm_c (gm_at lwV_9_in 9 rfl) (gm_c (gm_at lwV_1_in 5 rfl) gm_nil)) (by decide +kernel)) (goodIn_in il_X12 gd_X12))
set_option maxHeartbeats 4000000 in
set_option maxRecDepth 100000 in
/-- the law, one call: recall -/
theorem lk_49 {p : Program} {l : Launch} {e : Env} {s : State} {m : MethodId} {below : List Frame} {meth : Method} {c : Code} {b : Nat} {xs : Nat → Int32} (hst : l.stackTraces = false) (C0 : lw_At p s m meth c b 6 xs) {A : Nat → Prop} (hA : ∀ q : Nat, s.heap.size ≤ q → A q) (hAf : ∀ q : Nat, A q → s.heap.size ≤ q) (hZ : Zz A s) (hY : Yy s) (dC : Nat → ClassId) (dI : Nat → Nat → Nat) (aX : Nat) (fsX : List Value) (aA : Nat) (fsA : List Value) (aZ : Nat) (fsZ : List Value) (qO : Nat) (w1 : Int32) (hw1 : w1 = xs (1 : Int32).toNatClampNeg) (w2 : Int32) (hw2 : w2 = xs (2 : Int32).toNatClampNeg) (w3 : Int32) (hw3 : w3 = xs (3 : Int32).toNatClampNeg) (w4 : Int32) (hw4 : w4 = xs (4 : Int32).toNatClampNeg) (w5 : Int32) (hw5 : w5 = xs (5 : Int32).toNatClampNeg) (k_fsX : fh fsX 18 [(13, .ref aA)]) (k_fsA : fh fsA 15 [(5, .int 0)]) (k_fsZ : fh fsZ 150 [(0, .int 0), (149, .int 0)])  {H : Heap} {locs : List Loc} (hK : va_K (dC, dI) vwCl [] s) (hP : va_P (dC, dI) vwCl [(aX, .inr (14, fsX)), (aA, .inr (3, fsA)), (aZ, .inr (15, fsZ))] H) (hD : va_D A [(aX, .inr (14, fsX)), (aA, .inr (3, fsA)), (aZ, .inr (15, fsZ))]) (hS : va_S A s.heap H locs) (ls : Array Slot) (hl : lv_has ls 8 [(0, .ref b), (1, .ref aX), (2, .ref aZ), (3, .ref qO), (4, .int 0)]) : W p l e room_1 s m #[Value.ref b] below meth c H locs 390 571359 (lw_Z below #[Value.ref b] s) (F0 m 3018 ls []) := by
  obtain ⟨hx, hb, hr, hml, hown0, hts0, hX, hbl, hlocks, hgv⟩ := id C0
  have hown : s.vm.findClass RL = some m.cls := hown0
  have hts : ∀ w ∈ lwW, w.before #[Value.ref b] s = true := fun w h => hts0 w (lwW_in w h)
  have hbA : ¬ A b := fun h => absurd (hAf b h) (Nat.not_le.mpr hbl)
  have o_fsX := ow_0 k_fsX
  have o_fsA := ow_0 k_fsA
  have o_fsZ := ow_0 k_fsZ
  refine lv_aload_n hx hb dL_law_3018 rfl (lv_at hl 1 rfl) ?_
  refine lv_aload_n hx hb dL_law_3019 rfl (lv_at hl 0 rfl) ?_
  refine lv_iload hx hb dL_law_3020 (lv_at hl 4 rfl) ?_
  refine lv_iconst (v := 1) hx hb dL_law_3022 (by decide) ?_
  refine lv_iadd hx hb dL_law_3023  ?_
  refine lv_topi (fun x101 ex101 => ?_)
  obtain rfl : x101 = 1 := ex101.trans (by decide)
  refine va_sld hx hb hX hbl hbA hS (show vp_in 1 6 from by unfold vp_in; decide) dL_law_3024 ?_
  refine lv_topi (fun x102 ex102 => ?_)
  obtain rfl : w1 = x102 := hw1.trans ex102.symm
  refine lv_aload_n hx hb dL_law_3025 rfl (lv_at hl 0 rfl) ?_
  refine lv_iload hx hb dL_law_3026 (lv_at hl 4 rfl) ?_
  refine lv_iconst (v := 2) hx hb dL_law_3028 (by decide) ?_
  refine lv_iadd hx hb dL_law_3029  ?_
  refine lv_topi (fun x103 ex103 => ?_)
  obtain rfl : x103 = 2 := ex103.trans (by decide)
  refine va_sld hx hb hX hbl hbA hS (show vp_in 2 6 from by unfold vp_in; decide) dL_law_3030 ?_
  refine lv_topi (fun x104 ex104 => ?_)
  obtain rfl : w2 = x104 := hw2.trans ex104.symm
  refine lv_aload_n hx hb dL_law_3031 rfl (lv_at hl 3 rfl) ?_
  have hPc := hP.sub (ws' := [(aX, .inr (14, fsX)), (aA, .inr (3, fsA))]) [0, 1] rfl
  have hDc := hD.sub (ws' := [(aX, .inr (14, fsX)), (aA, .inr (3, fsA))]) [0, 1] (by decide) rfl
  have hKc := hK.sub (tys' := []) [] rfl
  have hFc := va_free (wc := [(aX, .inr (14, fsX)), (aA, .inr (3, fsA))]) hD hS hA [0, 1] rfl
  refine vx_calli (vx_runSX (As := [.ref aX, .int w1, .int w2, .ref qO]) (rest := []) ⟨hx, hb, hml, hown, hts⟩ (z_L_recall l dC dI H.size aX fsX aA fsA w1 w2 qO (fh_sub o_fsX.2 [0] rfl) (fh_sub o_fsA.2 [0] rfl) hst ) (vx_cwSW 4 hts g_lk_49_z_L_recall_308 rfl rfl rfl (by decide +kernel) ⟨Nat.le_of_ble_eq_true rfl, Nat.le_of_ble_eq_true rfl⟩) ⟨fun a U g mk q => by obtain ⟨q0, q1, qZ, qY, qP, qK, qD⟩ := q; exact ⟨q0, q1, Zz_call qZ, Yy_call qY, qP, va_K.moved (u := U) (U := U.calling g mk a) (Vm.Alike.refl U.vm) qK, qD⟩, fun U hU hW => ⟨rfl, by rw [hU], Zz_go hZ hS hFc hU hW, Yy_go hY hW, by rw [hU]; exact hPc, va_K.moved hW.alike hKc, hDc.weaken (fun _ _ _ _ => trivial)⟩⟩ rfl rfl hl.1 rfl (lv_room (Nat.le_of_ble_eq_true rfl)) dL_law_3032 ⟨Nat.le_of_ble_eq_true rfl, Nat.le_of_ble_eq_true rfl⟩) hS (fun q _ h => hFc q h) hFc (fun q _ h => hFc q h) (fun E ce q9 u t H1 locs ht hvm hpx hBX hz1 hk1 hS hce hcv hcl => ?_) (fun r105 u t H1 locs ht hvm hw hB hz1 hk1 hS => ?_)
  · exact False.elim hBX
  · skip
    obtain ⟨hP1, hK1, hD1⟩ := hB
    rw [ht] at hP1
    try dsimp only at hw
    obtain ⟨hP, hD⟩ := va_join (wr := [(aZ, .inr (15, fsZ))]) (w1 := []) hP hD [0, 1] [2] rfl rfl (by decide) (by decide) hk1 hFc hP1 hD1
    have hK := hK.sub (tys' := []) [] rfl
    generalize H1 = H at hP hS ⊢
    refine W.widen (k := 392) (n := 571371) (by omega) (by omega) ?_
    have hP : va_P (dC, dI) vwCl [(aZ, .inr (15, fsZ))] H := hP
    have hD : va_D A [(aZ, .inr (15, fsZ))] := hD
    rcases hw with ⟨c106, er107⟩ | ⟨c108, c109, er110⟩ | ⟨c111, c112, c113, er114⟩ | ⟨c115, c116, c117, c118, er119⟩
    · skip
      subst er107
      refine lv_istore (lv' := [(5, .int 1), (0, .ref b), (1, .ref aX), (2, .ref aZ), (3, .ref qO), (4, .int 0)]) hx hb dL_law_3035 hl (by decide) rfl (fun ls hl => ?_)
      refine lv_aload_n hx hb dL_law_3037 rfl (lv_at hl 3 rfl) ?_
      refine lv_aload_n hx hb dL_law_3038 rfl (lv_at hl 1 rfl) ?_
      refine lv_iload hx hb dL_law_3039 (lv_at hl 5 rfl) ?_
      refine lv_iconst (v := 1) hx hb dL_law_3041 (by decide) ?_
      refine lv_iadd hx hb dL_law_3042  ?_
      refine lv_topi (fun x120 ex120 => ?_)
      obtain rfl : x120 = 1 := ex120.trans (by decide)
      refine va_sld hx hb hX hbl hbA hS (show vp_in 1 6 from by unfold vp_in; decide) dL_law_3043 ?_
      refine lv_topi (fun x121 ex121 => ?_)
      obtain rfl : w1 = x121 := hw1.trans ex121.symm
      refine lv_aload_n hx hb dL_law_3044 rfl (lv_at hl 1 rfl) ?_
      refine lv_iload hx hb dL_law_3045 (lv_at hl 5 rfl) ?_
      refine lv_iconst (v := 2) hx hb dL_law_3047 (by decide) ?_
      refine lv_iadd hx hb dL_law_3048  ?_
      refine lv_topi (fun x122 ex122 => ?_)
      obtain rfl : x122 = 2 := ex122.trans (by decide)
      refine va_sld hx hb hX hbl hbA hS (show vp_in 2 6 from by unfold vp_in; decide) dL_law_3049 ?_
      refine lv_topi (fun x123 ex123 => ?_)
      obtain rfl : w2 = x123 := hw2.trans ex123.symm
      have hPc := hP.sub (ws' := [(aZ, .inr (15, fsZ))]) [0] rfl
      have hDc := hD.sub (ws' := [(aZ, .inr (15, fsZ))]) [0] (by decide) rfl
      have hKc := hK.sub (tys' := []) [] rfl
      have hFc := va_free (wc := [(aZ, .inr (15, fsZ))]) hD hS hA [0] rfl
      refine va_calli (va_runV (As := [.int w1, .int w2]) (rest := []) ⟨hx, hb, hml, hown, hts⟩ (z_X12_recall l dC dI H.size aZ fsZ w1 w2 (fh_sub o_fsZ.2 [0, 1] rfl) ) (cwV 2 hts g_lk_49_z_X12_recall_310 rfl rfl rfl (by decide +kernel) ⟨Nat.le_of_ble_eq_true rfl, Nat.le_of_ble_eq_true rfl⟩) ⟨fun a U g mk q => by obtain ⟨q0, q1, qP, qK, qD⟩ := q; exact ⟨q0, q1, qP, va_K.moved (u := U) (U := U.calling g mk a) (Vm.Alike.refl U.vm) qK, qD⟩, va_recv hK hP (ci := 15) (q0 := 0) rfl rfl, fun U hU hW => ⟨rfl, by rw [hU], by rw [hU]; exact hPc, va_K.moved hW.alike hKc, hDc.weaken (fun _ _ _ _ => trivial)⟩⟩ rfl rfl hl.1 rfl (lv_room (Nat.le_of_ble_eq_true rfl)) dL_law_3050 ⟨Nat.le_of_ble_eq_true rfl, Nat.le_of_ble_eq_true rfl⟩) hS (fun q _ h => hFc q h) hFc (fun r124 u t H1 locs ht hvm hw hB hz1 hk1 hS => ?_)
      obtain ⟨s125, rfl⟩ : ∃ z, z = u := ⟨_, rfl⟩
      obtain ⟨hP1, hK1, hD1⟩ := hB
      rw [ht] at hP1
      try dsimp only at hw
      obtain ⟨hP, hD⟩ := va_join (wr := []) (w1 := [(aZ, .inr (15, s125))]) hP hD [0] [] rfl rfl (by decide) (by decide) hk1 hFc hP1 hD1
      have hK := hK.sub (tys' := []) [] rfl
      generalize H1 = H at hP hS ⊢
      have hP : va_P (dC, dI) vwCl [(aZ, .inr (15, s125))] H := hP
      have hD : va_D A [(aZ, .inr (15, s125))] := hD
      rcases hw with ⟨c126, er127, o_s125⟩ | ⟨c128, c129, er130, o_s125⟩ | ⟨c131, c132, c133, er134, o_s125⟩ | ⟨c135, c136, c137, c138, er139, o_s125⟩
      · skip
        subst er127
        have o_s125 := ow_on o_fsZ o_s125 (l' := [(0, .int 1), (149, .int 0), (149, .int 0)]) (w' := [0]) rfl rfl
        refine lv_istore (lv' := [(6, .int 0), (5, .int 1), (0, .ref b), (1, .ref aX), (2, .ref aZ), (3, .ref qO), (4, .int 0)]) hx hb dL_law_3053 hl (by decide) rfl (fun ls hl => ?_)
        refine lv_aload_n hx hb dL_law_3055 rfl (lv_at hl 4 rfl) ?_
        have hPc := hP.sub (ws' := [(aZ, .inr (15, s125))]) [0] rfl
        have hDc := hD.sub (ws' := [(aZ, .inr (15, s125))]) [0] (by decide) rfl
        have hKc := hK.sub (tys' := []) [] rfl
        have hFc := va_free (wc := [(aZ, .inr (15, s125))]) hD hS hA [0] rfl
        refine va_calli (va_runV (As := []) (rest := []) ⟨hx, hb, hml, hown, hts⟩ (z_X12_thrown l dC dI H.size aZ s125 (fh_sub o_s125.2 [0] rfl) ) (cwV 0 hts g_lk_49_z_X12_thrown_149 rfl rfl rfl (by decide +kernel) ⟨Nat.le_of_ble_eq_true rfl, Nat.le_of_ble_eq_true rfl⟩) ⟨fun a U g mk q => by obtain ⟨q0, q1, qP, qK, qD⟩ := q; exact ⟨q0, q1, qP, va_K.moved (u := U) (U := U.calling g mk a) (Vm.Alike.refl U.vm) qK, qD⟩, va_recv hK hP (ci := 15) (q0 := 0) rfl rfl, fun U hU hW => ⟨rfl, by rw [hU], by rw [hU]; exact hPc, va_K.moved hW.alike hKc, hDc.weaken (fun _ _ _ _ => trivial)⟩⟩ rfl rfl hl.1 rfl (lv_room (Nat.le_of_ble_eq_true rfl)) dL_law_3056 ⟨Nat.le_of_ble_eq_true rfl, Nat.le_of_ble_eq_true rfl⟩) hS (fun q _ h => hFc q h) hFc (fun r140 u t H1 locs ht hvm hw hB hz1 hk1 hS => ?_)
        obtain ⟨hP1, hK1, hD1⟩ := hB
        rw [ht] at hP1
        try dsimp only at hw
        obtain ⟨hP, hD⟩ := va_join (wr := []) (w1 := [(aZ, .inr (15, s125))]) hP hD [0] [] rfl rfl (by decide) (by decide) hk1 hFc hP1 hD1
        have hK := hK.sub (tys' := []) [] rfl
        generalize H1 = H at hP hS ⊢
        have hP : va_P (dC, dI) vwCl [(aZ, .inr (15, s125))] H := hP
        have hD : va_D A [(aZ, .inr (15, s125))] := hD
        have er141 := hw
        subst er141
        refine lv_iload hx hb dL_law_3059 (lv_at hl 1 rfl) ?_
        refine lv_icmp_eq (tgt := 3066) hx hb dL_law_3061 (by decide) (fun c142 => ?_) (fun c142 => absurd c142 (by decide))
        refine lv_iload hx hb dL_law_3066 (lv_at hl 1 rfl) ?_
        refine lv_if_ne (tgt := 3083) hx hb dL_law_3068 (by decide) (fun c143 => ?_) (fun c143 => absurd c143 (by decide))
        refine lv_goto (tgt := 3111) hx hb dL_law_3083 (by decide) ?_
        exact lw_end hst C0 hA hAf hZ hY (Nat.le_of_ble_eq_true rfl) (Nat.le_of_ble_eq_true rfl) dC dI P0k P0 D0 hS ls (lv_sub hl [2, 6] rfl)
      · exact (by exfalso; (try simp only [i_lt, i_le, i_eq, kc_0, kc_4] at c106 c128 c129); omega)
      · exact (by exfalso; (try simp only [i_lt, i_le, i_eq, kc_0, kc_4] at c106 c131 c132); omega)
      · exact (by exfalso; (try simp only [i_lt, i_le, i_eq, kc_0, kc_4] at c106 c135 c136); omega)
    · skip
      subst er110
      refine lv_istore (lv' := [(5, .int 1), (0, .ref b), (1, .ref aX), (2, .ref aZ), (3, .ref qO), (4, .int 0)]) hx hb dL_law_3035 hl (by decide) rfl (fun ls hl => ?_)
      refine lv_aload_n hx hb dL_law_3037 rfl (lv_at hl 3 rfl) ?_
      refine lv_aload_n hx hb dL_law_3038 rfl (lv_at hl 1 rfl) ?_
      refine lv_iload hx hb dL_law_3039 (lv_at hl 5 rfl) ?_
      refine lv_iconst (v := 1) hx hb dL_law_3041 (by decide) ?_
      refine lv_iadd hx hb dL_law_3042  ?_
      refine lv_topi (fun x144 ex144 => ?_)
      obtain rfl : x144 = 1 := ex144.trans (by decide)
      refine va_sld hx hb hX hbl hbA hS (show vp_in 1 6 from by unfold vp_in; decide) dL_law_3043 ?_
      refine lv_topi (fun x145 ex145 => ?_)
      obtain rfl : w1 = x145 := hw1.trans ex145.symm
      refine lv_aload_n hx hb dL_law_3044 rfl (lv_at hl 1 rfl) ?_
      refine lv_iload hx hb dL_law_3045 (lv_at hl 5 rfl) ?_
      refine lv_iconst (v := 2) hx hb dL_law_3047 (by decide) ?_
      refine lv_iadd hx hb dL_law_3048  ?_
      refine lv_topi (fun x146 ex146 => ?_)
      obtain rfl : x146 = 2 := ex146.trans (by decide)
      refine va_sld hx hb hX hbl hbA hS (show vp_in 2 6 from by unfold vp_in; decide) dL_law_3049 ?_
      refine lv_topi (fun x147 ex147 => ?_)
      obtain rfl : w2 = x147 := hw2.trans ex147.symm
      have hPc := hP.sub (ws' := [(aZ, .inr (15, fsZ))]) [0] rfl
      have hDc := hD.sub (ws' := [(aZ, .inr (15, fsZ))]) [0] (by decide) rfl
      have hKc := hK.sub (tys' := []) [] rfl
      have hFc := va_free (wc := [(aZ, .inr (15, fsZ))]) hD hS hA [0] rfl
      refine va_calli (va_runV (As := [.int w1, .int w2]) (rest := []) ⟨hx, hb, hml, hown, hts⟩ (z_X12_recall l dC dI H.size aZ fsZ w1 w2 (fh_sub o_fsZ.2 [0, 1] rfl) ) (cwV 2 hts g_lk_49_z_X12_recall_310 rfl rfl rfl (by decide +kernel) ⟨Nat.le_of_ble_eq_true rfl, Nat.le_of_ble_eq_true rfl⟩) ⟨fun a U g mk q => by obtain ⟨q0, q1, qP, qK, qD⟩ := q; exact ⟨q0, q1, qP, va_K.moved (u := U) (U := U.calling g mk a) (Vm.Alike.refl U.vm) qK, qD⟩, va_recv hK hP (ci := 15) (q0 := 0) rfl rfl, fun U hU hW => ⟨rfl, by rw [hU], by rw [hU]; exact hPc, va_K.moved hW.alike hKc, hDc.weaken (fun _ _ _ _ => trivial)⟩⟩ rfl rfl hl.1 rfl (lv_room (Nat.le_of_ble_eq_true rfl)) dL_law_3050 ⟨Nat.le_of_ble_eq_true rfl, Nat.le_of_ble_eq_true rfl⟩) hS (fun q _ h => hFc q h) hFc (fun r148 u t H1 locs ht hvm hw hB hz1 hk1 hS => ?_)
      obtain ⟨s149, rfl⟩ : ∃ z, z = u := ⟨_, rfl⟩
      obtain ⟨hP1, hK1, hD1⟩ := hB
      rw [ht] at hP1
      try dsimp only at hw
      obtain ⟨hP, hD⟩ := va_join (wr := []) (w1 := [(aZ, .inr (15, s149))]) hP hD [0] [] rfl rfl (by decide) (by decide) hk1 hFc hP1 hD1
      have hK := hK.sub (tys' := []) [] rfl
      generalize H1 = H at hP hS ⊢
      have hP : va_P (dC, dI) vwCl [(aZ, .inr (15, s149))] H := hP
      have hD : va_D A [(aZ, .inr (15, s149))] := hD
      rcases hw with ⟨c150, er151, o_s149⟩ | ⟨c152, c153, er154, o_s149⟩ | ⟨c155, c156, c157, er158, o_s149⟩ | ⟨c159, c160, c161, c162, er163, o_s149⟩
      · exact (by exfalso; (try simp only [i_lt, i_le, i_eq, kc_0, kc_4] at c108 c109 c150); omega)
      · skip
        subst er154
        have o_s149 := ow_on o_fsZ o_s149 (l' := [(0, .int 1), (149, .int 0), (149, .int 0)]) (w' := [0]) rfl rfl
        refine lv_istore (lv' := [(6, .int 0), (5, .int 1), (0, .ref b), (1, .ref aX), (2, .ref aZ), (3, .ref qO), (4, .int 0)]) hx hb dL_law_3053 hl (by decide) rfl (fun ls hl => ?_)
        refine lv_aload_n hx hb dL_law_3055 rfl (lv_at hl 4 rfl) ?_
        have hPc := hP.sub (ws' := [(aZ, .inr (15, s149))]) [0] rfl
        have hDc := hD.sub (ws' := [(aZ, .inr (15, s149))]) [0] (by decide) rfl
        have hKc := hK.sub (tys' := []) [] rfl
        have hFc := va_free (wc := [(aZ, .inr (15, s149))]) hD hS hA [0] rfl
        refine va_calli (va_runV (As := []) (rest := []) ⟨hx, hb, hml, hown, hts⟩ (z_X12_thrown l dC dI H.size aZ s149 (fh_sub o_s149.2 [0] rfl) ) (cwV 0 hts g_lk_49_z_X12_thrown_149 rfl rfl rfl (by decide +kernel) ⟨Nat.le_of_ble_eq_true rfl, Nat.le_of_ble_eq_true rfl⟩) ⟨fun a U g mk q => by obtain ⟨q0, q1, qP, qK, qD⟩ := q; exact ⟨q0, q1, qP, va_K.moved (u := U) (U := U.calling g mk a) (Vm.Alike.refl U.vm) qK, qD⟩, va_recv hK hP (ci := 15) (q0 := 0) rfl rfl, fun U hU hW => ⟨rfl, by rw [hU], by rw [hU]; exact hPc, va_K.moved hW.alike hKc, hDc.weaken (fun _ _ _ _ => trivial)⟩⟩ rfl rfl hl.1 rfl (lv_room (Nat.le_of_ble_eq_true rfl)) dL_law_3056 ⟨Nat.le_of_ble_eq_true rfl, Nat.le_of_ble_eq_true rfl⟩) hS (fun q _ h => hFc q h) hFc (fun r164 u t H1 locs ht hvm hw hB hz1 hk1 hS => ?_)
        obtain ⟨hP1, hK1, hD1⟩ := hB
        rw [ht] at hP1
        try dsimp only at hw
        obtain ⟨hP, hD⟩ := va_join (wr := []) (w1 := [(aZ, .inr (15, s149))]) hP hD [0] [] rfl rfl (by decide) (by decide) hk1 hFc hP1 hD1
        have hK := hK.sub (tys' := []) [] rfl
        generalize H1 = H at hP hS ⊢
        have hP : va_P (dC, dI) vwCl [(aZ, .inr (15, s149))] H := hP
        have hD : va_D A [(aZ, .inr (15, s149))] := hD
        have er165 := hw
        subst er165
        refine lv_iload hx hb dL_law_3059 (lv_at hl 1 rfl) ?_
        refine lv_icmp_eq (tgt := 3066) hx hb dL_law_3061 (by decide) (fun c166 => ?_) (fun c166 => absurd c166 (by decide))
        refine lv_iload hx hb dL_law_3066 (lv_at hl 1 rfl) ?_
        refine lv_if_ne (tgt := 3083) hx hb dL_law_3068 (by decide) (fun c167 => ?_) (fun c167 => absurd c167 (by decide))
        refine lv_goto (tgt := 3111) hx hb dL_law_3083 (by decide) ?_
        exact lw_end hst C0 hA hAf hZ hY (Nat.le_of_ble_eq_true rfl) (Nat.le_of_ble_eq_true rfl) dC dI P0k P0 D0 hS ls (lv_sub hl [2, 6] rfl)
      · exact (by exfalso; (try simp only [i_lt, i_le, i_eq, kc_0, kc_4] at c108 c109 c155 c156); omega)
      · exact (by exfalso; (try simp only [i_lt, i_le, i_eq, kc_0, kc_4] at c108 c109 c159 c160); omega)
    · skip
      subst er114
      refine lv_istore (lv' := [(5, .int 2), (0, .ref b), (1, .ref aX), (2, .ref aZ), (3, .ref qO), (4, .int 0)]) hx hb dL_law_3035 hl (by decide) rfl (fun ls hl => ?_)
      refine lv_aload_n hx hb dL_law_3037 rfl (lv_at hl 3 rfl) ?_
      refine lv_aload_n hx hb dL_law_3038 rfl (lv_at hl 1 rfl) ?_
      refine lv_iload hx hb dL_law_3039 (lv_at hl 5 rfl) ?_
      refine lv_iconst (v := 1) hx hb dL_law_3041 (by decide) ?_
      refine lv_iadd hx hb dL_law_3042  ?_
      refine lv_topi (fun x168 ex168 => ?_)
      obtain rfl : x168 = 1 := ex168.trans (by decide)
      refine va_sld hx hb hX hbl hbA hS (show vp_in 1 6 from by unfold vp_in; decide) dL_law_3043 ?_
      refine lv_topi (fun x169 ex169 => ?_)
      obtain rfl : w1 = x169 := hw1.trans ex169.symm
      refine lv_aload_n hx hb dL_law_3044 rfl (lv_at hl 1 rfl) ?_
      refine lv_iload hx hb dL_law_3045 (lv_at hl 5 rfl) ?_
      refine lv_iconst (v := 2) hx hb dL_law_3047 (by decide) ?_
      refine lv_iadd hx hb dL_law_3048  ?_
      refine lv_topi (fun x170 ex170 => ?_)
      obtain rfl : x170 = 2 := ex170.trans (by decide)
      refine va_sld hx hb hX hbl hbA hS (show vp_in 2 6 from by unfold vp_in; decide) dL_law_3049 ?_
      refine lv_topi (fun x171 ex171 => ?_)
      obtain rfl : w2 = x171 := hw2.trans ex171.symm
      have hPc := hP.sub (ws' := [(aZ, .inr (15, fsZ))]) [0] rfl
      have hDc := hD.sub (ws' := [(aZ, .inr (15, fsZ))]) [0] (by decide) rfl
      have hKc := hK.sub (tys' := []) [] rfl
      have hFc := va_free (wc := [(aZ, .inr (15, fsZ))]) hD hS hA [0] rfl
      refine va_calli (va_runV (As := [.int w1, .int w2]) (rest := []) ⟨hx, hb, hml, hown, hts⟩ (z_X12_recall l dC dI H.size aZ fsZ w1 w2 (fh_sub o_fsZ.2 [0, 1] rfl) ) (cwV 2 hts g_lk_49_z_X12_recall_310 rfl rfl rfl (by decide +kernel) ⟨Nat.le_of_ble_eq_true rfl, Nat.le_of_ble_eq_true rfl⟩) ⟨fun a U g mk q => by obtain ⟨q0, q1, qP, qK, qD⟩ := q; exact ⟨q0, q1, qP, va_K.moved (u := U) (U := U.calling g mk a) (Vm.Alike.refl U.vm) qK, qD⟩, va_recv hK hP (ci := 15) (q0 := 0) rfl rfl, fun U hU hW => ⟨rfl, by rw [hU], by rw [hU]; exact hPc, va_K.moved hW.alike hKc, hDc.weaken (fun _ _ _ _ => trivial)⟩⟩ rfl rfl hl.1 rfl (lv_room (Nat.le_of_ble_eq_true rfl)) dL_law_3050 ⟨Nat.le_of_ble_eq_true rfl, Nat.le_of_ble_eq_true rfl⟩) hS (fun q _ h => hFc q h) hFc (fun r172 u t H1 locs ht hvm hw hB hz1 hk1 hS => ?_)
      obtain ⟨s173, rfl⟩ : ∃ z, z = u := ⟨_, rfl⟩
      obtain ⟨hP1, hK1, hD1⟩ := hB
      rw [ht] at hP1
      try dsimp only at hw
      obtain ⟨hP, hD⟩ := va_join (wr := []) (w1 := [(aZ, .inr (15, s173))]) hP hD [0] [] rfl rfl (by decide) (by decide) hk1 hFc hP1 hD1
      have hK := hK.sub (tys' := []) [] rfl
      generalize H1 = H at hP hS ⊢
      have hP : va_P (dC, dI) vwCl [(aZ, .inr (15, s173))] H := hP
      have hD : va_D A [(aZ, .inr (15, s173))] := hD
      rcases hw with ⟨c174, er175, o_s173⟩ | ⟨c176, c177, er178, o_s173⟩ | ⟨c179, c180, c181, er182, o_s173⟩ | ⟨c183, c184, c185, c186, er187, o_s173⟩
      · exact (by exfalso; (try simp only [i_lt, i_le, i_eq, kc_0, kc_4] at c111 c112 c174); omega)
      · exact (by exfalso; (try simp only [i_lt, i_le, i_eq, kc_0, kc_4] at c111 c112 c176 c177); omega)
      · skip
        subst er182
        have o_s173 := ow_on o_fsZ o_s173 (l' := [(0, .int 2), (149, .int 0), (149, .int 0)]) (w' := [0]) rfl rfl
        refine lv_istore (lv' := [(6, .int 0), (5, .int 2), (0, .ref b), (1, .ref aX), (2, .ref aZ), (3, .ref qO), (4, .int 0)]) hx hb dL_law_3053 hl (by decide) rfl (fun ls hl => ?_)
        refine lv_aload_n hx hb dL_law_3055 rfl (lv_at hl 4 rfl) ?_
        have hPc := hP.sub (ws' := [(aZ, .inr (15, s173))]) [0] rfl
        have hDc := hD.sub (ws' := [(aZ, .inr (15, s173))]) [0] (by decide) rfl
        have hKc := hK.sub (tys' := []) [] rfl
        have hFc := va_free (wc := [(aZ, .inr (15, s173))]) hD hS hA [0] rfl
        refine va_calli (va_runV (As := []) (rest := []) ⟨hx, hb, hml, hown, hts⟩ (z_X12_thrown_1 l dC dI H.size aZ s173 (fh_sub o_s173.2 [0] rfl) ) (cwV 0 hts g_lk_49_z_X12_thrown_1_149 rfl rfl rfl (by decide +kernel) ⟨Nat.le_of_ble_eq_true rfl, Nat.le_of_ble_eq_true rfl⟩) ⟨fun a U g mk q => by obtain ⟨q0, q1, qP, qK, qD⟩ := q; exact ⟨q0, q1, qP, va_K.moved (u := U) (U := U.calling g mk a) (Vm.Alike.refl U.vm) qK, qD⟩, va_recv hK hP (ci := 15) (q0 := 0) rfl rfl, fun U hU hW => ⟨rfl, by rw [hU], by rw [hU]; exact hPc, va_K.moved hW.alike hKc, hDc.weaken (fun _ _ _ _ => trivial)⟩⟩ rfl rfl hl.1 rfl (lv_room (Nat.le_of_ble_eq_true rfl)) dL_law_3056 ⟨Nat.le_of_ble_eq_true rfl, Nat.le_of_ble_eq_true rfl⟩) hS (fun q _ h => hFc q h) hFc (fun r188 u t H1 locs ht hvm hw hB hz1 hk1 hS => ?_)
        obtain ⟨hP1, hK1, hD1⟩ := hB
        rw [ht] at hP1
        try dsimp only at hw
        obtain ⟨hP, hD⟩ := va_join (wr := []) (w1 := [(aZ, .inr (15, s173))]) hP hD [0] [] rfl rfl (by decide) (by decide) hk1 hFc hP1 hD1
        have hK := hK.sub (tys' := []) [] rfl
        generalize H1 = H at hP hS ⊢
        have hP : va_P (dC, dI) vwCl [(aZ, .inr (15, s173))] H := hP
        have hD : va_D A [(aZ, .inr (15, s173))] := hD
        have er189 := hw
        subst er189
        refine lv_iload hx hb dL_law_3059 (lv_at hl 1 rfl) ?_
        refine lv_icmp_eq (tgt := 3066) hx hb dL_law_3061 (by decide) (fun c190 => ?_) (fun c190 => absurd c190 (by decide))
        refine lv_iload hx hb dL_law_3066 (lv_at hl 1 rfl) ?_
        refine lv_if_ne (tgt := 3083) hx hb dL_law_3068 (by decide) (fun c191 => ?_) (fun c191 => absurd c191 (by decide))
        refine lv_goto (tgt := 3111) hx hb dL_law_3083 (by decide) ?_
        exact lw_end hst C0 hA hAf hZ hY (Nat.le_of_ble_eq_true rfl) (Nat.le_of_ble_eq_true rfl) dC dI P0k P0 D0 hS ls (lv_sub hl [2, 6] rfl)
      · exact (by exfalso; (try simp only [i_lt, i_le, i_eq, kc_0] at c113 c185 c186); omega)
    · skip
      subst er119
      refine lv_istore (lv' := [(5, .int 2), (0, .ref b), (1, .ref aX), (2, .ref aZ), (3, .ref qO), (4, .int 0)]) hx hb dL_law_3035 hl (by decide) rfl (fun ls hl => ?_)
      refine lv_aload_n hx hb dL_law_3037 rfl (lv_at hl 3 rfl) ?_
      refine lv_aload_n hx hb dL_law_3038 rfl (lv_at hl 1 rfl) ?_
      refine lv_iload hx hb dL_law_3039 (lv_at hl 5 rfl) ?_
      refine lv_iconst (v := 1) hx hb dL_law_3041 (by decide) ?_
      refine lv_iadd hx hb dL_law_3042  ?_
      refine lv_topi (fun x192 ex192 => ?_)
      obtain rfl : x192 = 1 := ex192.trans (by decide)
      refine va_sld hx hb hX hbl hbA hS (show vp_in 1 6 from by unfold vp_in; decide) dL_law_3043 ?_
      refine lv_topi (fun x193 ex193 => ?_)
      obtain rfl : w1 = x193 := hw1.trans ex193.symm
      refine lv_aload_n hx hb dL_law_3044 rfl (lv_at hl 1 rfl) ?_
      refine lv_iload hx hb dL_law_3045 (lv_at hl 5 rfl) ?_
      refine lv_iconst (v := 2) hx hb dL_law_3047 (by decide) ?_
      refine lv_iadd hx hb dL_law_3048  ?_
      refine lv_topi (fun x194 ex194 => ?_)
      obtain rfl : x194 = 2 := ex194.trans (by decide)
      refine va_sld hx hb hX hbl hbA hS (show vp_in 2 6 from by unfold vp_in; decide) dL_law_3049 ?_
      refine lv_topi (fun x195 ex195 => ?_)
      obtain rfl : w2 = x195 := hw2.trans ex195.symm
      have hPc := hP.sub (ws' := [(aZ, .inr (15, fsZ))]) [0] rfl
      have hDc := hD.sub (ws' := [(aZ, .inr (15, fsZ))]) [0] (by decide) rfl
      have hKc := hK.sub (tys' := []) [] rfl
      have hFc := va_free (wc := [(aZ, .inr (15, fsZ))]) hD hS hA [0] rfl
      refine va_calli (va_runV (As := [.int w1, .int w2]) (rest := []) ⟨hx, hb, hml, hown, hts⟩ (z_X12_recall l dC dI H.size aZ fsZ w1 w2 (fh_sub o_fsZ.2 [0, 1] rfl) ) (cwV 2 hts g_lk_49_z_X12_recall_310 rfl rfl rfl (by decide +kernel) ⟨Nat.le_of_ble_eq_true rfl, Nat.le_of_ble_eq_true rfl⟩) ⟨fun a U g mk q => by obtain ⟨q0, q1, qP, qK, qD⟩ := q; exact ⟨q0, q1, qP, va_K.moved (u := U) (U := U.calling g mk a) (Vm.Alike.refl U.vm) qK, qD⟩, va_recv hK hP (ci := 15) (q0 := 0) rfl rfl, fun U hU hW => ⟨rfl, by rw [hU], by rw [hU]; exact hPc, va_K.moved hW.alike hKc, hDc.weaken (fun _ _ _ _ => trivial)⟩⟩ rfl rfl hl.1 rfl (lv_room (Nat.le_of_ble_eq_true rfl)) dL_law_3050 ⟨Nat.le_of_ble_eq_true rfl, Nat.le_of_ble_eq_true rfl⟩) hS (fun q _ h => hFc q h) hFc (fun r196 u t H1 locs ht hvm hw hB hz1 hk1 hS => ?_)
      obtain ⟨s197, rfl⟩ : ∃ z, z = u := ⟨_, rfl⟩
      obtain ⟨hP1, hK1, hD1⟩ := hB
      rw [ht] at hP1
      try dsimp only at hw
      obtain ⟨hP, hD⟩ := va_join (wr := []) (w1 := [(aZ, .inr (15, s197))]) hP hD [0] [] rfl rfl (by decide) (by decide) hk1 hFc hP1 hD1
      have hK := hK.sub (tys' := []) [] rfl
      generalize H1 = H at hP hS ⊢
      have hP : va_P (dC, dI) vwCl [(aZ, .inr (15, s197))] H := hP
      have hD : va_D A [(aZ, .inr (15, s197))] := hD
      rcases hw with ⟨c198, er199, o_s197⟩ | ⟨c200, c201, er202, o_s197⟩ | ⟨c203, c204, c205, er206, o_s197⟩ | ⟨c207, c208, c209, c210, er211, o_s197⟩
      · exact (by exfalso; (try simp only [i_lt, i_le, i_eq, kc_0, kc_4] at c115 c116 c198); omega)
      · exact (by exfalso; (try simp only [i_lt, i_le, i_eq, kc_0, kc_4] at c115 c116 c200 c201); omega)
      · exact (by exfalso; (try simp only [i_lt, i_le, i_eq, kc_0] at c117 c118 c205); omega)
      · skip
        subst er211
        have o_s197 := ow_on o_fsZ o_s197 (l' := [(0, .int 2), (149, .int 0), (149, .int 0)]) (w' := [0]) rfl rfl
        refine lv_istore (lv' := [(6, .int 0), (5, .int 2), (0, .ref b), (1, .ref aX), (2, .ref aZ), (3, .ref qO), (4, .int 0)]) hx hb dL_law_3053 hl (by decide) rfl (fun ls hl => ?_)
        refine lv_aload_n hx hb dL_law_3055 rfl (lv_at hl 4 rfl) ?_
        have hPc := hP.sub (ws' := [(aZ, .inr (15, s197))]) [0] rfl
        have hDc := hD.sub (ws' := [(aZ, .inr (15, s197))]) [0] (by decide) rfl
        have hKc := hK.sub (tys' := []) [] rfl
        have hFc := va_free (wc := [(aZ, .inr (15, s197))]) hD hS hA [0] rfl
        refine va_calli (va_runV (As := []) (rest := []) ⟨hx, hb, hml, hown, hts⟩ (z_X12_thrown_1 l dC dI H.size aZ s197 (fh_sub o_s197.2 [0] rfl) ) (cwV 0 hts g_lk_49_z_X12_thrown_1_149 rfl rfl rfl (by decide +kernel) ⟨Nat.le_of_ble_eq_true rfl, Nat.le_of_ble_eq_true rfl⟩) ⟨fun a U g mk q => by obtain ⟨q0, q1, qP, qK, qD⟩ := q; exact ⟨q0, q1, qP, va_K.moved (u := U) (U := U.calling g mk a) (Vm.Alike.refl U.vm) qK, qD⟩, va_recv hK hP (ci := 15) (q0 := 0) rfl rfl, fun U hU hW => ⟨rfl, by rw [hU], by rw [hU]; exact hPc, va_K.moved hW.alike hKc, hDc.weaken (fun _ _ _ _ => trivial)⟩⟩ rfl rfl hl.1 rfl (lv_room (Nat.le_of_ble_eq_true rfl)) dL_law_3056 ⟨Nat.le_of_ble_eq_true rfl, Nat.le_of_ble_eq_true rfl⟩) hS (fun q _ h => hFc q h) hFc (fun r212 u t H1 locs ht hvm hw hB hz1 hk1 hS => ?_)
        obtain ⟨hP1, hK1, hD1⟩ := hB
        rw [ht] at hP1
        try dsimp only at hw
        obtain ⟨hP, hD⟩ := va_join (wr := []) (w1 := [(aZ, .inr (15, s197))]) hP hD [0] [] rfl rfl (by decide) (by decide) hk1 hFc hP1 hD1
        have hK := hK.sub (tys' := []) [] rfl
        generalize H1 = H at hP hS ⊢
        have hP : va_P (dC, dI) vwCl [(aZ, .inr (15, s197))] H := hP
        have hD : va_D A [(aZ, .inr (15, s197))] := hD
        have er213 := hw
        subst er213
        refine lv_iload hx hb dL_law_3059 (lv_at hl 1 rfl) ?_
        refine lv_icmp_eq (tgt := 3066) hx hb dL_law_3061 (by decide) (fun c214 => ?_) (fun c214 => absurd c214 (by decide))
        refine lv_iload hx hb dL_law_3066 (lv_at hl 1 rfl) ?_
        refine lv_if_ne (tgt := 3083) hx hb dL_law_3068 (by decide) (fun c215 => ?_) (fun c215 => absurd c215 (by decide))
        refine lv_goto (tgt := 3111) hx hb dL_law_3083 (by decide) ?_
        exact lw_end hst C0 hA hAf hZ hY (Nat.le_of_ble_eq_true rfl) (Nat.le_of_ble_eq_true rfl) dC dI P0k P0 D0 hS ls (lv_sub hl [2, 6] rfl)

set_option maxRecDepth 20000 in
theorem g_lk_50_z_X11_about_311 : GoodIn lwW (wsV RL 311 RX11 yX11_about w_z_X11_about) := goodIn_app (goodIn_sub (ws := ([.methodLink RL 311 yX11_about, .instanceMethod yX11_about, .selects RX11 yX11_about yX11_about, .initialized RX11] : List Cond)) (gm_c (gm_at lwV_100_in 3 rfl) (gm_c (gm_at lwV_100_in 4 rfl) (gm_c (gm_at lwV_100_in 5 rfl) (gm_c (gm_at lwV_0_in 3 rfl) gm_nil)))) (by decide +kernel)) (goodIn_ca (goodIn_sub (ws := .code yX11_about cX11_about 2 (some .int) :: l_z_X11_about) (gm_c (gm_at lwV_100_in 9 rfl) (gm_c (gm_at lwV_0_in 9 rfl) (gm_c (gm_at lwV_4_in 2 rfl) (gm_c (gm_at lwV_7_in 7 rfl) (gm_c (gm_at lwV_100_in 10 rfl) (gm_c (gm_at lwV_13_in 9 rfl) (gm_c (gm_at lwV_100_in 11 rfl) (gm_c (gm_at lwV_101_in 0 rfl) (gm_c (gm_at lwV_101_in 1 rfl) (gm_c (gm_at lwV_27_in 1 rfl) (gm_c (gm_at lwV_101_in 2 rfl) (gm_c (gm_at lwV_101_in 3 rfl) (gm_c (gm_at lwV_87_in 10 rfl) (gm_c (gm_at lwV_96_in 10 rfl) (gm_c (gm_at lwV_101_in 4 rfl) (gm_c (gm_at lwV_35_in 9 rfl) (gm_c (gm_at lwV_37_in 11 rfl) (gm_c (gm_at lwV_76_in 6 rfl) (gm_c (gm_at lwV_76_in 7 rfl) (gm_c (gm_at lwV_80_in 0 rfl) (gm_c (gm_at lwV_81_in 0 rfl) gm_nil))))))))))))))))))))) (by decide +kernel)) (goodIn_app (goodIn_in il_X11 gd_X11) (goodIn_app (goodIn_in il_X9 gd_X9) (goodIn_app (goodIn_in il_X10 gd_X10) (goodIn_app (goodIn_in il_X2 gd_X2) (goodIn_app (goodIn_in il_X3 gd_X3) (goodIn_app (goodIn_in il_X0 gd_X0) (goodIn_app (goodIn_in il_X4 gd_X4) (goodIn_in il_X7 gd_X7)))))))))
set_option maxRecDepth 20000 in
theorem g_lk_50_z_X12_about_314 : GoodIn lwW (wsV RL 314 RX12 yX12_about w_z_X12_about) := goodIn_app (goodIn_sub (ws := ([.methodLink RL 314 yX12_about, .instanceMethod yX12_about, .selects RX12 yX12_about yX12_about, .initialized RX12] : List Cond)) (gm_c (gm_at lwV_100_in 6 rfl) (gm_c (gm_at lwV_100_in 7 rfl) (gm_c (gm_at lwV_100_in 8 rfl) (gm_c (gm_at lwV_0_in 7 rfl) gm_nil)))) (by decide +kernel)) (goodIn_ca (goodIn_sub (ws := .code yX12_about cX12_about 4 (some .int) :: l_z_X12_about) (gm_c (gm_at lwV_101_in 5 rfl) (gm_c (gm_at lwV_1_in 5 rfl) (gm_c (gm_at lwV_17_in 4 rfl) (gm_c (gm_at lwV_3_in 5 rfl) (gm_c (gm_at lwV_9_in 8 rfl) (gm_c (gm_at lwV_17_in 5 rfl) (gm_c (gm_at lwV_30_in 5 rfl) (gm_c (gm_at lwV_101_in 6 rfl) (gm_c (gm_at lwV_30_in 0 rfl) (gm_c (gm_at lwV_97_in 7 rfl) (gm_c (gm_at lwV_97_in 5 rfl) (gm_c (gm_at lwV_35_in 11 rfl) (gm_c (gm_at lwV_45_in 5 rfl) (gm_c (gm_at lwV_77_in 6 rfl) (gm_c (gm_at lwV_84_in 0 rfl) gm_nil))))))))))))))) (by decide +kernel)) (goodIn_in il_X12 gd_X12))
set_option maxHeartbeats 4000000 in
set_option maxRecDepth 100000 in
/-- the law, one call: about -/
theorem lk_50 {p : Program} {l : Launch} {e : Env} {s : State} {m : MethodId} {below : List Frame} {meth : Method} {c : Code} {b : Nat} {xs : Nat → Int32} (hst : l.stackTraces = false) (C0 : lw_At p s m meth c b 6 xs) {A : Nat → Prop} (hA : ∀ q : Nat, s.heap.size ≤ q → A q) (hAf : ∀ q : Nat, A q → s.heap.size ≤ q) (hZ : Zz A s) (hY : Yy s) (dC : Nat → ClassId) (dI : Nat → Nat → Nat) (aX : Nat) (fsX : List Value) (aT : Nat) (fsT : List Value) (aY : Nat) (fsY : List Value) (aH : Nat) (fsHe : List Value) (aJ : Nat) (fsJ : List Value) (aM : Nat) (fsM : List Value) (aR : Nat) (fsR : List Value) (aA : Nat) (fsA : List Value) (aZ : Nat) (fsZ : List Value) (qO : Nat) (w1 : Int32) (hw1 : w1 = xs (1 : Int32).toNatClampNeg) (w2 : Int32) (hw2 : w2 = xs (2 : Int32).toNatClampNeg) (w3 : Int32) (hw3 : w3 = xs (3 : Int32).toNatClampNeg) (w4 : Int32) (hw4 : w4 = xs (4 : Int32).toNatClampNeg) (w5 : Int32) (hw5 : w5 = xs (5 : Int32).toNatClampNeg) (k_fsX : fh fsX 18 [(0, .ref aT), (1, .ref aY), (2, .ref aH), (3, .ref aJ), (7, .ref aM), (10, .int 0), (11, .ref aR), (13, .ref aA)]) (k_fsT : fh fsT 12 [(1, .int 0)]) (k_fsY : fh fsY 18 [(0, .int 0)]) (k_fsHe : fh fsHe 14 [(2, .int 0), (3, .int 0), (11, .int 0)]) (k_fsJ : fh fsJ 13 [(1, .int 0), (6, .int 0), (7, .int 0)]) (k_fsM : fh fsM 21 [(20, .int 0)]) (k_fsR : fh fsR 21 [(16, .int 0)]) (k_fsA : fh fsA 15 [(4, .int 0), (5, .int 0)]) (k_fsZ : fh fsZ 150 [(3, .int 0), (20, .int 0), (26, .int 0), (28, .int 0), (29, .int 0), (31, .int 0), (36, .int 0), (44, .int 0), (110, .int 0), (113, .int 0), (133, .int 0), (148, .int 0), (149, .int 0)])  {H : Heap} {locs : List Loc} (hK : va_K (dC, dI) vwCl [] s) (hP : va_P (dC, dI) vwCl [(aX, .inr (14, fsX)), (aT, .inr (12, fsT)), (aY, .inr (13, fsY)), (aH, .inr (5, fsHe)), (aJ, .inr (6, fsJ)), (aM, .inr (7, fsM)), (aR, .inr (10, fsR)), (aA, .inr (3, fsA)), (aZ, .inr (15, fsZ))] H) (hD : va_D A [(aX, .inr (14, fsX)), (aT, .inr (12, fsT)), (aY, .inr (13, fsY)), (aH, .inr (5, fsHe)), (aJ, .inr (6, fsJ)), (aM, .inr (7, fsM)), (aR, .inr (10, fsR)), (aA, .inr (3, fsA)), (aZ, .inr (15, fsZ))]) (hS : va_S A s.heap H locs) (ls : Array Slot) (hl : lv_has ls 8 [(0, .ref b), (1, .ref aX), (2, .ref aZ), (3, .ref qO), (4, .int 0)]) : W p l e room_1 s m #[Value.ref b] below meth c H locs 390 571359 (lw_Z below #[Value.ref b] s) (F0 m 3086 ls []) := by
  obtain ⟨hx, hb, hr, hml, hown0, hts0, hX, hbl, hlocks, hgv⟩ := id C0
  have hown : s.vm.findClass RL = some m.cls := hown0
  have hts : ∀ w ∈ lwW, w.before #[Value.ref b] s = true := fun w h => hts0 w (lwW_in w h)
  have hbA : ¬ A b := fun h => absurd (hAf b h) (Nat.not_le.mpr hbl)
  have o_fsX := ow_0 k_fsX
  have o_fsT := ow_0 k_fsT
  have o_fsY := ow_0 k_fsY
  have o_fsHe := ow_0 k_fsHe
  have o_fsJ := ow_0 k_fsJ
  have o_fsM := ow_0 k_fsM
  have o_fsR := ow_0 k_fsR
  have o_fsA := ow_0 k_fsA
  have o_fsZ := ow_0 k_fsZ
  refine lv_aload_n hx hb dL_law_3086 rfl (lv_at hl 1 rfl) ?_
  refine lv_aload_n hx hb dL_law_3087 rfl (lv_at hl 0 rfl) ?_
  refine lv_iload hx hb dL_law_3088 (lv_at hl 4 rfl) ?_
  refine lv_iconst (v := 1) hx hb dL_law_3090 (by decide) ?_
  refine lv_iadd hx hb dL_law_3091  ?_
  refine lv_topi (fun x101 ex101 => ?_)
  obtain rfl : x101 = 1 := ex101.trans (by decide)
  refine va_sld hx hb hX hbl hbA hS (show vp_in 1 6 from by unfold vp_in; decide) dL_law_3092 ?_
  refine lv_topi (fun x102 ex102 => ?_)
  obtain rfl : w1 = x102 := hw1.trans ex102.symm
  have hPc := hP.sub (ws' := [(aX, .inr (14, fsX)), (aT, .inr (12, fsT)), (aY, .inr (13, fsY)), (aH, .inr (5, fsHe)), (aJ, .inr (6, fsJ)), (aM, .inr (7, fsM)), (aR, .inr (10, fsR)), (aA, .inr (3, fsA))]) [0, 1, 2, 3, 4, 5, 6, 7] rfl
  have hDc := hD.sub (ws' := [(aX, .inr (14, fsX)), (aT, .inr (12, fsT)), (aY, .inr (13, fsY)), (aH, .inr (5, fsHe)), (aJ, .inr (6, fsJ)), (aM, .inr (7, fsM)), (aR, .inr (10, fsR)), (aA, .inr (3, fsA))]) [0, 1, 2, 3, 4, 5, 6, 7] (by decide) rfl
  have hKc := hK.sub (tys' := []) [] rfl
  have hFc := va_free (wc := [(aX, .inr (14, fsX)), (aT, .inr (12, fsT)), (aY, .inr (13, fsY)), (aH, .inr (5, fsHe)), (aJ, .inr (6, fsJ)), (aM, .inr (7, fsM)), (aR, .inr (10, fsR)), (aA, .inr (3, fsA))]) hD hS hA [0, 1, 2, 3, 4, 5, 6, 7] rfl
  refine va_calli (va_runV (As := [.int w1]) (rest := []) ⟨hx, hb, hml, hown, hts⟩ (z_X11_about l dC dI H.size aX fsX aT fsT aY fsY aH fsHe aJ fsJ aM fsM aR fsR aA fsA w1 (fh_sub o_fsX.2 [0, 1, 2, 3, 4, 5, 6, 7] rfl) (fh_sub o_fsT.2 [0] rfl) (fh_sub o_fsY.2 [0] rfl) (fh_sub o_fsHe.2 [0, 1, 2] rfl) (fh_sub o_fsJ.2 [0, 1, 2] rfl) (fh_sub o_fsM.2 [0] rfl) (fh_sub o_fsR.2 [0] rfl) (fh_sub o_fsA.2 [0, 1] rfl) ) (cwV 1 hts g_lk_50_z_X11_about_311 rfl rfl rfl (by decide +kernel) ⟨Nat.le_of_ble_eq_true rfl, Nat.le_of_ble_eq_true rfl⟩) ⟨fun a U g mk q => by obtain ⟨q0, q1, qP, qK, qD⟩ := q; exact ⟨q0, q1, qP, va_K.moved (u := U) (U := U.calling g mk a) (Vm.Alike.refl U.vm) qK, qD⟩, va_recv hK hP (ci := 14) (q0 := 0) rfl rfl, fun U hU hW => ⟨rfl, by rw [hU], by rw [hU]; exact hPc, va_K.moved hW.alike hKc, hDc.weaken (fun _ _ _ _ => trivial)⟩⟩ rfl rfl hl.1 rfl (lv_room (Nat.le_of_ble_eq_true rfl)) dL_law_3093 ⟨Nat.le_of_ble_eq_true rfl, Nat.le_of_ble_eq_true rfl⟩) hS (fun q _ h => hFc q h) hFc (fun r103 u t H1 locs ht hvm hw hB hz1 hk1 hS => ?_)
  obtain ⟨hP1, hK1, hD1⟩ := hB
  rw [ht] at hP1
  try dsimp only at hw
  obtain ⟨hP, hD⟩ := va_join (wr := [(aZ, .inr (15, fsZ))]) (w1 := [(aX, .inr (14, fsX)), (aT, .inr (12, fsT)), (aY, .inr (13, fsY)), (aH, .inr (5, fsHe)), (aJ, .inr (6, fsJ)), (aM, .inr (7, fsM)), (aR, .inr (10, fsR)), (aA, .inr (3, fsA))]) hP hD [0, 1, 2, 3, 4, 5, 6, 7] [8] rfl rfl (by decide) (by decide) hk1 hFc hP1 hD1
  have hK := hK.sub (tys' := []) [] rfl
  generalize H1 = H at hP hS ⊢
  have hP : va_P (dC, dI) vwCl [(aZ, .inr (15, fsZ)), (aX, .inr (14, fsX)), (aT, .inr (12, fsT)), (aY, .inr (13, fsY)), (aH, .inr (5, fsHe)), (aJ, .inr (6, fsJ)), (aM, .inr (7, fsM)), (aR, .inr (10, fsR)), (aA, .inr (3, fsA))] H := hP
  have hD : va_D A [(aZ, .inr (15, fsZ)), (aX, .inr (14, fsX)), (aT, .inr (12, fsT)), (aY, .inr (13, fsY)), (aH, .inr (5, fsHe)), (aJ, .inr (6, fsJ)), (aM, .inr (7, fsM)), (aR, .inr (10, fsR)), (aA, .inr (3, fsA))] := hD
  rcases hw with ⟨c104, er105⟩ | ⟨c106, er107⟩ | ⟨c108, er109⟩ | ⟨c110, er111⟩ | ⟨c112, er113⟩ | ⟨c114, er115⟩ | ⟨c116, er117⟩ | ⟨c118, er119⟩ | ⟨c120, er121⟩ | ⟨c122, er123⟩ | ⟨c124, er125⟩ | ⟨c126, er127⟩ | ⟨c128, er129⟩ | ⟨c130, c131, c132, c133, c134, c135, c136, c137, c138, c139, c140, c141, c142, er143⟩
  · skip
    subst er105
    refine lv_aload_n hx hb dL_law_3096 rfl (lv_at hl 2 rfl) ?_
    refine lv_aload_n hx hb dL_law_3097 rfl (lv_at hl 0 rfl) ?_
    refine lv_iload hx hb dL_law_3098 (lv_at hl 4 rfl) ?_
    refine lv_iconst (v := 1) hx hb dL_law_3100 (by decide) ?_
    refine lv_iadd hx hb dL_law_3101  ?_
    refine lv_topi (fun x144 ex144 => ?_)
    obtain rfl : x144 = 1 := ex144.trans (by decide)
    refine va_sld hx hb hX hbl hbA hS (show vp_in 1 6 from by unfold vp_in; decide) dL_law_3102 ?_
    refine lv_topi (fun x145 ex145 => ?_)
    obtain rfl : w1 = x145 := hw1.trans ex145.symm
    have hPc := hP.sub (ws' := [(aZ, .inr (15, fsZ))]) [0] rfl
    have hDc := hD.sub (ws' := [(aZ, .inr (15, fsZ))]) [0] (by decide) rfl
    have hKc := hK.sub (tys' := []) [] rfl
    have hFc := va_free (wc := [(aZ, .inr (15, fsZ))]) hD hS hA [0] rfl
    refine va_calli (va_runV (As := [.int w1]) (rest := [.int 0]) ⟨hx, hb, hml, hown, hts⟩ (z_X12_about l dC dI H.size aZ fsZ w1 (fh_sub o_fsZ.2 [0, 1, 2, 3, 4, 5, 6, 7, 8, 9, 10, 11, 12] rfl) ) (cwV 1 hts g_lk_50_z_X12_about_314 rfl rfl rfl (by decide +kernel) ⟨Nat.le_of_ble_eq_true rfl, Nat.le_of_ble_eq_true rfl⟩) ⟨fun a U g mk q => by obtain ⟨q0, q1, qP, qK, qD⟩ := q; exact ⟨q0, q1, qP, va_K.moved (u := U) (U := U.calling g mk a) (Vm.Alike.refl U.vm) qK, qD⟩, va_recv hK hP (ci := 15) (q0 := 0) rfl rfl, fun U hU hW => ⟨rfl, by rw [hU], by rw [hU]; exact hPc, va_K.moved hW.alike hKc, hDc.weaken (fun _ _ _ _ => trivial)⟩⟩ rfl rfl hl.1 rfl (lv_room (Nat.le_of_ble_eq_true rfl)) dL_law_3103 ⟨Nat.le_of_ble_eq_true rfl, Nat.le_of_ble_eq_true rfl⟩) hS (fun q _ h => hFc q h) hFc (fun r146 u t H1 locs ht hvm hw hB hz1 hk1 hS => ?_)
    obtain ⟨s147, rfl⟩ : ∃ z, z = u := ⟨_, rfl⟩
    obtain ⟨hP1, hK1, hD1⟩ := hB
    rw [ht] at hP1
    try dsimp only at hw
    obtain ⟨hP, hD⟩ := va_join (wr := [(aX, .inr (14, fsX)), (aT, .inr (12, fsT)), (aY, .inr (13, fsY)), (aH, .inr (5, fsHe)), (aJ, .inr (6, fsJ)), (aM, .inr (7, fsM)), (aR, .inr (10, fsR)), (aA, .inr (3, fsA))]) (w1 := [(aZ, .inr (15, s147))]) hP hD [0] [1, 2, 3, 4, 5, 6, 7, 8] rfl rfl (by decide) (by decide) hk1 hFc hP1 hD1
    have hK := hK.sub (tys' := []) [] rfl
    generalize H1 = H at hP hS ⊢
    have hP : va_P (dC, dI) vwCl [(aX, .inr (14, fsX)), (aT, .inr (12, fsT)), (aY, .inr (13, fsY)), (aH, .inr (5, fsHe)), (aJ, .inr (6, fsJ)), (aM, .inr (7, fsM)), (aR, .inr (10, fsR)), (aA, .inr (3, fsA)), (aZ, .inr (15, s147))] H := hP
    have hD : va_D A [(aX, .inr (14, fsX)), (aT, .inr (12, fsT)), (aY, .inr (13, fsY)), (aH, .inr (5, fsHe)), (aJ, .inr (6, fsJ)), (aM, .inr (7, fsM)), (aR, .inr (10, fsR)), (aA, .inr (3, fsA)), (aZ, .inr (15, s147))] := hD
    rcases hw with ⟨c148, er149, o_s147⟩ | ⟨c150, er151, o_s147⟩ | ⟨c152, er153, o_s147⟩ | ⟨c154, er155, o_s147⟩ | ⟨c156, er157, o_s147⟩ | ⟨c158, er159, o_s147⟩ | ⟨c160, er161, o_s147⟩ | ⟨c162, er163, o_s147⟩ | ⟨c164, er165, o_s147⟩ | ⟨c166, er167, o_s147⟩ | ⟨c168, er169, o_s147⟩ | ⟨c170, er171, o_s147⟩ | ⟨c172, er173, o_s147⟩ | ⟨c174, c175, c176, c177, c178, c179, c180, c181, c182, c183, c184, c185, c186, er187, o_s147⟩
    · skip
      subst er149
      have o_s147 := ow_on o_fsZ o_s147 (l' := [(0, .int 0), (3, .int 0), (20, .int 0), (26, .int 0), (28, .int 0), (29, .int 0), (31, .int 0), (36, .int 0), (44, .int 0), (110, .int 0), (113, .int 0), (133, .int 0), (148, .int 0), (149, .int 0), (3, .int 0), (20, .int 0), (26, .int 0), (28, .int 0), (29, .int 0), (31, .int 0), (36, .int 0), (44, .int 0), (110, .int 0), (113, .int 0), (133, .int 0), (148, .int 0), (149, .int 0)]) (w' := [0]) rfl rfl
      refine lv_icmp_eq (tgt := 3111) hx hb dL_law_3106 (by decide) (fun c188 => ?_) (fun c188 => absurd c188 (by decide))
      exact lw_end hst C0 hA hAf hZ hY (Nat.le_of_ble_eq_true rfl) (Nat.le_of_ble_eq_true rfl) dC dI P0k P0 D0 hS ls (lv_sub hl [0, 4] rfl)
    · exact (by exfalso; (try simp only [i_lt, i_le, i_eq, kc_0, kc_1] at c104 c150); omega)
    · exact (by exfalso; (try simp only [i_lt, i_le, i_eq, kc_0, kc_2] at c104 c152); omega)
    · exact (by exfalso; (try simp only [i_lt, i_le, i_eq, kc_0, kc_3] at c104 c154); omega)
    · exact (by exfalso; (try simp only [i_lt, i_le, i_eq, kc_0, kc_4] at c104 c156); omega)
    · exact (by exfalso; (try simp only [i_lt, i_le, i_eq, kc_0, kc_5] at c104 c158); omega)
    · exact (by exfalso; (try simp only [i_lt, i_le, i_eq, kc_0, kc_6] at c104 c160); omega)
    · exact (by exfalso; (try simp only [i_lt, i_le, i_eq, kc_0, kc_7] at c104 c162); omega)
    · exact (by exfalso; (try simp only [i_lt, i_le, i_eq, kc_0, kc_8] at c104 c164); omega)
    · exact (by exfalso; (try simp only [i_lt, i_le, i_eq, kc_0, kc_9] at c104 c166); omega)
    · exact (by exfalso; (try simp only [i_lt, i_le, i_eq, kc_0, kc_10] at c104 c168); omega)
    · exact (by exfalso; (try simp only [i_lt, i_le, i_eq, kc_0, kc_11] at c104 c170); omega)
    · exact (by exfalso; (try simp only [i_lt, i_le, i_eq, kc_0, kc_12] at c104 c172); omega)
    · exact (by exfalso; (try simp only [i_lt, i_le, i_eq, kc_0, kc_1, kc_2, kc_3, kc_4, kc_5, kc_6, kc_7, kc_8, kc_9, kc_10, kc_11, kc_12] at c104 c174 c175 c176 c177 c178 c179 c180 c181 c182 c183 c184 c185 c186); omega)
  · skip
    subst er107
    refine lv_aload_n hx hb dL_law_3096 rfl (lv_at hl 2 rfl) ?_
    refine lv_aload_n hx hb dL_law_3097 rfl (lv_at hl 0 rfl) ?_
    refine lv_iload hx hb dL_law_3098 (lv_at hl 4 rfl) ?_
    refine lv_iconst (v := 1) hx hb dL_law_3100 (by decide) ?_
    refine lv_iadd hx hb dL_law_3101  ?_
    refine lv_topi (fun x189 ex189 => ?_)
    obtain rfl : x189 = 1 := ex189.trans (by decide)
    refine va_sld hx hb hX hbl hbA hS (show vp_in 1 6 from by unfold vp_in; decide) dL_law_3102 ?_
    refine lv_topi (fun x190 ex190 => ?_)
    obtain rfl : w1 = x190 := hw1.trans ex190.symm
    have hPc := hP.sub (ws' := [(aZ, .inr (15, fsZ))]) [0] rfl
    have hDc := hD.sub (ws' := [(aZ, .inr (15, fsZ))]) [0] (by decide) rfl
    have hKc := hK.sub (tys' := []) [] rfl
    have hFc := va_free (wc := [(aZ, .inr (15, fsZ))]) hD hS hA [0] rfl
    refine va_calli (va_runV (As := [.int w1]) (rest := [.int 0]) ⟨hx, hb, hml, hown, hts⟩ (z_X12_about l dC dI H.size aZ fsZ w1 (fh_sub o_fsZ.2 [0, 1, 2, 3, 4, 5, 6, 7, 8, 9, 10, 11, 12] rfl) ) (cwV 1 hts g_lk_50_z_X12_about_314 rfl rfl rfl (by decide +kernel) ⟨Nat.le_of_ble_eq_true rfl, Nat.le_of_ble_eq_true rfl⟩) ⟨fun a U g mk q => by obtain ⟨q0, q1, qP, qK, qD⟩ := q; exact ⟨q0, q1, qP, va_K.moved (u := U) (U := U.calling g mk a) (Vm.Alike.refl U.vm) qK, qD⟩, va_recv hK hP (ci := 15) (q0 := 0) rfl rfl, fun U hU hW => ⟨rfl, by rw [hU], by rw [hU]; exact hPc, va_K.moved hW.alike hKc, hDc.weaken (fun _ _ _ _ => trivial)⟩⟩ rfl rfl hl.1 rfl (lv_room (Nat.le_of_ble_eq_true rfl)) dL_law_3103 ⟨Nat.le_of_ble_eq_true rfl, Nat.le_of_ble_eq_true rfl⟩) hS (fun q _ h => hFc q h) hFc (fun r191 u t H1 locs ht hvm hw hB hz1 hk1 hS => ?_)
    obtain ⟨s192, rfl⟩ : ∃ z, z = u := ⟨_, rfl⟩
    obtain ⟨hP1, hK1, hD1⟩ := hB
    rw [ht] at hP1
    try dsimp only at hw
    obtain ⟨hP, hD⟩ := va_join (wr := [(aX, .inr (14, fsX)), (aT, .inr (12, fsT)), (aY, .inr (13, fsY)), (aH, .inr (5, fsHe)), (aJ, .inr (6, fsJ)), (aM, .inr (7, fsM)), (aR, .inr (10, fsR)), (aA, .inr (3, fsA))]) (w1 := [(aZ, .inr (15, s192))]) hP hD [0] [1, 2, 3, 4, 5, 6, 7, 8] rfl rfl (by decide) (by decide) hk1 hFc hP1 hD1
    have hK := hK.sub (tys' := []) [] rfl
    generalize H1 = H at hP hS ⊢
    have hP : va_P (dC, dI) vwCl [(aX, .inr (14, fsX)), (aT, .inr (12, fsT)), (aY, .inr (13, fsY)), (aH, .inr (5, fsHe)), (aJ, .inr (6, fsJ)), (aM, .inr (7, fsM)), (aR, .inr (10, fsR)), (aA, .inr (3, fsA)), (aZ, .inr (15, s192))] H := hP
    have hD : va_D A [(aX, .inr (14, fsX)), (aT, .inr (12, fsT)), (aY, .inr (13, fsY)), (aH, .inr (5, fsHe)), (aJ, .inr (6, fsJ)), (aM, .inr (7, fsM)), (aR, .inr (10, fsR)), (aA, .inr (3, fsA)), (aZ, .inr (15, s192))] := hD
    rcases hw with ⟨c193, er194, o_s192⟩ | ⟨c195, er196, o_s192⟩ | ⟨c197, er198, o_s192⟩ | ⟨c199, er200, o_s192⟩ | ⟨c201, er202, o_s192⟩ | ⟨c203, er204, o_s192⟩ | ⟨c205, er206, o_s192⟩ | ⟨c207, er208, o_s192⟩ | ⟨c209, er210, o_s192⟩ | ⟨c211, er212, o_s192⟩ | ⟨c213, er214, o_s192⟩ | ⟨c215, er216, o_s192⟩ | ⟨c217, er218, o_s192⟩ | ⟨c219, c220, c221, c222, c223, c224, c225, c226, c227, c228, c229, c230, c231, er232, o_s192⟩
    · exact (by exfalso; (try simp only [i_lt, i_le, i_eq, kc_1, kc_0] at c106 c193); omega)
    · skip
      subst er196
      have o_s192 := ow_on o_fsZ o_s192 (l' := [(0, .int 0), (3, .int 0), (20, .int 0), (26, .int 0), (28, .int 0), (29, .int 0), (31, .int 0), (36, .int 0), (44, .int 0), (110, .int 0), (113, .int 0), (133, .int 0), (148, .int 0), (149, .int 0), (3, .int 0), (20, .int 0), (26, .int 0), (28, .int 0), (29, .int 0), (31, .int 0), (36, .int 0), (44, .int 0), (110, .int 0), (113, .int 0), (133, .int 0), (148, .int 0), (149, .int 0)]) (w' := [0]) rfl rfl
      refine lv_icmp_eq (tgt := 3111) hx hb dL_law_3106 (by decide) (fun c233 => ?_) (fun c233 => absurd c233 (by decide))
      exact lw_end hst C0 hA hAf hZ hY (Nat.le_of_ble_eq_true rfl) (Nat.le_of_ble_eq_true rfl) dC dI P0k P0 D0 hS ls (lv_sub hl [0, 4] rfl)
    · exact (by exfalso; (try simp only [i_lt, i_le, i_eq, kc_1, kc_2] at c106 c197); omega)
    · exact (by exfalso; (try simp only [i_lt, i_le, i_eq, kc_1, kc_3] at c106 c199); omega)
    · exact (by exfalso; (try simp only [i_lt, i_le, i_eq, kc_1, kc_4] at c106 c201); omega)
    · exact (by exfalso; (try simp only [i_lt, i_le, i_eq, kc_1, kc_5] at c106 c203); omega)
    · exact (by exfalso; (try simp only [i_lt, i_le, i_eq, kc_1, kc_6] at c106 c205); omega)
    · exact (by exfalso; (try simp only [i_lt, i_le, i_eq, kc_1, kc_7] at c106 c207); omega)
    · exact (by exfalso; (try simp only [i_lt, i_le, i_eq, kc_1, kc_8] at c106 c209); omega)
    · exact (by exfalso; (try simp only [i_lt, i_le, i_eq, kc_1, kc_9] at c106 c211); omega)
    · exact (by exfalso; (try simp only [i_lt, i_le, i_eq, kc_1, kc_10] at c106 c213); omega)
    · exact (by exfalso; (try simp only [i_lt, i_le, i_eq, kc_1, kc_11] at c106 c215); omega)
    · exact (by exfalso; (try simp only [i_lt, i_le, i_eq, kc_1, kc_12] at c106 c217); omega)
    · exact (by exfalso; (try simp only [i_lt, i_le, i_eq, kc_1, kc_0, kc_2, kc_3, kc_4, kc_5, kc_6, kc_7, kc_8, kc_9, kc_10, kc_11, kc_12] at c106 c219 c220 c221 c222 c223 c224 c225 c226 c227 c228 c229 c230 c231); omega)
  · skip
    subst er109
    refine lv_aload_n hx hb dL_law_3096 rfl (lv_at hl 2 rfl) ?_
    refine lv_aload_n hx hb dL_law_3097 rfl (lv_at hl 0 rfl) ?_
    refine lv_iload hx hb dL_law_3098 (lv_at hl 4 rfl) ?_
    refine lv_iconst (v := 1) hx hb dL_law_3100 (by decide) ?_
    refine lv_iadd hx hb dL_law_3101  ?_
    refine lv_topi (fun x234 ex234 => ?_)
    obtain rfl : x234 = 1 := ex234.trans (by decide)
    refine va_sld hx hb hX hbl hbA hS (show vp_in 1 6 from by unfold vp_in; decide) dL_law_3102 ?_
    refine lv_topi (fun x235 ex235 => ?_)
    obtain rfl : w1 = x235 := hw1.trans ex235.symm
    have hPc := hP.sub (ws' := [(aZ, .inr (15, fsZ))]) [0] rfl
    have hDc := hD.sub (ws' := [(aZ, .inr (15, fsZ))]) [0] (by decide) rfl
    have hKc := hK.sub (tys' := []) [] rfl
    have hFc := va_free (wc := [(aZ, .inr (15, fsZ))]) hD hS hA [0] rfl
    refine va_calli (va_runV (As := [.int w1]) (rest := [.int 0]) ⟨hx, hb, hml, hown, hts⟩ (z_X12_about l dC dI H.size aZ fsZ w1 (fh_sub o_fsZ.2 [0, 1, 2, 3, 4, 5, 6, 7, 8, 9, 10, 11, 12] rfl) ) (cwV 1 hts g_lk_50_z_X12_about_314 rfl rfl rfl (by decide +kernel) ⟨Nat.le_of_ble_eq_true rfl, Nat.le_of_ble_eq_true rfl⟩) ⟨fun a U g mk q => by obtain ⟨q0, q1, qP, qK, qD⟩ := q; exact ⟨q0, q1, qP, va_K.moved (u := U) (U := U.calling g mk a) (Vm.Alike.refl U.vm) qK, qD⟩, va_recv hK hP (ci := 15) (q0 := 0) rfl rfl, fun U hU hW => ⟨rfl, by rw [hU], by rw [hU]; exact hPc, va_K.moved hW.alike hKc, hDc.weaken (fun _ _ _ _ => trivial)⟩⟩ rfl rfl hl.1 rfl (lv_room (Nat.le_of_ble_eq_true rfl)) dL_law_3103 ⟨Nat.le_of_ble_eq_true rfl, Nat.le_of_ble_eq_true rfl⟩) hS (fun q _ h => hFc q h) hFc (fun r236 u t H1 locs ht hvm hw hB hz1 hk1 hS => ?_)
    obtain ⟨s237, rfl⟩ : ∃ z, z = u := ⟨_, rfl⟩
    obtain ⟨hP1, hK1, hD1⟩ := hB
    rw [ht] at hP1
    try dsimp only at hw
    obtain ⟨hP, hD⟩ := va_join (wr := [(aX, .inr (14, fsX)), (aT, .inr (12, fsT)), (aY, .inr (13, fsY)), (aH, .inr (5, fsHe)), (aJ, .inr (6, fsJ)), (aM, .inr (7, fsM)), (aR, .inr (10, fsR)), (aA, .inr (3, fsA))]) (w1 := [(aZ, .inr (15, s237))]) hP hD [0] [1, 2, 3, 4, 5, 6, 7, 8] rfl rfl (by decide) (by decide) hk1 hFc hP1 hD1
    have hK := hK.sub (tys' := []) [] rfl
    generalize H1 = H at hP hS ⊢
    have hP : va_P (dC, dI) vwCl [(aX, .inr (14, fsX)), (aT, .inr (12, fsT)), (aY, .inr (13, fsY)), (aH, .inr (5, fsHe)), (aJ, .inr (6, fsJ)), (aM, .inr (7, fsM)), (aR, .inr (10, fsR)), (aA, .inr (3, fsA)), (aZ, .inr (15, s237))] H := hP
    have hD : va_D A [(aX, .inr (14, fsX)), (aT, .inr (12, fsT)), (aY, .inr (13, fsY)), (aH, .inr (5, fsHe)), (aJ, .inr (6, fsJ)), (aM, .inr (7, fsM)), (aR, .inr (10, fsR)), (aA, .inr (3, fsA)), (aZ, .inr (15, s237))] := hD
    rcases hw with ⟨c238, er239, o_s237⟩ | ⟨c240, er241, o_s237⟩ | ⟨c242, er243, o_s237⟩ | ⟨c244, er245, o_s237⟩ | ⟨c246, er247, o_s237⟩ | ⟨c248, er249, o_s237⟩ | ⟨c250, er251, o_s237⟩ | ⟨c252, er253, o_s237⟩ | ⟨c254, er255, o_s237⟩ | ⟨c256, er257, o_s237⟩ | ⟨c258, er259, o_s237⟩ | ⟨c260, er261, o_s237⟩ | ⟨c262, er263, o_s237⟩ | ⟨c264, c265, c266, c267, c268, c269, c270, c271, c272, c273, c274, c275, c276, er277, o_s237⟩
    · exact (by exfalso; (try simp only [i_lt, i_le, i_eq, kc_2, kc_0] at c108 c238); omega)
    · exact (by exfalso; (try simp only [i_lt, i_le, i_eq, kc_2, kc_1] at c108 c240); omega)
    · skip
      subst er243
      have o_s237 := ow_on o_fsZ o_s237 (l' := [(0, .int 0), (3, .int 0), (20, .int 0), (26, .int 0), (28, .int 0), (29, .int 0), (31, .int 0), (36, .int 0), (44, .int 0), (110, .int 0), (113, .int 0), (133, .int 0), (148, .int 0), (149, .int 0), (3, .int 0), (20, .int 0), (26, .int 0), (28, .int 0), (29, .int 0), (31, .int 0), (36, .int 0), (44, .int 0), (110, .int 0), (113, .int 0), (133, .int 0), (148, .int 0), (149, .int 0)]) (w' := [0]) rfl rfl
      refine lv_icmp_eq (tgt := 3111) hx hb dL_law_3106 (by decide) (fun c278 => ?_) (fun c278 => absurd c278 (by decide))
      exact lw_end hst C0 hA hAf hZ hY (Nat.le_of_ble_eq_true rfl) (Nat.le_of_ble_eq_true rfl) dC dI P0k P0 D0 hS ls (lv_sub hl [0, 4] rfl)
    · exact (by exfalso; (try simp only [i_lt, i_le, i_eq, kc_2, kc_3] at c108 c244); omega)
    · exact (by exfalso; (try simp only [i_lt, i_le, i_eq, kc_2, kc_4] at c108 c246); omega)
    · exact (by exfalso; (try simp only [i_lt, i_le, i_eq, kc_2, kc_5] at c108 c248); omega)
    · exact (by exfalso; (try simp only [i_lt, i_le, i_eq, kc_2, kc_6] at c108 c250); omega)
    · exact (by exfalso; (try simp only [i_lt, i_le, i_eq, kc_2, kc_7] at c108 c252); omega)
    · exact (by exfalso; (try simp only [i_lt, i_le, i_eq, kc_2, kc_8] at c108 c254); omega)
    · exact (by exfalso; (try simp only [i_lt, i_le, i_eq, kc_2, kc_9] at c108 c256); omega)
    · exact (by exfalso; (try simp only [i_lt, i_le, i_eq, kc_2, kc_10] at c108 c258); omega)
    · exact (by exfalso; (try simp only [i_lt, i_le, i_eq, kc_2, kc_11] at c108 c260); omega)
    · exact (by exfalso; (try simp only [i_lt, i_le, i_eq, kc_2, kc_12] at c108 c262); omega)
    · exact (by exfalso; (try simp only [i_lt, i_le, i_eq, kc_2, kc_0, kc_1, kc_3, kc_4, kc_5, kc_6, kc_7, kc_8, kc_9, kc_10, kc_11, kc_12] at c108 c264 c265 c266 c267 c268 c269 c270 c271 c272 c273 c274 c275 c276); omega)
  · skip
    subst er111
    refine lv_aload_n hx hb dL_law_3096 rfl (lv_at hl 2 rfl) ?_
    refine lv_aload_n hx hb dL_law_3097 rfl (lv_at hl 0 rfl) ?_
    refine lv_iload hx hb dL_law_3098 (lv_at hl 4 rfl) ?_
    refine lv_iconst (v := 1) hx hb dL_law_3100 (by decide) ?_
    refine lv_iadd hx hb dL_law_3101  ?_
    refine lv_topi (fun x279 ex279 => ?_)
    obtain rfl : x279 = 1 := ex279.trans (by decide)
    refine va_sld hx hb hX hbl hbA hS (show vp_in 1 6 from by unfold vp_in; decide) dL_law_3102 ?_
    refine lv_topi (fun x280 ex280 => ?_)
    obtain rfl : w1 = x280 := hw1.trans ex280.symm
    have hPc := hP.sub (ws' := [(aZ, .inr (15, fsZ))]) [0] rfl
    have hDc := hD.sub (ws' := [(aZ, .inr (15, fsZ))]) [0] (by decide) rfl
    have hKc := hK.sub (tys' := []) [] rfl
    have hFc := va_free (wc := [(aZ, .inr (15, fsZ))]) hD hS hA [0] rfl
    refine va_calli (va_runV (As := [.int w1]) (rest := [.int 0]) ⟨hx, hb, hml, hown, hts⟩ (z_X12_about l dC dI H.size aZ fsZ w1 (fh_sub o_fsZ.2 [0, 1, 2, 3, 4, 5, 6, 7, 8, 9, 10, 11, 12] rfl) ) (cwV 1 hts g_lk_50_z_X12_about_314 rfl rfl rfl (by decide +kernel) ⟨Nat.le_of_ble_eq_true rfl, Nat.le_of_ble_eq_true rfl⟩) ⟨fun a U g mk q => by obtain ⟨q0, q1, qP, qK, qD⟩ := q; exact ⟨q0, q1, qP, va_K.moved (u := U) (U := U.calling g mk a) (Vm.Alike.refl U.vm) qK, qD⟩, va_recv hK hP (ci := 15) (q0 := 0) rfl rfl, fun U hU hW => ⟨rfl, by rw [hU], by rw [hU]; exact hPc, va_K.moved hW.alike hKc, hDc.weaken (fun _ _ _ _ => trivial)⟩⟩ rfl rfl hl.1 rfl (lv_room (Nat.le_of_ble_eq_true rfl)) dL_law_3103 ⟨Nat.le_of_ble_eq_true rfl, Nat.le_of_ble_eq_true rfl⟩) hS (fun q _ h => hFc q h) hFc (fun r281 u t H1 locs ht hvm hw hB hz1 hk1 hS => ?_)
    obtain ⟨s282, rfl⟩ : ∃ z, z = u := ⟨_, rfl⟩
    obtain ⟨hP1, hK1, hD1⟩ := hB
    rw [ht] at hP1
    try dsimp only at hw
    obtain ⟨hP, hD⟩ := va_join (wr := [(aX, .inr (14, fsX)), (aT, .inr (12, fsT)), (aY, .inr (13, fsY)), (aH, .inr (5, fsHe)), (aJ, .inr (6, fsJ)), (aM, .inr (7, fsM)), (aR, .inr (10, fsR)), (aA, .inr (3, fsA))]) (w1 := [(aZ, .inr (15, s282))]) hP hD [0] [1, 2, 3, 4, 5, 6, 7, 8] rfl rfl (by decide) (by decide) hk1 hFc hP1 hD1
    have hK := hK.sub (tys' := []) [] rfl
    generalize H1 = H at hP hS ⊢
    have hP : va_P (dC, dI) vwCl [(aX, .inr (14, fsX)), (aT, .inr (12, fsT)), (aY, .inr (13, fsY)), (aH, .inr (5, fsHe)), (aJ, .inr (6, fsJ)), (aM, .inr (7, fsM)), (aR, .inr (10, fsR)), (aA, .inr (3, fsA)), (aZ, .inr (15, s282))] H := hP
    have hD : va_D A [(aX, .inr (14, fsX)), (aT, .inr (12, fsT)), (aY, .inr (13, fsY)), (aH, .inr (5, fsHe)), (aJ, .inr (6, fsJ)), (aM, .inr (7, fsM)), (aR, .inr (10, fsR)), (aA, .inr (3, fsA)), (aZ, .inr (15, s282))] := hD
    rcases hw with ⟨c283, er284, o_s282⟩ | ⟨c285, er286, o_s282⟩ | ⟨c287, er288, o_s282⟩ | ⟨c289, er290, o_s282⟩ | ⟨c291, er292, o_s282⟩ | ⟨c293, er294, o_s282⟩ | ⟨c295, er296, o_s282⟩ | ⟨c297, er298, o_s282⟩ | ⟨c299, er300, o_s282⟩ | ⟨c301, er302, o_s282⟩ | ⟨c303, er304, o_s282⟩ | ⟨c305, er306, o_s282⟩ | ⟨c307, er308, o_s282⟩ | ⟨c309, c310, c311, c312, c313, c314, c315, c316, c317, c318, c319, c320, c321, er322, o_s282⟩
    · exact (by exfalso; (try simp only [i_lt, i_le, i_eq, kc_3, kc_0] at c110 c283); omega)
    · exact (by exfalso; (try simp only [i_lt, i_le, i_eq, kc_3, kc_1] at c110 c285); omega)
    · exact (by exfalso; (try simp only [i_lt, i_le, i_eq, kc_3, kc_2] at c110 c287); omega)
    · skip
      subst er290
      have o_s282 := ow_on o_fsZ o_s282 (l' := [(0, .int 0), (3, .int 0), (20, .int 0), (26, .int 0), (28, .int 0), (29, .int 0), (31, .int 0), (36, .int 0), (44, .int 0), (110, .int 0), (113, .int 0), (133, .int 0), (148, .int 0), (149, .int 0), (3, .int 0), (20, .int 0), (26, .int 0), (28, .int 0), (29, .int 0), (31, .int 0), (36, .int 0), (44, .int 0), (110, .int 0), (113, .int 0), (133, .int 0), (148, .int 0), (149, .int 0)]) (w' := [0]) rfl rfl
      refine lv_icmp_eq (tgt := 3111) hx hb dL_law_3106 (by decide) (fun c323 => ?_) (fun c323 => absurd c323 (by decide))
      exact lw_end hst C0 hA hAf hZ hY (Nat.le_of_ble_eq_true rfl) (Nat.le_of_ble_eq_true rfl) dC dI P0k P0 D0 hS ls (lv_sub hl [0, 4] rfl)
    · exact (by exfalso; (try simp only [i_lt, i_le, i_eq, kc_3, kc_4] at c110 c291); omega)
    · exact (by exfalso; (try simp only [i_lt, i_le, i_eq, kc_3, kc_5] at c110 c293); omega)
    · exact (by exfalso; (try simp only [i_lt, i_le, i_eq, kc_3, kc_6] at c110 c295); omega)
    · exact (by exfalso; (try simp only [i_lt, i_le, i_eq, kc_3, kc_7] at c110 c297); omega)
    · exact (by exfalso; (try simp only [i_lt, i_le, i_eq, kc_3, kc_8] at c110 c299); omega)
    · exact (by exfalso; (try simp only [i_lt, i_le, i_eq, kc_3, kc_9] at c110 c301); omega)
    · exact (by exfalso; (try simp only [i_lt, i_le, i_eq, kc_3, kc_10] at c110 c303); omega)
    · exact (by exfalso; (try simp only [i_lt, i_le, i_eq, kc_3, kc_11] at c110 c305); omega)
    · exact (by exfalso; (try simp only [i_lt, i_le, i_eq, kc_3, kc_12] at c110 c307); omega)
    · exact (by exfalso; (try simp only [i_lt, i_le, i_eq, kc_3, kc_0, kc_1, kc_2, kc_4, kc_5, kc_6, kc_7, kc_8, kc_9, kc_10, kc_11, kc_12] at c110 c309 c310 c311 c312 c313 c314 c315 c316 c317 c318 c319 c320 c321); omega)
  · skip
    subst er113
    refine lv_aload_n hx hb dL_law_3096 rfl (lv_at hl 2 rfl) ?_
    refine lv_aload_n hx hb dL_law_3097 rfl (lv_at hl 0 rfl) ?_
    refine lv_iload hx hb dL_law_3098 (lv_at hl 4 rfl) ?_
    refine lv_iconst (v := 1) hx hb dL_law_3100 (by decide) ?_
    refine lv_iadd hx hb dL_law_3101  ?_
    refine lv_topi (fun x324 ex324 => ?_)
    obtain rfl : x324 = 1 := ex324.trans (by decide)
    refine va_sld hx hb hX hbl hbA hS (show vp_in 1 6 from by unfold vp_in; decide) dL_law_3102 ?_
    refine lv_topi (fun x325 ex325 => ?_)
    obtain rfl : w1 = x325 := hw1.trans ex325.symm
    have hPc := hP.sub (ws' := [(aZ, .inr (15, fsZ))]) [0] rfl
    have hDc := hD.sub (ws' := [(aZ, .inr (15, fsZ))]) [0] (by decide) rfl
    have hKc := hK.sub (tys' := []) [] rfl
    have hFc := va_free (wc := [(aZ, .inr (15, fsZ))]) hD hS hA [0] rfl
    refine va_calli (va_runV (As := [.int w1]) (rest := [.int 0]) ⟨hx, hb, hml, hown, hts⟩ (z_X12_about l dC dI H.size aZ fsZ w1 (fh_sub o_fsZ.2 [0, 1, 2, 3, 4, 5, 6, 7, 8, 9, 10, 11, 12] rfl) ) (cwV 1 hts g_lk_50_z_X12_about_314 rfl rfl rfl (by decide +kernel) ⟨Nat.le_of_ble_eq_true rfl, Nat.le_of_ble_eq_true rfl⟩) ⟨fun a U g mk q => by obtain ⟨q0, q1, qP, qK, qD⟩ := q; exact ⟨q0, q1, qP, va_K.moved (u := U) (U := U.calling g mk a) (Vm.Alike.refl U.vm) qK, qD⟩, va_recv hK hP (ci := 15) (q0 := 0) rfl rfl, fun U hU hW => ⟨rfl, by rw [hU], by rw [hU]; exact hPc, va_K.moved hW.alike hKc, hDc.weaken (fun _ _ _ _ => trivial)⟩⟩ rfl rfl hl.1 rfl (lv_room (Nat.le_of_ble_eq_true rfl)) dL_law_3103 ⟨Nat.le_of_ble_eq_true rfl, Nat.le_of_ble_eq_true rfl⟩) hS (fun q _ h => hFc q h) hFc (fun r326 u t H1 locs ht hvm hw hB hz1 hk1 hS => ?_)
    obtain ⟨s327, rfl⟩ : ∃ z, z = u := ⟨_, rfl⟩
    obtain ⟨hP1, hK1, hD1⟩ := hB
    rw [ht] at hP1
    try dsimp only at hw
    obtain ⟨hP, hD⟩ := va_join (wr := [(aX, .inr (14, fsX)), (aT, .inr (12, fsT)), (aY, .inr (13, fsY)), (aH, .inr (5, fsHe)), (aJ, .inr (6, fsJ)), (aM, .inr (7, fsM)), (aR, .inr (10, fsR)), (aA, .inr (3, fsA))]) (w1 := [(aZ, .inr (15, s327))]) hP hD [0] [1, 2, 3, 4, 5, 6, 7, 8] rfl rfl (by decide) (by decide) hk1 hFc hP1 hD1
    have hK := hK.sub (tys' := []) [] rfl
    generalize H1 = H at hP hS ⊢
    have hP : va_P (dC, dI) vwCl [(aX, .inr (14, fsX)), (aT, .inr (12, fsT)), (aY, .inr (13, fsY)), (aH, .inr (5, fsHe)), (aJ, .inr (6, fsJ)), (aM, .inr (7, fsM)), (aR, .inr (10, fsR)), (aA, .inr (3, fsA)), (aZ, .inr (15, s327))] H := hP
    have hD : va_D A [(aX, .inr (14, fsX)), (aT, .inr (12, fsT)), (aY, .inr (13, fsY)), (aH, .inr (5, fsHe)), (aJ, .inr (6, fsJ)), (aM, .inr (7, fsM)), (aR, .inr (10, fsR)), (aA, .inr (3, fsA)), (aZ, .inr (15, s327))] := hD
    rcases hw with ⟨c328, er329, o_s327⟩ | ⟨c330, er331, o_s327⟩ | ⟨c332, er333, o_s327⟩ | ⟨c334, er335, o_s327⟩ | ⟨c336, er337, o_s327⟩ | ⟨c338, er339, o_s327⟩ | ⟨c340, er341, o_s327⟩ | ⟨c342, er343, o_s327⟩ | ⟨c344, er345, o_s327⟩ | ⟨c346, er347, o_s327⟩ | ⟨c348, er349, o_s327⟩ | ⟨c350, er351, o_s327⟩ | ⟨c352, er353, o_s327⟩ | ⟨c354, c355, c356, c357, c358, c359, c360, c361, c362, c363, c364, c365, c366, er367, o_s327⟩
    · exact (by exfalso; (try simp only [i_lt, i_le, i_eq, kc_4, kc_0] at c112 c328); omega)
    · exact (by exfalso; (try simp only [i_lt, i_le, i_eq, kc_4, kc_1] at c112 c330); omega)
    · exact (by exfalso; (try simp only [i_lt, i_le, i_eq, kc_4, kc_2] at c112 c332); omega)
    · exact (by exfalso; (try simp only [i_lt, i_le, i_eq, kc_4, kc_3] at c112 c334); omega)
    · skip
      subst er337
      have o_s327 := ow_on o_fsZ o_s327 (l' := [(0, .int 0), (3, .int 0), (20, .int 0), (26, .int 0), (28, .int 0), (29, .int 0), (31, .int 0), (36, .int 0), (44, .int 0), (110, .int 0), (113, .int 0), (133, .int 0), (148, .int 0), (149, .int 0), (3, .int 0), (20, .int 0), (26, .int 0), (28, .int 0), (29, .int 0), (31, .int 0), (36, .int 0), (44, .int 0), (110, .int 0), (113, .int 0), (133, .int 0), (148, .int 0), (149, .int 0)]) (w' := [0]) rfl rfl
      refine lv_icmp_eq (tgt := 3111) hx hb dL_law_3106 (by decide) (fun c368 => ?_) (fun c368 => absurd c368 (by decide))
      exact lw_end hst C0 hA hAf hZ hY (Nat.le_of_ble_eq_true rfl) (Nat.le_of_ble_eq_true rfl) dC dI P0k P0 D0 hS ls (lv_sub hl [0, 4] rfl)
    · exact (by exfalso; (try simp only [i_lt, i_le, i_eq, kc_4, kc_5] at c112 c338); omega)
    · exact (by exfalso; (try simp only [i_lt, i_le, i_eq, kc_4, kc_6] at c112 c340); omega)
    · exact (by exfalso; (try simp only [i_lt, i_le, i_eq, kc_4, kc_7] at c112 c342); omega)
    · exact (by exfalso; (try simp only [i_lt, i_le, i_eq, kc_4, kc_8] at c112 c344); omega)
    · exact (by exfalso; (try simp only [i_lt, i_le, i_eq, kc_4, kc_9] at c112 c346); omega)
    · exact (by exfalso; (try simp only [i_lt, i_le, i_eq, kc_4, kc_10] at c112 c348); omega)
    · exact (by exfalso; (try simp only [i_lt, i_le, i_eq, kc_4, kc_11] at c112 c350); omega)
    · exact (by exfalso; (try simp only [i_lt, i_le, i_eq, kc_4, kc_12] at c112 c352); omega)
    · exact (by exfalso; (try simp only [i_lt, i_le, i_eq, kc_4, kc_0, kc_1, kc_2, kc_3, kc_5, kc_6, kc_7, kc_8, kc_9, kc_10, kc_11, kc_12] at c112 c354 c355 c356 c357 c358 c359 c360 c361 c362 c363 c364 c365 c366); omega)
  · skip
    subst er115
    refine lv_aload_n hx hb dL_law_3096 rfl (lv_at hl 2 rfl) ?_
    refine lv_aload_n hx hb dL_law_3097 rfl (lv_at hl 0 rfl) ?_
    refine lv_iload hx hb dL_law_3098 (lv_at hl 4 rfl) ?_
    refine lv_iconst (v := 1) hx hb dL_law_3100 (by decide) ?_
    refine lv_iadd hx hb dL_law_3101  ?_
    refine lv_topi (fun x369 ex369 => ?_)
    obtain rfl : x369 = 1 := ex369.trans (by decide)
    refine va_sld hx hb hX hbl hbA hS (show vp_in 1 6 from by unfold vp_in; decide) dL_law_3102 ?_
    refine lv_topi (fun x370 ex370 => ?_)
    obtain rfl : w1 = x370 := hw1.trans ex370.symm
    have hPc := hP.sub (ws' := [(aZ, .inr (15, fsZ))]) [0] rfl
    have hDc := hD.sub (ws' := [(aZ, .inr (15, fsZ))]) [0] (by decide) rfl
    have hKc := hK.sub (tys' := []) [] rfl
    have hFc := va_free (wc := [(aZ, .inr (15, fsZ))]) hD hS hA [0] rfl
    refine va_calli (va_runV (As := [.int w1]) (rest := [.int 0]) ⟨hx, hb, hml, hown, hts⟩ (z_X12_about l dC dI H.size aZ fsZ w1 (fh_sub o_fsZ.2 [0, 1, 2, 3, 4, 5, 6, 7, 8, 9, 10, 11, 12] rfl) ) (cwV 1 hts g_lk_50_z_X12_about_314 rfl rfl rfl (by decide +kernel) ⟨Nat.le_of_ble_eq_true rfl, Nat.le_of_ble_eq_true rfl⟩) ⟨fun a U g mk q => by obtain ⟨q0, q1, qP, qK, qD⟩ := q; exact ⟨q0, q1, qP, va_K.moved (u := U) (U := U.calling g mk a) (Vm.Alike.refl U.vm) qK, qD⟩, va_recv hK hP (ci := 15) (q0 := 0) rfl rfl, fun U hU hW => ⟨rfl, by rw [hU], by rw [hU]; exact hPc, va_K.moved hW.alike hKc, hDc.weaken (fun _ _ _ _ => trivial)⟩⟩ rfl rfl hl.1 rfl (lv_room (Nat.le_of_ble_eq_true rfl)) dL_law_3103 ⟨Nat.le_of_ble_eq_true rfl, Nat.le_of_ble_eq_true rfl⟩) hS (fun q _ h => hFc q h) hFc (fun r371 u t H1 locs ht hvm hw hB hz1 hk1 hS => ?_)
    obtain ⟨s372, rfl⟩ : ∃ z, z = u := ⟨_, rfl⟩
    obtain ⟨hP1, hK1, hD1⟩ := hB
    rw [ht] at hP1
    try dsimp only at hw
    obtain ⟨hP, hD⟩ := va_join (wr := [(aX, .inr (14, fsX)), (aT, .inr (12, fsT)), (aY, .inr (13, fsY)), (aH, .inr (5, fsHe)), (aJ, .inr (6, fsJ)), (aM, .inr (7, fsM)), (aR, .inr (10, fsR)), (aA, .inr (3, fsA))]) (w1 := [(aZ, .inr (15, s372))]) hP hD [0] [1, 2, 3, 4, 5, 6, 7, 8] rfl rfl (by decide) (by decide) hk1 hFc hP1 hD1
    have hK := hK.sub (tys' := []) [] rfl
    generalize H1 = H at hP hS ⊢
    have hP : va_P (dC, dI) vwCl [(aX, .inr (14, fsX)), (aT, .inr (12, fsT)), (aY, .inr (13, fsY)), (aH, .inr (5, fsHe)), (aJ, .inr (6, fsJ)), (aM, .inr (7, fsM)), (aR, .inr (10, fsR)), (aA, .inr (3, fsA)), (aZ, .inr (15, s372))] H := hP
    have hD : va_D A [(aX, .inr (14, fsX)), (aT, .inr (12, fsT)), (aY, .inr (13, fsY)), (aH, .inr (5, fsHe)), (aJ, .inr (6, fsJ)), (aM, .inr (7, fsM)), (aR, .inr (10, fsR)), (aA, .inr (3, fsA)), (aZ, .inr (15, s372))] := hD
    rcases hw with ⟨c373, er374, o_s372⟩ | ⟨c375, er376, o_s372⟩ | ⟨c377, er378, o_s372⟩ | ⟨c379, er380, o_s372⟩ | ⟨c381, er382, o_s372⟩ | ⟨c383, er384, o_s372⟩ | ⟨c385, er386, o_s372⟩ | ⟨c387, er388, o_s372⟩ | ⟨c389, er390, o_s372⟩ | ⟨c391, er392, o_s372⟩ | ⟨c393, er394, o_s372⟩ | ⟨c395, er396, o_s372⟩ | ⟨c397, er398, o_s372⟩ | ⟨c399, c400, c401, c402, c403, c404, c405, c406, c407, c408, c409, c410, c411, er412, o_s372⟩
    · exact (by exfalso; (try simp only [i_lt, i_le, i_eq, kc_5, kc_0] at c114 c373); omega)
    · exact (by exfalso; (try simp only [i_lt, i_le, i_eq, kc_5, kc_1] at c114 c375); omega)
    · exact (by exfalso; (try simp only [i_lt, i_le, i_eq, kc_5, kc_2] at c114 c377); omega)
    · exact (by exfalso; (try simp only [i_lt, i_le, i_eq, kc_5, kc_3] at c114 c379); omega)
    · exact (by exfalso; (try simp only [i_lt, i_le, i_eq, kc_5, kc_4] at c114 c381); omega)
    · skip
      subst er384
      have o_s372 := ow_on o_fsZ o_s372 (l' := [(0, .int 0), (3, .int 0), (20, .int 0), (26, .int 0), (28, .int 0), (29, .int 0), (31, .int 0), (36, .int 0), (44, .int 0), (110, .int 0), (113, .int 0), (133, .int 0), (148, .int 0), (149, .int 0), (3, .int 0), (20, .int 0), (26, .int 0), (28, .int 0), (29, .int 0), (31, .int 0), (36, .int 0), (44, .int 0), (110, .int 0), (113, .int 0), (133, .int 0), (148, .int 0), (149, .int 0)]) (w' := [0]) rfl rfl
      refine lv_icmp_eq (tgt := 3111) hx hb dL_law_3106 (by decide) (fun c413 => ?_) (fun c413 => absurd c413 (by decide))
      exact lw_end hst C0 hA hAf hZ hY (Nat.le_of_ble_eq_true rfl) (Nat.le_of_ble_eq_true rfl) dC dI P0k P0 D0 hS ls (lv_sub hl [0, 4] rfl)
    · exact (by exfalso; (try simp only [i_lt, i_le, i_eq, kc_5, kc_6] at c114 c385); omega)
    · exact (by exfalso; (try simp only [i_lt, i_le, i_eq, kc_5, kc_7] at c114 c387); omega)
    · exact (by exfalso; (try simp only [i_lt, i_le, i_eq, kc_5, kc_8] at c114 c389); omega)
    · exact (by exfalso; (try simp only [i_lt, i_le, i_eq, kc_5, kc_9] at c114 c391); omega)
    · exact (by exfalso; (try simp only [i_lt, i_le, i_eq, kc_5, kc_10] at c114 c393); omega)
    · exact (by exfalso; (try simp only [i_lt, i_le, i_eq, kc_5, kc_11] at c114 c395); omega)
    · exact (by exfalso; (try simp only [i_lt, i_le, i_eq, kc_5, kc_12] at c114 c397); omega)
    · exact (by exfalso; (try simp only [i_lt, i_le, i_eq, kc_5, kc_0, kc_1, kc_2, kc_3, kc_4, kc_6, kc_7, kc_8, kc_9, kc_10, kc_11, kc_12] at c114 c399 c400 c401 c402 c403 c404 c405 c406 c407 c408 c409 c410 c411); omega)
  · skip
    subst er117
    refine lv_aload_n hx hb dL_law_3096 rfl (lv_at hl 2 rfl) ?_
    refine lv_aload_n hx hb dL_law_3097 rfl (lv_at hl 0 rfl) ?_
    refine lv_iload hx hb dL_law_3098 (lv_at hl 4 rfl) ?_
    refine lv_iconst (v := 1) hx hb dL_law_3100 (by decide) ?_
    refine lv_iadd hx hb dL_law_3101  ?_
    refine lv_topi (fun x414 ex414 => ?_)
    obtain rfl : x414 = 1 := ex414.trans (by decide)
    refine va_sld hx hb hX hbl hbA hS (show vp_in 1 6 from by unfold vp_in; decide) dL_law_3102 ?_
    refine lv_topi (fun x415 ex415 => ?_)
    obtain rfl : w1 = x415 := hw1.trans ex415.symm
    have hPc := hP.sub (ws' := [(aZ, .inr (15, fsZ))]) [0] rfl
    have hDc := hD.sub (ws' := [(aZ, .inr (15, fsZ))]) [0] (by decide) rfl
    have hKc := hK.sub (tys' := []) [] rfl
    have hFc := va_free (wc := [(aZ, .inr (15, fsZ))]) hD hS hA [0] rfl
    refine va_calli (va_runV (As := [.int w1]) (rest := [.int 0]) ⟨hx, hb, hml, hown, hts⟩ (z_X12_about l dC dI H.size aZ fsZ w1 (fh_sub o_fsZ.2 [0, 1, 2, 3, 4, 5, 6, 7, 8, 9, 10, 11, 12] rfl) ) (cwV 1 hts g_lk_50_z_X12_about_314 rfl rfl rfl (by decide +kernel) ⟨Nat.le_of_ble_eq_true rfl, Nat.le_of_ble_eq_true rfl⟩) ⟨fun a U g mk q => by obtain ⟨q0, q1, qP, qK, qD⟩ := q; exact ⟨q0, q1, qP, va_K.moved (u := U) (U := U.calling g mk a) (Vm.Alike.refl U.vm) qK, qD⟩, va_recv hK hP (ci := 15) (q0 := 0) rfl rfl, fun U hU hW => ⟨rfl, by rw [hU], by rw [hU]; exact hPc, va_K.moved hW.alike hKc, hDc.weaken (fun _ _ _ _ => trivial)⟩⟩ rfl rfl hl.1 rfl (lv_room (Nat.le_of_ble_eq_true rfl)) dL_law_3103 ⟨Nat.le_of_ble_eq_true rfl, Nat.le_of_ble_eq_true rfl⟩) hS (fun q _ h => hFc q h) hFc (fun r416 u t H1 locs ht hvm hw hB hz1 hk1 hS => ?_)
    obtain ⟨s417, rfl⟩ : ∃ z, z = u := ⟨_, rfl⟩
    obtain ⟨hP1, hK1, hD1⟩ := hB
    rw [ht] at hP1
    try dsimp only at hw
    obtain ⟨hP, hD⟩ := va_join (wr := [(aX, .inr (14, fsX)), (aT, .inr (12, fsT)), (aY, .inr (13, fsY)), (aH, .inr (5, fsHe)), (aJ, .inr (6, fsJ)), (aM, .inr (7, fsM)), (aR, .inr (10, fsR)), (aA, .inr (3, fsA))]) (w1 := [(aZ, .inr (15, s417))]) hP hD [0] [1, 2, 3, 4, 5, 6, 7, 8] rfl rfl (by decide) (by decide) hk1 hFc hP1 hD1
    have hK := hK.sub (tys' := []) [] rfl
    generalize H1 = H at hP hS ⊢
    have hP : va_P (dC, dI) vwCl [(aX, .inr (14, fsX)), (aT, .inr (12, fsT)), (aY, .inr (13, fsY)), (aH, .inr (5, fsHe)), (aJ, .inr (6, fsJ)), (aM, .inr (7, fsM)), (aR, .inr (10, fsR)), (aA, .inr (3, fsA)), (aZ, .inr (15, s417))] H := hP
    have hD : va_D A [(aX, .inr (14, fsX)), (aT, .inr (12, fsT)), (aY, .inr (13, fsY)), (aH, .inr (5, fsHe)), (aJ, .inr (6, fsJ)), (aM, .inr (7, fsM)), (aR, .inr (10, fsR)), (aA, .inr (3, fsA)), (aZ, .inr (15, s417))] := hD
    rcases hw with ⟨c418, er419, o_s417⟩ | ⟨c420, er421, o_s417⟩ | ⟨c422, er423, o_s417⟩ | ⟨c424, er425, o_s417⟩ | ⟨c426, er427, o_s417⟩ | ⟨c428, er429, o_s417⟩ | ⟨c430, er431, o_s417⟩ | ⟨c432, er433, o_s417⟩ | ⟨c434, er435, o_s417⟩ | ⟨c436, er437, o_s417⟩ | ⟨c438, er439, o_s417⟩ | ⟨c440, er441, o_s417⟩ | ⟨c442, er443, o_s417⟩ | ⟨c444, c445, c446, c447, c448, c449, c450, c451, c452, c453, c454, c455, c456, er457, o_s417⟩
    · exact (by exfalso; (try simp only [i_lt, i_le, i_eq, kc_6, kc_0] at c116 c418); omega)
    · exact (by exfalso; (try simp only [i_lt, i_le, i_eq, kc_6, kc_1] at c116 c420); omega)
    · exact (by exfalso; (try simp only [i_lt, i_le, i_eq, kc_6, kc_2] at c116 c422); omega)
    · exact (by exfalso; (try simp only [i_lt, i_le, i_eq, kc_6, kc_3] at c116 c424); omega)
    · exact (by exfalso; (try simp only [i_lt, i_le, i_eq, kc_6, kc_4] at c116 c426); omega)
    · exact (by exfalso; (try simp only [i_lt, i_le, i_eq, kc_6, kc_5] at c116 c428); omega)
    · skip
      subst er431
      have o_s417 := ow_on o_fsZ o_s417 (l' := [(0, .int 0), (3, .int 0), (20, .int 0), (26, .int 0), (28, .int 0), (29, .int 0), (31, .int 0), (36, .int 0), (44, .int 0), (110, .int 0), (113, .int 0), (133, .int 0), (148, .int 0), (149, .int 0), (3, .int 0), (20, .int 0), (26, .int 0), (28, .int 0), (29, .int 0), (31, .int 0), (36, .int 0), (44, .int 0), (110, .int 0), (113, .int 0), (133, .int 0), (148, .int 0), (149, .int 0)]) (w' := [0]) rfl rfl
      refine lv_icmp_eq (tgt := 3111) hx hb dL_law_3106 (by decide) (fun c458 => ?_) (fun c458 => absurd c458 (by decide))
      exact lw_end hst C0 hA hAf hZ hY (Nat.le_of_ble_eq_true rfl) (Nat.le_of_ble_eq_true rfl) dC dI P0k P0 D0 hS ls (lv_sub hl [0, 4] rfl)
    · exact (by exfalso; (try simp only [i_lt, i_le, i_eq, kc_6, kc_7] at c116 c432); omega)
    · exact (by exfalso; (try simp only [i_lt, i_le, i_eq, kc_6, kc_8] at c116 c434); omega)
    · exact (by exfalso; (try simp only [i_lt, i_le, i_eq, kc_6, kc_9] at c116 c436); omega)
    · exact (by exfalso; (try simp only [i_lt, i_le, i_eq, kc_6, kc_10] at c116 c438); omega)
    · exact (by exfalso; (try simp only [i_lt, i_le, i_eq, kc_6, kc_11] at c116 c440); omega)
    · exact (by exfalso; (try simp only [i_lt, i_le, i_eq, kc_6, kc_12] at c116 c442); omega)
    · exact (by exfalso; (try simp only [i_lt, i_le, i_eq, kc_6, kc_0, kc_1, kc_2, kc_3, kc_4, kc_5, kc_7, kc_8, kc_9, kc_10, kc_11, kc_12] at c116 c444 c445 c446 c447 c448 c449 c450 c451 c452 c453 c454 c455 c456); omega)
  · skip
    subst er119
    refine lv_aload_n hx hb dL_law_3096 rfl (lv_at hl 2 rfl) ?_
    refine lv_aload_n hx hb dL_law_3097 rfl (lv_at hl 0 rfl) ?_
    refine lv_iload hx hb dL_law_3098 (lv_at hl 4 rfl) ?_
    refine lv_iconst (v := 1) hx hb dL_law_3100 (by decide) ?_
    refine lv_iadd hx hb dL_law_3101  ?_
    refine lv_topi (fun x459 ex459 => ?_)
    obtain rfl : x459 = 1 := ex459.trans (by decide)
    refine va_sld hx hb hX hbl hbA hS (show vp_in 1 6 from by unfold vp_in; decide) dL_law_3102 ?_
    refine lv_topi (fun x460 ex460 => ?_)
    obtain rfl : w1 = x460 := hw1.trans ex460.symm
    have hPc := hP.sub (ws' := [(aZ, .inr (15, fsZ))]) [0] rfl
    have hDc := hD.sub (ws' := [(aZ, .inr (15, fsZ))]) [0] (by decide) rfl
    have hKc := hK.sub (tys' := []) [] rfl
    have hFc := va_free (wc := [(aZ, .inr (15, fsZ))]) hD hS hA [0] rfl
    refine va_calli (va_runV (As := [.int w1]) (rest := [.int 0]) ⟨hx, hb, hml, hown, hts⟩ (z_X12_about l dC dI H.size aZ fsZ w1 (fh_sub o_fsZ.2 [0, 1, 2, 3, 4, 5, 6, 7, 8, 9, 10, 11, 12] rfl) ) (cwV 1 hts g_lk_50_z_X12_about_314 rfl rfl rfl (by decide +kernel) ⟨Nat.le_of_ble_eq_true rfl, Nat.le_of_ble_eq_true rfl⟩) ⟨fun a U g mk q => by obtain ⟨q0, q1, qP, qK, qD⟩ := q; exact ⟨q0, q1, qP, va_K.moved (u := U) (U := U.calling g mk a) (Vm.Alike.refl U.vm) qK, qD⟩, va_recv hK hP (ci := 15) (q0 := 0) rfl rfl, fun U hU hW => ⟨rfl, by rw [hU], by rw [hU]; exact hPc, va_K.moved hW.alike hKc, hDc.weaken (fun _ _ _ _ => trivial)⟩⟩ rfl rfl hl.1 rfl (lv_room (Nat.le_of_ble_eq_true rfl)) dL_law_3103 ⟨Nat.le_of_ble_eq_true rfl, Nat.le_of_ble_eq_true rfl⟩) hS (fun q _ h => hFc q h) hFc (fun r461 u t H1 locs ht hvm hw hB hz1 hk1 hS => ?_)
    obtain ⟨s462, rfl⟩ : ∃ z, z = u := ⟨_, rfl⟩
    obtain ⟨hP1, hK1, hD1⟩ := hB
    rw [ht] at hP1
    try dsimp only at hw
    obtain ⟨hP, hD⟩ := va_join (wr := [(aX, .inr (14, fsX)), (aT, .inr (12, fsT)), (aY, .inr (13, fsY)), (aH, .inr (5, fsHe)), (aJ, .inr (6, fsJ)), (aM, .inr (7, fsM)), (aR, .inr (10, fsR)), (aA, .inr (3, fsA))]) (w1 := [(aZ, .inr (15, s462))]) hP hD [0] [1, 2, 3, 4, 5, 6, 7, 8] rfl rfl (by decide) (by decide) hk1 hFc hP1 hD1
    have hK := hK.sub (tys' := []) [] rfl
    generalize H1 = H at hP hS ⊢
    have hP : va_P (dC, dI) vwCl [(aX, .inr (14, fsX)), (aT, .inr (12, fsT)), (aY, .inr (13, fsY)), (aH, .inr (5, fsHe)), (aJ, .inr (6, fsJ)), (aM, .inr (7, fsM)), (aR, .inr (10, fsR)), (aA, .inr (3, fsA)), (aZ, .inr (15, s462))] H := hP
    have hD : va_D A [(aX, .inr (14, fsX)), (aT, .inr (12, fsT)), (aY, .inr (13, fsY)), (aH, .inr (5, fsHe)), (aJ, .inr (6, fsJ)), (aM, .inr (7, fsM)), (aR, .inr (10, fsR)), (aA, .inr (3, fsA)), (aZ, .inr (15, s462))] := hD
    rcases hw with ⟨c463, er464, o_s462⟩ | ⟨c465, er466, o_s462⟩ | ⟨c467, er468, o_s462⟩ | ⟨c469, er470, o_s462⟩ | ⟨c471, er472, o_s462⟩ | ⟨c473, er474, o_s462⟩ | ⟨c475, er476, o_s462⟩ | ⟨c477, er478, o_s462⟩ | ⟨c479, er480, o_s462⟩ | ⟨c481, er482, o_s462⟩ | ⟨c483, er484, o_s462⟩ | ⟨c485, er486, o_s462⟩ | ⟨c487, er488, o_s462⟩ | ⟨c489, c490, c491, c492, c493, c494, c495, c496, c497, c498, c499, c500, c501, er502, o_s462⟩
    · exact (by exfalso; (try simp only [i_lt, i_le, i_eq, kc_7, kc_0] at c118 c463); omega)
    · exact (by exfalso; (try simp only [i_lt, i_le, i_eq, kc_7, kc_1] at c118 c465); omega)
    · exact (by exfalso; (try simp only [i_lt, i_le, i_eq, kc_7, kc_2] at c118 c467); omega)
    · exact (by exfalso; (try simp only [i_lt, i_le, i_eq, kc_7, kc_3] at c118 c469); omega)
    · exact (by exfalso; (try simp only [i_lt, i_le, i_eq, kc_7, kc_4] at c118 c471); omega)
    · exact (by exfalso; (try simp only [i_lt, i_le, i_eq, kc_7, kc_5] at c118 c473); omega)
    · exact (by exfalso; (try simp only [i_lt, i_le, i_eq, kc_7, kc_6] at c118 c475); omega)
    · skip
      subst er478
      have o_s462 := ow_on o_fsZ o_s462 (l' := [(0, .int 0), (3, .int 0), (20, .int 0), (26, .int 0), (28, .int 0), (29, .int 0), (31, .int 0), (36, .int 0), (44, .int 0), (110, .int 0), (113, .int 0), (133, .int 0), (148, .int 0), (149, .int 0), (3, .int 0), (20, .int 0), (26, .int 0), (28, .int 0), (29, .int 0), (31, .int 0), (36, .int 0), (44, .int 0), (110, .int 0), (113, .int 0), (133, .int 0), (148, .int 0), (149, .int 0)]) (w' := [0]) rfl rfl
      refine lv_icmp_eq (tgt := 3111) hx hb dL_law_3106 (by decide) (fun c503 => ?_) (fun c503 => absurd c503 (by decide))
      exact lw_end hst C0 hA hAf hZ hY (Nat.le_of_ble_eq_true rfl) (Nat.le_of_ble_eq_true rfl) dC dI P0k P0 D0 hS ls (lv_sub hl [0, 4] rfl)
    · exact (by exfalso; (try simp only [i_lt, i_le, i_eq, kc_7, kc_8] at c118 c479); omega)
    · exact (by exfalso; (try simp only [i_lt, i_le, i_eq, kc_7, kc_9] at c118 c481); omega)
    · exact (by exfalso; (try simp only [i_lt, i_le, i_eq, kc_7, kc_10] at c118 c483); omega)
    · exact (by exfalso; (try simp only [i_lt, i_le, i_eq, kc_7, kc_11] at c118 c485); omega)
    · exact (by exfalso; (try simp only [i_lt, i_le, i_eq, kc_7, kc_12] at c118 c487); omega)
    · exact (by exfalso; (try simp only [i_lt, i_le, i_eq, kc_7, kc_0, kc_1, kc_2, kc_3, kc_4, kc_5, kc_6, kc_8, kc_9, kc_10, kc_11, kc_12] at c118 c489 c490 c491 c492 c493 c494 c495 c496 c497 c498 c499 c500 c501); omega)
  · skip
    subst er121
    refine lv_aload_n hx hb dL_law_3096 rfl (lv_at hl 2 rfl) ?_
    refine lv_aload_n hx hb dL_law_3097 rfl (lv_at hl 0 rfl) ?_
    refine lv_iload hx hb dL_law_3098 (lv_at hl 4 rfl) ?_
    refine lv_iconst (v := 1) hx hb dL_law_3100 (by decide) ?_
    refine lv_iadd hx hb dL_law_3101  ?_
    refine lv_topi (fun x504 ex504 => ?_)
    obtain rfl : x504 = 1 := ex504.trans (by decide)
    refine va_sld hx hb hX hbl hbA hS (show vp_in 1 6 from by unfold vp_in; decide) dL_law_3102 ?_
    refine lv_topi (fun x505 ex505 => ?_)
    obtain rfl : w1 = x505 := hw1.trans ex505.symm
    have hPc := hP.sub (ws' := [(aZ, .inr (15, fsZ))]) [0] rfl
    have hDc := hD.sub (ws' := [(aZ, .inr (15, fsZ))]) [0] (by decide) rfl
    have hKc := hK.sub (tys' := []) [] rfl
    have hFc := va_free (wc := [(aZ, .inr (15, fsZ))]) hD hS hA [0] rfl
    refine va_calli (va_runV (As := [.int w1]) (rest := [.int 0]) ⟨hx, hb, hml, hown, hts⟩ (z_X12_about l dC dI H.size aZ fsZ w1 (fh_sub o_fsZ.2 [0, 1, 2, 3, 4, 5, 6, 7, 8, 9, 10, 11, 12] rfl) ) (cwV 1 hts g_lk_50_z_X12_about_314 rfl rfl rfl (by decide +kernel) ⟨Nat.le_of_ble_eq_true rfl, Nat.le_of_ble_eq_true rfl⟩) ⟨fun a U g mk q => by obtain ⟨q0, q1, qP, qK, qD⟩ := q; exact ⟨q0, q1, qP, va_K.moved (u := U) (U := U.calling g mk a) (Vm.Alike.refl U.vm) qK, qD⟩, va_recv hK hP (ci := 15) (q0 := 0) rfl rfl, fun U hU hW => ⟨rfl, by rw [hU], by rw [hU]; exact hPc, va_K.moved hW.alike hKc, hDc.weaken (fun _ _ _ _ => trivial)⟩⟩ rfl rfl hl.1 rfl (lv_room (Nat.le_of_ble_eq_true rfl)) dL_law_3103 ⟨Nat.le_of_ble_eq_true rfl, Nat.le_of_ble_eq_true rfl⟩) hS (fun q _ h => hFc q h) hFc (fun r506 u t H1 locs ht hvm hw hB hz1 hk1 hS => ?_)
    obtain ⟨s507, rfl⟩ : ∃ z, z = u := ⟨_, rfl⟩
    obtain ⟨hP1, hK1, hD1⟩ := hB
    rw [ht] at hP1
    try dsimp only at hw
    obtain ⟨hP, hD⟩ := va_join (wr := [(aX, .inr (14, fsX)), (aT, .inr (12, fsT)), (aY, .inr (13, fsY)), (aH, .inr (5, fsHe)), (aJ, .inr (6, fsJ)), (aM, .inr (7, fsM)), (aR, .inr (10, fsR)), (aA, .inr (3, fsA))]) (w1 := [(aZ, .inr (15, s507))]) hP hD [0] [1, 2, 3, 4, 5, 6, 7, 8] rfl rfl (by decide) (by decide) hk1 hFc hP1 hD1
    have hK := hK.sub (tys' := []) [] rfl
    generalize H1 = H at hP hS ⊢
    have hP : va_P (dC, dI) vwCl [(aX, .inr (14, fsX)), (aT, .inr (12, fsT)), (aY, .inr (13, fsY)), (aH, .inr (5, fsHe)), (aJ, .inr (6, fsJ)), (aM, .inr (7, fsM)), (aR, .inr (10, fsR)), (aA, .inr (3, fsA)), (aZ, .inr (15, s507))] H := hP
    have hD : va_D A [(aX, .inr (14, fsX)), (aT, .inr (12, fsT)), (aY, .inr (13, fsY)), (aH, .inr (5, fsHe)), (aJ, .inr (6, fsJ)), (aM, .inr (7, fsM)), (aR, .inr (10, fsR)), (aA, .inr (3, fsA)), (aZ, .inr (15, s507))] := hD
    rcases hw with ⟨c508, er509, o_s507⟩ | ⟨c510, er511, o_s507⟩ | ⟨c512, er513, o_s507⟩ | ⟨c514, er515, o_s507⟩ | ⟨c516, er517, o_s507⟩ | ⟨c518, er519, o_s507⟩ | ⟨c520, er521, o_s507⟩ | ⟨c522, er523, o_s507⟩ | ⟨c524, er525, o_s507⟩ | ⟨c526, er527, o_s507⟩ | ⟨c528, er529, o_s507⟩ | ⟨c530, er531, o_s507⟩ | ⟨c532, er533, o_s507⟩ | ⟨c534, c535, c536, c537, c538, c539, c540, c541, c542, c543, c544, c545, c546, er547, o_s507⟩
    · exact (by exfalso; (try simp only [i_lt, i_le, i_eq, kc_8, kc_0] at c120 c508); omega)
    · exact (by exfalso; (try simp only [i_lt, i_le, i_eq, kc_8, kc_1] at c120 c510); omega)
    · exact (by exfalso; (try simp only [i_lt, i_le, i_eq, kc_8, kc_2] at c120 c512); omega)
    · exact (by exfalso; (try simp only [i_lt, i_le, i_eq, kc_8, kc_3] at c120 c514); omega)
    · exact (by exfalso; (try simp only [i_lt, i_le, i_eq, kc_8, kc_4] at c120 c516); omega)
    · exact (by exfalso; (try simp only [i_lt, i_le, i_eq, kc_8, kc_5] at c120 c518); omega)
    · exact (by exfalso; (try simp only [i_lt, i_le, i_eq, kc_8, kc_6] at c120 c520); omega)
    · exact (by exfalso; (try simp only [i_lt, i_le, i_eq, kc_8, kc_7] at c120 c522); omega)
    · skip
      subst er525
      have o_s507 := ow_on o_fsZ o_s507 (l' := [(0, .int 0), (3, .int 0), (20, .int 0), (26, .int 0), (28, .int 0), (29, .int 0), (31, .int 0), (36, .int 0), (44, .int 0), (110, .int 0), (113, .int 0), (133, .int 0), (148, .int 0), (149, .int 0), (3, .int 0), (20, .int 0), (26, .int 0), (28, .int 0), (29, .int 0), (31, .int 0), (36, .int 0), (44, .int 0), (110, .int 0), (113, .int 0), (133, .int 0), (148, .int 0), (149, .int 0)]) (w' := [0]) rfl rfl
      refine lv_icmp_eq (tgt := 3111) hx hb dL_law_3106 (by decide) (fun c548 => ?_) (fun c548 => absurd c548 (by decide))
      exact lw_end hst C0 hA hAf hZ hY (Nat.le_of_ble_eq_true rfl) (Nat.le_of_ble_eq_true rfl) dC dI P0k P0 D0 hS ls (lv_sub hl [0, 4] rfl)
    · exact (by exfalso; (try simp only [i_lt, i_le, i_eq, kc_8, kc_9] at c120 c526); omega)
    · exact (by exfalso; (try simp only [i_lt, i_le, i_eq, kc_8, kc_10] at c120 c528); omega)
    · exact (by exfalso; (try simp only [i_lt, i_le, i_eq, kc_8, kc_11] at c120 c530); omega)
    · exact (by exfalso; (try simp only [i_lt, i_le, i_eq, kc_8, kc_12] at c120 c532); omega)
    · exact (by exfalso; (try simp only [i_lt, i_le, i_eq, kc_8, kc_0, kc_1, kc_2, kc_3, kc_4, kc_5, kc_6, kc_7, kc_9, kc_10, kc_11, kc_12] at c120 c534 c535 c536 c537 c538 c539 c540 c541 c542 c543 c544 c545 c546); omega)
  · skip
    subst er123
    refine lv_aload_n hx hb dL_law_3096 rfl (lv_at hl 2 rfl) ?_
    refine lv_aload_n hx hb dL_law_3097 rfl (lv_at hl 0 rfl) ?_
    refine lv_iload hx hb dL_law_3098 (lv_at hl 4 rfl) ?_
    refine lv_iconst (v := 1) hx hb dL_law_3100 (by decide) ?_
    refine lv_iadd hx hb dL_law_3101  ?_
    refine lv_topi (fun x549 ex549 => ?_)
    obtain rfl : x549 = 1 := ex549.trans (by decide)
    refine va_sld hx hb hX hbl hbA hS (show vp_in 1 6 from by unfold vp_in; decide) dL_law_3102 ?_
    refine lv_topi (fun x550 ex550 => ?_)
    obtain rfl : w1 = x550 := hw1.trans ex550.symm
    have hPc := hP.sub (ws' := [(aZ, .inr (15, fsZ))]) [0] rfl
    have hDc := hD.sub (ws' := [(aZ, .inr (15, fsZ))]) [0] (by decide) rfl
    have hKc := hK.sub (tys' := []) [] rfl
    have hFc := va_free (wc := [(aZ, .inr (15, fsZ))]) hD hS hA [0] rfl
    refine va_calli (va_runV (As := [.int w1]) (rest := [.int 0]) ⟨hx, hb, hml, hown, hts⟩ (z_X12_about l dC dI H.size aZ fsZ w1 (fh_sub o_fsZ.2 [0, 1, 2, 3, 4, 5, 6, 7, 8, 9, 10, 11, 12] rfl) ) (cwV 1 hts g_lk_50_z_X12_about_314 rfl rfl rfl (by decide +kernel) ⟨Nat.le_of_ble_eq_true rfl, Nat.le_of_ble_eq_true rfl⟩) ⟨fun a U g mk q => by obtain ⟨q0, q1, qP, qK, qD⟩ := q; exact ⟨q0, q1, qP, va_K.moved (u := U) (U := U.calling g mk a) (Vm.Alike.refl U.vm) qK, qD⟩, va_recv hK hP (ci := 15) (q0 := 0) rfl rfl, fun U hU hW => ⟨rfl, by rw [hU], by rw [hU]; exact hPc, va_K.moved hW.alike hKc, hDc.weaken (fun _ _ _ _ => trivial)⟩⟩ rfl rfl hl.1 rfl (lv_room (Nat.le_of_ble_eq_true rfl)) dL_law_3103 ⟨Nat.le_of_ble_eq_true rfl, Nat.le_of_ble_eq_true rfl⟩) hS (fun q _ h => hFc q h) hFc (fun r551 u t H1 locs ht hvm hw hB hz1 hk1 hS => ?_)
    obtain ⟨s552, rfl⟩ : ∃ z, z = u := ⟨_, rfl⟩
    obtain ⟨hP1, hK1, hD1⟩ := hB
    rw [ht] at hP1
    try dsimp only at hw
    obtain ⟨hP, hD⟩ := va_join (wr := [(aX, .inr (14, fsX)), (aT, .inr (12, fsT)), (aY, .inr (13, fsY)), (aH, .inr (5, fsHe)), (aJ, .inr (6, fsJ)), (aM, .inr (7, fsM)), (aR, .inr (10, fsR)), (aA, .inr (3, fsA))]) (w1 := [(aZ, .inr (15, s552))]) hP hD [0] [1, 2, 3, 4, 5, 6, 7, 8] rfl rfl (by decide) (by decide) hk1 hFc hP1 hD1
    have hK := hK.sub (tys' := []) [] rfl
    generalize H1 = H at hP hS ⊢
    have hP : va_P (dC, dI) vwCl [(aX, .inr (14, fsX)), (aT, .inr (12, fsT)), (aY, .inr (13, fsY)), (aH, .inr (5, fsHe)), (aJ, .inr (6, fsJ)), (aM, .inr (7, fsM)), (aR, .inr (10, fsR)), (aA, .inr (3, fsA)), (aZ, .inr (15, s552))] H := hP
    have hD : va_D A [(aX, .inr (14, fsX)), (aT, .inr (12, fsT)), (aY, .inr (13, fsY)), (aH, .inr (5, fsHe)), (aJ, .inr (6, fsJ)), (aM, .inr (7, fsM)), (aR, .inr (10, fsR)), (aA, .inr (3, fsA)), (aZ, .inr (15, s552))] := hD
    rcases hw with ⟨c553, er554, o_s552⟩ | ⟨c555, er556, o_s552⟩ | ⟨c557, er558, o_s552⟩ | ⟨c559, er560, o_s552⟩ | ⟨c561, er562, o_s552⟩ | ⟨c563, er564, o_s552⟩ | ⟨c565, er566, o_s552⟩ | ⟨c567, er568, o_s552⟩ | ⟨c569, er570, o_s552⟩ | ⟨c571, er572, o_s552⟩ | ⟨c573, er574, o_s552⟩ | ⟨c575, er576, o_s552⟩ | ⟨c577, er578, o_s552⟩ | ⟨c579, c580, c581, c582, c583, c584, c585, c586, c587, c588, c589, c590, c591, er592, o_s552⟩
    · exact (by exfalso; (try simp only [i_lt, i_le, i_eq, kc_9, kc_0] at c122 c553); omega)
    · exact (by exfalso; (try simp only [i_lt, i_le, i_eq, kc_9, kc_1] at c122 c555); omega)
    · exact (by exfalso; (try simp only [i_lt, i_le, i_eq, kc_9, kc_2] at c122 c557); omega)
    · exact (by exfalso; (try simp only [i_lt, i_le, i_eq, kc_9, kc_3] at c122 c559); omega)
    · exact (by exfalso; (try simp only [i_lt, i_le, i_eq, kc_9, kc_4] at c122 c561); omega)
    · exact (by exfalso; (try simp only [i_lt, i_le, i_eq, kc_9, kc_5] at c122 c563); omega)
    · exact (by exfalso; (try simp only [i_lt, i_le, i_eq, kc_9, kc_6] at c122 c565); omega)
    · exact (by exfalso; (try simp only [i_lt, i_le, i_eq, kc_9, kc_7] at c122 c567); omega)
    · exact (by exfalso; (try simp only [i_lt, i_le, i_eq, kc_9, kc_8] at c122 c569); omega)
    · skip
      subst er572
      have o_s552 := ow_on o_fsZ o_s552 (l' := [(0, .int 0), (3, .int 0), (20, .int 0), (26, .int 0), (28, .int 0), (29, .int 0), (31, .int 0), (36, .int 0), (44, .int 0), (110, .int 0), (113, .int 0), (133, .int 0), (148, .int 0), (149, .int 0), (3, .int 0), (20, .int 0), (26, .int 0), (28, .int 0), (29, .int 0), (31, .int 0), (36, .int 0), (44, .int 0), (110, .int 0), (113, .int 0), (133, .int 0), (148, .int 0), (149, .int 0)]) (w' := [0]) rfl rfl
      refine lv_icmp_eq (tgt := 3111) hx hb dL_law_3106 (by decide) (fun c593 => ?_) (fun c593 => absurd c593 (by decide))
      exact lw_end hst C0 hA hAf hZ hY (Nat.le_of_ble_eq_true rfl) (Nat.le_of_ble_eq_true rfl) dC dI P0k P0 D0 hS ls (lv_sub hl [0, 4] rfl)
    · exact (by exfalso; (try simp only [i_lt, i_le, i_eq, kc_9, kc_10] at c122 c573); omega)
    · exact (by exfalso; (try simp only [i_lt, i_le, i_eq, kc_9, kc_11] at c122 c575); omega)
    · exact (by exfalso; (try simp only [i_lt, i_le, i_eq, kc_9, kc_12] at c122 c577); omega)
    · exact (by exfalso; (try simp only [i_lt, i_le, i_eq, kc_9, kc_0, kc_1, kc_2, kc_3, kc_4, kc_5, kc_6, kc_7, kc_8, kc_10, kc_11, kc_12] at c122 c579 c580 c581 c582 c583 c584 c585 c586 c587 c588 c589 c590 c591); omega)
  · skip
    subst er125
    refine lv_aload_n hx hb dL_law_3096 rfl (lv_at hl 2 rfl) ?_
    refine lv_aload_n hx hb dL_law_3097 rfl (lv_at hl 0 rfl) ?_
    refine lv_iload hx hb dL_law_3098 (lv_at hl 4 rfl) ?_
    refine lv_iconst (v := 1) hx hb dL_law_3100 (by decide) ?_
    refine lv_iadd hx hb dL_law_3101  ?_
    refine lv_topi (fun x594 ex594 => ?_)
    obtain rfl : x594 = 1 := ex594.trans (by decide)
    refine va_sld hx hb hX hbl hbA hS (show vp_in 1 6 from by unfold vp_in; decide) dL_law_3102 ?_
    refine lv_topi (fun x595 ex595 => ?_)
    obtain rfl : w1 = x595 := hw1.trans ex595.symm
    have hPc := hP.sub (ws' := [(aZ, .inr (15, fsZ))]) [0] rfl
    have hDc := hD.sub (ws' := [(aZ, .inr (15, fsZ))]) [0] (by decide) rfl
    have hKc := hK.sub (tys' := []) [] rfl
    have hFc := va_free (wc := [(aZ, .inr (15, fsZ))]) hD hS hA [0] rfl
    refine va_calli (va_runV (As := [.int w1]) (rest := [.int 0]) ⟨hx, hb, hml, hown, hts⟩ (z_X12_about l dC dI H.size aZ fsZ w1 (fh_sub o_fsZ.2 [0, 1, 2, 3, 4, 5, 6, 7, 8, 9, 10, 11, 12] rfl) ) (cwV 1 hts g_lk_50_z_X12_about_314 rfl rfl rfl (by decide +kernel) ⟨Nat.le_of_ble_eq_true rfl, Nat.le_of_ble_eq_true rfl⟩) ⟨fun a U g mk q => by obtain ⟨q0, q1, qP, qK, qD⟩ := q; exact ⟨q0, q1, qP, va_K.moved (u := U) (U := U.calling g mk a) (Vm.Alike.refl U.vm) qK, qD⟩, va_recv hK hP (ci := 15) (q0 := 0) rfl rfl, fun U hU hW => ⟨rfl, by rw [hU], by rw [hU]; exact hPc, va_K.moved hW.alike hKc, hDc.weaken (fun _ _ _ _ => trivial)⟩⟩ rfl rfl hl.1 rfl (lv_room (Nat.le_of_ble_eq_true rfl)) dL_law_3103 ⟨Nat.le_of_ble_eq_true rfl, Nat.le_of_ble_eq_true rfl⟩) hS (fun q _ h => hFc q h) hFc (fun r596 u t H1 locs ht hvm hw hB hz1 hk1 hS => ?_)
    obtain ⟨s597, rfl⟩ : ∃ z, z = u := ⟨_, rfl⟩
    obtain ⟨hP1, hK1, hD1⟩ := hB
    rw [ht] at hP1
    try dsimp only at hw
    obtain ⟨hP, hD⟩ := va_join (wr := [(aX, .inr (14, fsX)), (aT, .inr (12, fsT)), (aY, .inr (13, fsY)), (aH, .inr (5, fsHe)), (aJ, .inr (6, fsJ)), (aM, .inr (7, fsM)), (aR, .inr (10, fsR)), (aA, .inr (3, fsA))]) (w1 := [(aZ, .inr (15, s597))]) hP hD [0] [1, 2, 3, 4, 5, 6, 7, 8] rfl rfl (by decide) (by decide) hk1 hFc hP1 hD1
    have hK := hK.sub (tys' := []) [] rfl
    generalize H1 = H at hP hS ⊢
    have hP : va_P (dC, dI) vwCl [(aX, .inr (14, fsX)), (aT, .inr (12, fsT)), (aY, .inr (13, fsY)), (aH, .inr (5, fsHe)), (aJ, .inr (6, fsJ)), (aM, .inr (7, fsM)), (aR, .inr (10, fsR)), (aA, .inr (3, fsA)), (aZ, .inr (15, s597))] H := hP
    have hD : va_D A [(aX, .inr (14, fsX)), (aT, .inr (12, fsT)), (aY, .inr (13, fsY)), (aH, .inr (5, fsHe)), (aJ, .inr (6, fsJ)), (aM, .inr (7, fsM)), (aR, .inr (10, fsR)), (aA, .inr (3, fsA)), (aZ, .inr (15, s597))] := hD
    rcases hw with ⟨c598, er599, o_s597⟩ | ⟨c600, er601, o_s597⟩ | ⟨c602, er603, o_s597⟩ | ⟨c604, er605, o_s597⟩ | ⟨c606, er607, o_s597⟩ | ⟨c608, er609, o_s597⟩ | ⟨c610, er611, o_s597⟩ | ⟨c612, er613, o_s597⟩ | ⟨c614, er615, o_s597⟩ | ⟨c616, er617, o_s597⟩ | ⟨c618, er619, o_s597⟩ | ⟨c620, er621, o_s597⟩ | ⟨c622, er623, o_s597⟩ | ⟨c624, c625, c626, c627, c628, c629, c630, c631, c632, c633, c634, c635, c636, er637, o_s597⟩
    · exact (by exfalso; (try simp only [i_lt, i_le, i_eq, kc_10, kc_0] at c124 c598); omega)
    · exact (by exfalso; (try simp only [i_lt, i_le, i_eq, kc_10, kc_1] at c124 c600); omega)
    · exact (by exfalso; (try simp only [i_lt, i_le, i_eq, kc_10, kc_2] at c124 c602); omega)
    · exact (by exfalso; (try simp only [i_lt, i_le, i_eq, kc_10, kc_3] at c124 c604); omega)
    · exact (by exfalso; (try simp only [i_lt, i_le, i_eq, kc_10, kc_4] at c124 c606); omega)
    · exact (by exfalso; (try simp only [i_lt, i_le, i_eq, kc_10, kc_5] at c124 c608); omega)
    · exact (by exfalso; (try simp only [i_lt, i_le, i_eq, kc_10, kc_6] at c124 c610); omega)
    · exact (by exfalso; (try simp only [i_lt, i_le, i_eq, kc_10, kc_7] at c124 c612); omega)
    · exact (by exfalso; (try simp only [i_lt, i_le, i_eq, kc_10, kc_8] at c124 c614); omega)
    · exact (by exfalso; (try simp only [i_lt, i_le, i_eq, kc_10, kc_9] at c124 c616); omega)
    · skip
      subst er619
      have o_s597 := ow_on o_fsZ o_s597 (l' := [(0, .int 0), (3, .int 0), (20, .int 0), (26, .int 0), (28, .int 0), (29, .int 0), (31, .int 0), (36, .int 0), (44, .int 0), (110, .int 0), (113, .int 0), (133, .int 0), (148, .int 0), (149, .int 0), (3, .int 0), (20, .int 0), (26, .int 0), (28, .int 0), (29, .int 0), (31, .int 0), (36, .int 0), (44, .int 0), (110, .int 0), (113, .int 0), (133, .int 0), (148, .int 0), (149, .int 0)]) (w' := [0]) rfl rfl
      refine lv_icmp_eq (tgt := 3111) hx hb dL_law_3106 (by decide) (fun c638 => ?_) (fun c638 => absurd c638 (by decide))
      exact lw_end hst C0 hA hAf hZ hY (Nat.le_of_ble_eq_true rfl) (Nat.le_of_ble_eq_true rfl) dC dI P0k P0 D0 hS ls (lv_sub hl [0, 4] rfl)
    · exact (by exfalso; (try simp only [i_lt, i_le, i_eq, kc_10, kc_11] at c124 c620); omega)
    · exact (by exfalso; (try simp only [i_lt, i_le, i_eq, kc_10, kc_12] at c124 c622); omega)
    · exact (by exfalso; (try simp only [i_lt, i_le, i_eq, kc_10, kc_0, kc_1, kc_2, kc_3, kc_4, kc_5, kc_6, kc_7, kc_8, kc_9, kc_11, kc_12] at c124 c624 c625 c626 c627 c628 c629 c630 c631 c632 c633 c634 c635 c636); omega)
  · skip
    subst er127
    refine lv_aload_n hx hb dL_law_3096 rfl (lv_at hl 2 rfl) ?_
    refine lv_aload_n hx hb dL_law_3097 rfl (lv_at hl 0 rfl) ?_
    refine lv_iload hx hb dL_law_3098 (lv_at hl 4 rfl) ?_
    refine lv_iconst (v := 1) hx hb dL_law_3100 (by decide) ?_
    refine lv_iadd hx hb dL_law_3101  ?_
    refine lv_topi (fun x639 ex639 => ?_)
    obtain rfl : x639 = 1 := ex639.trans (by decide)
    refine va_sld hx hb hX hbl hbA hS (show vp_in 1 6 from by unfold vp_in; decide) dL_law_3102 ?_
    refine lv_topi (fun x640 ex640 => ?_)
    obtain rfl : w1 = x640 := hw1.trans ex640.symm
    have hPc := hP.sub (ws' := [(aZ, .inr (15, fsZ))]) [0] rfl
    have hDc := hD.sub (ws' := [(aZ, .inr (15, fsZ))]) [0] (by decide) rfl
    have hKc := hK.sub (tys' := []) [] rfl
    have hFc := va_free (wc := [(aZ, .inr (15, fsZ))]) hD hS hA [0] rfl
    refine va_calli (va_runV (As := [.int w1]) (rest := [.int 0]) ⟨hx, hb, hml, hown, hts⟩ (z_X12_about l dC dI H.size aZ fsZ w1 (fh_sub o_fsZ.2 [0, 1, 2, 3, 4, 5, 6, 7, 8, 9, 10, 11, 12] rfl) ) (cwV 1 hts g_lk_50_z_X12_about_314 rfl rfl rfl (by decide +kernel) ⟨Nat.le_of_ble_eq_true rfl, Nat.le_of_ble_eq_true rfl⟩) ⟨fun a U g mk q => by obtain ⟨q0, q1, qP, qK, qD⟩ := q; exact ⟨q0, q1, qP, va_K.moved (u := U) (U := U.calling g mk a) (Vm.Alike.refl U.vm) qK, qD⟩, va_recv hK hP (ci := 15) (q0 := 0) rfl rfl, fun U hU hW => ⟨rfl, by rw [hU], by rw [hU]; exact hPc, va_K.moved hW.alike hKc, hDc.weaken (fun _ _ _ _ => trivial)⟩⟩ rfl rfl hl.1 rfl (lv_room (Nat.le_of_ble_eq_true rfl)) dL_law_3103 ⟨Nat.le_of_ble_eq_true rfl, Nat.le_of_ble_eq_true rfl⟩) hS (fun q _ h => hFc q h) hFc (fun r641 u t H1 locs ht hvm hw hB hz1 hk1 hS => ?_)
    obtain ⟨s642, rfl⟩ : ∃ z, z = u := ⟨_, rfl⟩
    obtain ⟨hP1, hK1, hD1⟩ := hB
    rw [ht] at hP1
    try dsimp only at hw
    obtain ⟨hP, hD⟩ := va_join (wr := [(aX, .inr (14, fsX)), (aT, .inr (12, fsT)), (aY, .inr (13, fsY)), (aH, .inr (5, fsHe)), (aJ, .inr (6, fsJ)), (aM, .inr (7, fsM)), (aR, .inr (10, fsR)), (aA, .inr (3, fsA))]) (w1 := [(aZ, .inr (15, s642))]) hP hD [0] [1, 2, 3, 4, 5, 6, 7, 8] rfl rfl (by decide) (by decide) hk1 hFc hP1 hD1
    have hK := hK.sub (tys' := []) [] rfl
    generalize H1 = H at hP hS ⊢
    have hP : va_P (dC, dI) vwCl [(aX, .inr (14, fsX)), (aT, .inr (12, fsT)), (aY, .inr (13, fsY)), (aH, .inr (5, fsHe)), (aJ, .inr (6, fsJ)), (aM, .inr (7, fsM)), (aR, .inr (10, fsR)), (aA, .inr (3, fsA)), (aZ, .inr (15, s642))] H := hP
    have hD : va_D A [(aX, .inr (14, fsX)), (aT, .inr (12, fsT)), (aY, .inr (13, fsY)), (aH, .inr (5, fsHe)), (aJ, .inr (6, fsJ)), (aM, .inr (7, fsM)), (aR, .inr (10, fsR)), (aA, .inr (3, fsA)), (aZ, .inr (15, s642))] := hD
    rcases hw with ⟨c643, er644, o_s642⟩ | ⟨c645, er646, o_s642⟩ | ⟨c647, er648, o_s642⟩ | ⟨c649, er650, o_s642⟩ | ⟨c651, er652, o_s642⟩ | ⟨c653, er654, o_s642⟩ | ⟨c655, er656, o_s642⟩ | ⟨c657, er658, o_s642⟩ | ⟨c659, er660, o_s642⟩ | ⟨c661, er662, o_s642⟩ | ⟨c663, er664, o_s642⟩ | ⟨c665, er666, o_s642⟩ | ⟨c667, er668, o_s642⟩ | ⟨c669, c670, c671, c672, c673, c674, c675, c676, c677, c678, c679, c680, c681, er682, o_s642⟩
    · exact (by exfalso; (try simp only [i_lt, i_le, i_eq, kc_11, kc_0] at c126 c643); omega)
    · exact (by exfalso; (try simp only [i_lt, i_le, i_eq, kc_11, kc_1] at c126 c645); omega)
    · exact (by exfalso; (try simp only [i_lt, i_le, i_eq, kc_11, kc_2] at c126 c647); omega)
    · exact (by exfalso; (try simp only [i_lt, i_le, i_eq, kc_11, kc_3] at c126 c649); omega)
    · exact (by exfalso; (try simp only [i_lt, i_le, i_eq, kc_11, kc_4] at c126 c651); omega)
    · exact (by exfalso; (try simp only [i_lt, i_le, i_eq, kc_11, kc_5] at c126 c653); omega)
    · exact (by exfalso; (try simp only [i_lt, i_le, i_eq, kc_11, kc_6] at c126 c655); omega)
    · exact (by exfalso; (try simp only [i_lt, i_le, i_eq, kc_11, kc_7] at c126 c657); omega)
    · exact (by exfalso; (try simp only [i_lt, i_le, i_eq, kc_11, kc_8] at c126 c659); omega)
    · exact (by exfalso; (try simp only [i_lt, i_le, i_eq, kc_11, kc_9] at c126 c661); omega)
    · exact (by exfalso; (try simp only [i_lt, i_le, i_eq, kc_11, kc_10] at c126 c663); omega)
    · skip
      subst er666
      have o_s642 := ow_on o_fsZ o_s642 (l' := [(0, .int 0), (3, .int 0), (20, .int 0), (26, .int 0), (28, .int 0), (29, .int 0), (31, .int 0), (36, .int 0), (44, .int 0), (110, .int 0), (113, .int 0), (133, .int 0), (148, .int 0), (149, .int 0), (3, .int 0), (20, .int 0), (26, .int 0), (28, .int 0), (29, .int 0), (31, .int 0), (36, .int 0), (44, .int 0), (110, .int 0), (113, .int 0), (133, .int 0), (148, .int 0), (149, .int 0)]) (w' := [0]) rfl rfl
      refine lv_icmp_eq (tgt := 3111) hx hb dL_law_3106 (by decide) (fun c683 => ?_) (fun c683 => absurd c683 (by decide))
      exact lw_end hst C0 hA hAf hZ hY (Nat.le_of_ble_eq_true rfl) (Nat.le_of_ble_eq_true rfl) dC dI P0k P0 D0 hS ls (lv_sub hl [0, 4] rfl)
    · exact (by exfalso; (try simp only [i_lt, i_le, i_eq, kc_11, kc_12] at c126 c667); omega)
    · exact (by exfalso; (try simp only [i_lt, i_le, i_eq, kc_11, kc_0, kc_1, kc_2, kc_3, kc_4, kc_5, kc_6, kc_7, kc_8, kc_9, kc_10, kc_12] at c126 c669 c670 c671 c672 c673 c674 c675 c676 c677 c678 c679 c680 c681); omega)
  · skip
    subst er129
    refine lv_aload_n hx hb dL_law_3096 rfl (lv_at hl 2 rfl) ?_
    refine lv_aload_n hx hb dL_law_3097 rfl (lv_at hl 0 rfl) ?_
    refine lv_iload hx hb dL_law_3098 (lv_at hl 4 rfl) ?_
    refine lv_iconst (v := 1) hx hb dL_law_3100 (by decide) ?_
    refine lv_iadd hx hb dL_law_3101  ?_
    refine lv_topi (fun x684 ex684 => ?_)
    obtain rfl : x684 = 1 := ex684.trans (by decide)
    refine va_sld hx hb hX hbl hbA hS (show vp_in 1 6 from by unfold vp_in; decide) dL_law_3102 ?_
    refine lv_topi (fun x685 ex685 => ?_)
    obtain rfl : w1 = x685 := hw1.trans ex685.symm
    have hPc := hP.sub (ws' := [(aZ, .inr (15, fsZ))]) [0] rfl
    have hDc := hD.sub (ws' := [(aZ, .inr (15, fsZ))]) [0] (by decide) rfl
    have hKc := hK.sub (tys' := []) [] rfl
    have hFc := va_free (wc := [(aZ, .inr (15, fsZ))]) hD hS hA [0] rfl
    refine va_calli (va_runV (As := [.int w1]) (rest := [.int 0]) ⟨hx, hb, hml, hown, hts⟩ (z_X12_about l dC dI H.size aZ fsZ w1 (fh_sub o_fsZ.2 [0, 1, 2, 3, 4, 5, 6, 7, 8, 9, 10, 11, 12] rfl) ) (cwV 1 hts g_lk_50_z_X12_about_314 rfl rfl rfl (by decide +kernel) ⟨Nat.le_of_ble_eq_true rfl, Nat.le_of_ble_eq_true rfl⟩) ⟨fun a U g mk q => by obtain ⟨q0, q1, qP, qK, qD⟩ := q; exact ⟨q0, q1, qP, va_K.moved (u := U) (U := U.calling g mk a) (Vm.Alike.refl U.vm) qK, qD⟩, va_recv hK hP (ci := 15) (q0 := 0) rfl rfl, fun U hU hW => ⟨rfl, by rw [hU], by rw [hU]; exact hPc, va_K.moved hW.alike hKc, hDc.weaken (fun _ _ _ _ => trivial)⟩⟩ rfl rfl hl.1 rfl (lv_room (Nat.le_of_ble_eq_true rfl)) dL_law_3103 ⟨Nat.le_of_ble_eq_true rfl, Nat.le_of_ble_eq_true rfl⟩) hS (fun q _ h => hFc q h) hFc (fun r686 u t H1 locs ht hvm hw hB hz1 hk1 hS => ?_)
    obtain ⟨s687, rfl⟩ : ∃ z, z = u := ⟨_, rfl⟩
    obtain ⟨hP1, hK1, hD1⟩ := hB
    rw [ht] at hP1
    try dsimp only at hw
    obtain ⟨hP, hD⟩ := va_join (wr := [(aX, .inr (14, fsX)), (aT, .inr (12, fsT)), (aY, .inr (13, fsY)), (aH, .inr (5, fsHe)), (aJ, .inr (6, fsJ)), (aM, .inr (7, fsM)), (aR, .inr (10, fsR)), (aA, .inr (3, fsA))]) (w1 := [(aZ, .inr (15, s687))]) hP hD [0] [1, 2, 3, 4, 5, 6, 7, 8] rfl rfl (by decide) (by decide) hk1 hFc hP1 hD1
    have hK := hK.sub (tys' := []) [] rfl
    generalize H1 = H at hP hS ⊢
    have hP : va_P (dC, dI) vwCl [(aX, .inr (14, fsX)), (aT, .inr (12, fsT)), (aY, .inr (13, fsY)), (aH, .inr (5, fsHe)), (aJ, .inr (6, fsJ)), (aM, .inr (7, fsM)), (aR, .inr (10, fsR)), (aA, .inr (3, fsA)), (aZ, .inr (15, s687))] H := hP
    have hD : va_D A [(aX, .inr (14, fsX)), (aT, .inr (12, fsT)), (aY, .inr (13, fsY)), (aH, .inr (5, fsHe)), (aJ, .inr (6, fsJ)), (aM, .inr (7, fsM)), (aR, .inr (10, fsR)), (aA, .inr (3, fsA)), (aZ, .inr (15, s687))] := hD
    rcases hw with ⟨c688, er689, o_s687⟩ | ⟨c690, er691, o_s687⟩ | ⟨c692, er693, o_s687⟩ | ⟨c694, er695, o_s687⟩ | ⟨c696, er697, o_s687⟩ | ⟨c698, er699, o_s687⟩ | ⟨c700, er701, o_s687⟩ | ⟨c702, er703, o_s687⟩ | ⟨c704, er705, o_s687⟩ | ⟨c706, er707, o_s687⟩ | ⟨c708, er709, o_s687⟩ | ⟨c710, er711, o_s687⟩ | ⟨c712, er713, o_s687⟩ | ⟨c714, c715, c716, c717, c718, c719, c720, c721, c722, c723, c724, c725, c726, er727, o_s687⟩
    · exact (by exfalso; (try simp only [i_lt, i_le, i_eq, kc_12, kc_0] at c128 c688); omega)
    · exact (by exfalso; (try simp only [i_lt, i_le, i_eq, kc_12, kc_1] at c128 c690); omega)
    · exact (by exfalso; (try simp only [i_lt, i_le, i_eq, kc_12, kc_2] at c128 c692); omega)
    · exact (by exfalso; (try simp only [i_lt, i_le, i_eq, kc_12, kc_3] at c128 c694); omega)
    · exact (by exfalso; (try simp only [i_lt, i_le, i_eq, kc_12, kc_4] at c128 c696); omega)
    · exact (by exfalso; (try simp only [i_lt, i_le, i_eq, kc_12, kc_5] at c128 c698); omega)
    · exact (by exfalso; (try simp only [i_lt, i_le, i_eq, kc_12, kc_6] at c128 c700); omega)
    · exact (by exfalso; (try simp only [i_lt, i_le, i_eq, kc_12, kc_7] at c128 c702); omega)
    · exact (by exfalso; (try simp only [i_lt, i_le, i_eq, kc_12, kc_8] at c128 c704); omega)
    · exact (by exfalso; (try simp only [i_lt, i_le, i_eq, kc_12, kc_9] at c128 c706); omega)
    · exact (by exfalso; (try simp only [i_lt, i_le, i_eq, kc_12, kc_10] at c128 c708); omega)
    · exact (by exfalso; (try simp only [i_lt, i_le, i_eq, kc_12, kc_11] at c128 c710); omega)
    · skip
      subst er713
      have o_s687 := ow_on o_fsZ o_s687 (l' := [(0, .int 0), (3, .int 0), (20, .int 0), (26, .int 0), (28, .int 0), (29, .int 0), (31, .int 0), (36, .int 0), (44, .int 0), (110, .int 0), (113, .int 0), (133, .int 0), (148, .int 0), (149, .int 0), (3, .int 0), (20, .int 0), (26, .int 0), (28, .int 0), (29, .int 0), (31, .int 0), (36, .int 0), (44, .int 0), (110, .int 0), (113, .int 0), (133, .int 0), (148, .int 0), (149, .int 0)]) (w' := [0]) rfl rfl
      refine lv_icmp_eq (tgt := 3111) hx hb dL_law_3106 (by decide) (fun c728 => ?_) (fun c728 => absurd c728 (by decide))
      exact lw_end hst C0 hA hAf hZ hY (Nat.le_of_ble_eq_true rfl) (Nat.le_of_ble_eq_true rfl) dC dI P0k P0 D0 hS ls (lv_sub hl [0, 4] rfl)
    · exact (by exfalso; (try simp only [i_lt, i_le, i_eq, kc_12, kc_0, kc_1, kc_2, kc_3, kc_4, kc_5, kc_6, kc_7, kc_8, kc_9, kc_10, kc_11] at c128 c714 c715 c716 c717 c718 c719 c720 c721 c722 c723 c724 c725 c726); omega)
  · skip
    subst er143
    refine lv_aload_n hx hb dL_law_3096 rfl (lv_at hl 2 rfl) ?_
    refine lv_aload_n hx hb dL_law_3097 rfl (lv_at hl 0 rfl) ?_
    refine lv_iload hx hb dL_law_3098 (lv_at hl 4 rfl) ?_
    refine lv_iconst (v := 1) hx hb dL_law_3100 (by decide) ?_
    refine lv_iadd hx hb dL_law_3101  ?_
    refine lv_topi (fun x729 ex729 => ?_)
    obtain rfl : x729 = 1 := ex729.trans (by decide)
    refine va_sld hx hb hX hbl hbA hS (show vp_in 1 6 from by unfold vp_in; decide) dL_law_3102 ?_
    refine lv_topi (fun x730 ex730 => ?_)
    obtain rfl : w1 = x730 := hw1.trans ex730.symm
    have hPc := hP.sub (ws' := [(aZ, .inr (15, fsZ))]) [0] rfl
    have hDc := hD.sub (ws' := [(aZ, .inr (15, fsZ))]) [0] (by decide) rfl
    have hKc := hK.sub (tys' := []) [] rfl
    have hFc := va_free (wc := [(aZ, .inr (15, fsZ))]) hD hS hA [0] rfl
    refine va_calli (va_runV (As := [.int w1]) (rest := [.int (-1)]) ⟨hx, hb, hml, hown, hts⟩ (z_X12_about l dC dI H.size aZ fsZ w1 (fh_sub o_fsZ.2 [0, 1, 2, 3, 4, 5, 6, 7, 8, 9, 10, 11, 12] rfl) ) (cwV 1 hts g_lk_50_z_X12_about_314 rfl rfl rfl (by decide +kernel) ⟨Nat.le_of_ble_eq_true rfl, Nat.le_of_ble_eq_true rfl⟩) ⟨fun a U g mk q => by obtain ⟨q0, q1, qP, qK, qD⟩ := q; exact ⟨q0, q1, qP, va_K.moved (u := U) (U := U.calling g mk a) (Vm.Alike.refl U.vm) qK, qD⟩, va_recv hK hP (ci := 15) (q0 := 0) rfl rfl, fun U hU hW => ⟨rfl, by rw [hU], by rw [hU]; exact hPc, va_K.moved hW.alike hKc, hDc.weaken (fun _ _ _ _ => trivial)⟩⟩ rfl rfl hl.1 rfl (lv_room (Nat.le_of_ble_eq_true rfl)) dL_law_3103 ⟨Nat.le_of_ble_eq_true rfl, Nat.le_of_ble_eq_true rfl⟩) hS (fun q _ h => hFc q h) hFc (fun r731 u t H1 locs ht hvm hw hB hz1 hk1 hS => ?_)
    obtain ⟨s732, rfl⟩ : ∃ z, z = u := ⟨_, rfl⟩
    obtain ⟨hP1, hK1, hD1⟩ := hB
    rw [ht] at hP1
    try dsimp only at hw
    obtain ⟨hP, hD⟩ := va_join (wr := [(aX, .inr (14, fsX)), (aT, .inr (12, fsT)), (aY, .inr (13, fsY)), (aH, .inr (5, fsHe)), (aJ, .inr (6, fsJ)), (aM, .inr (7, fsM)), (aR, .inr (10, fsR)), (aA, .inr (3, fsA))]) (w1 := [(aZ, .inr (15, s732))]) hP hD [0] [1, 2, 3, 4, 5, 6, 7, 8] rfl rfl (by decide) (by decide) hk1 hFc hP1 hD1
    have hK := hK.sub (tys' := []) [] rfl
    generalize H1 = H at hP hS ⊢
    have hP : va_P (dC, dI) vwCl [(aX, .inr (14, fsX)), (aT, .inr (12, fsT)), (aY, .inr (13, fsY)), (aH, .inr (5, fsHe)), (aJ, .inr (6, fsJ)), (aM, .inr (7, fsM)), (aR, .inr (10, fsR)), (aA, .inr (3, fsA)), (aZ, .inr (15, s732))] H := hP
    have hD : va_D A [(aX, .inr (14, fsX)), (aT, .inr (12, fsT)), (aY, .inr (13, fsY)), (aH, .inr (5, fsHe)), (aJ, .inr (6, fsJ)), (aM, .inr (7, fsM)), (aR, .inr (10, fsR)), (aA, .inr (3, fsA)), (aZ, .inr (15, s732))] := hD
    rcases hw with ⟨c733, er734, o_s732⟩ | ⟨c735, er736, o_s732⟩ | ⟨c737, er738, o_s732⟩ | ⟨c739, er740, o_s732⟩ | ⟨c741, er742, o_s732⟩ | ⟨c743, er744, o_s732⟩ | ⟨c745, er746, o_s732⟩ | ⟨c747, er748, o_s732⟩ | ⟨c749, er750, o_s732⟩ | ⟨c751, er752, o_s732⟩ | ⟨c753, er754, o_s732⟩ | ⟨c755, er756, o_s732⟩ | ⟨c757, er758, o_s732⟩ | ⟨c759, c760, c761, c762, c763, c764, c765, c766, c767, c768, c769, c770, c771, er772, o_s732⟩
    · skip
      subst er734
      have o_s732 := ow_on o_fsZ o_s732 (l' := [(0, .int 0), (3, .int 0), (20, .int 0), (26, .int 0), (28, .int 0), (29, .int 0), (31, .int 0), (36, .int 0), (44, .int 0), (110, .int 0), (113, .int 0), (133, .int 0), (148, .int 0), (149, .int 0), (3, .int 0), (20, .int 0), (26, .int 0), (28, .int 0), (29, .int 0), (31, .int 0), (36, .int 0), (44, .int 0), (110, .int 0), (113, .int 0), (133, .int 0), (148, .int 0), (149, .int 0)]) (w' := [0]) rfl rfl
      refine lv_icmp_eq (tgt := 3111) hx hb dL_law_3106 (by decide) (fun c773 => absurd c773 (by decide)) (fun c773 => ?_)
      refine lv_iconst (v := 0) hx hb dL_law_3109 (by decide) ?_
      exact (by exfalso; (try simp only [i_lt, i_le, i_eq, kc_0, kc_1, kc_2, kc_3, kc_4, kc_5, kc_6, kc_7, kc_8, kc_9, kc_10, kc_11, kc_12] at c130 c131 c132 c133 c134 c135 c136 c137 c138 c139 c140 c141 c142 c733) <;> omega)
    · skip
      subst er736
      have o_s732 := ow_on o_fsZ o_s732 (l' := [(0, .int 0), (3, .int 0), (20, .int 0), (26, .int 0), (28, .int 0), (29, .int 0), (31, .int 0), (36, .int 0), (44, .int 0), (110, .int 0), (113, .int 0), (133, .int 0), (148, .int 0), (149, .int 0), (3, .int 0), (20, .int 0), (26, .int 0), (28, .int 0), (29, .int 0), (31, .int 0), (36, .int 0), (44, .int 0), (110, .int 0), (113, .int 0), (133, .int 0), (148, .int 0), (149, .int 0)]) (w' := [0]) rfl rfl
      refine lv_icmp_eq (tgt := 3111) hx hb dL_law_3106 (by decide) (fun c774 => absurd c774 (by decide)) (fun c774 => ?_)
      refine lv_iconst (v := 0) hx hb dL_law_3109 (by decide) ?_
      exact (by exfalso; (try simp only [i_lt, i_le, i_eq, kc_0, kc_1, kc_2, kc_3, kc_4, kc_5, kc_6, kc_7, kc_8, kc_9, kc_10, kc_11, kc_12] at c130 c131 c132 c133 c134 c135 c136 c137 c138 c139 c140 c141 c142 c735) <;> omega)
    · skip
      subst er738
      have o_s732 := ow_on o_fsZ o_s732 (l' := [(0, .int 0), (3, .int 0), (20, .int 0), (26, .int 0), (28, .int 0), (29, .int 0), (31, .int 0), (36, .int 0), (44, .int 0), (110, .int 0), (113, .int 0), (133, .int 0), (148, .int 0), (149, .int 0), (3, .int 0), (20, .int 0), (26, .int 0), (28, .int 0), (29, .int 0), (31, .int 0), (36, .int 0), (44, .int 0), (110, .int 0), (113, .int 0), (133, .int 0), (148, .int 0), (149, .int 0)]) (w' := [0]) rfl rfl
      refine lv_icmp_eq (tgt := 3111) hx hb dL_law_3106 (by decide) (fun c775 => absurd c775 (by decide)) (fun c775 => ?_)
      refine lv_iconst (v := 0) hx hb dL_law_3109 (by decide) ?_
      exact (by exfalso; (try simp only [i_lt, i_le, i_eq, kc_0, kc_1, kc_2, kc_3, kc_4, kc_5, kc_6, kc_7, kc_8, kc_9, kc_10, kc_11, kc_12] at c130 c131 c132 c133 c134 c135 c136 c137 c138 c139 c140 c141 c142 c737) <;> omega)
    · skip
      subst er740
      have o_s732 := ow_on o_fsZ o_s732 (l' := [(0, .int 0), (3, .int 0), (20, .int 0), (26, .int 0), (28, .int 0), (29, .int 0), (31, .int 0), (36, .int 0), (44, .int 0), (110, .int 0), (113, .int 0), (133, .int 0), (148, .int 0), (149, .int 0), (3, .int 0), (20, .int 0), (26, .int 0), (28, .int 0), (29, .int 0), (31, .int 0), (36, .int 0), (44, .int 0), (110, .int 0), (113, .int 0), (133, .int 0), (148, .int 0), (149, .int 0)]) (w' := [0]) rfl rfl
      refine lv_icmp_eq (tgt := 3111) hx hb dL_law_3106 (by decide) (fun c776 => absurd c776 (by decide)) (fun c776 => ?_)
      refine lv_iconst (v := 0) hx hb dL_law_3109 (by decide) ?_
      exact (by exfalso; (try simp only [i_lt, i_le, i_eq, kc_0, kc_1, kc_2, kc_3, kc_4, kc_5, kc_6, kc_7, kc_8, kc_9, kc_10, kc_11, kc_12] at c130 c131 c132 c133 c134 c135 c136 c137 c138 c139 c140 c141 c142 c739) <;> omega)
    · skip
      subst er742
      have o_s732 := ow_on o_fsZ o_s732 (l' := [(0, .int 0), (3, .int 0), (20, .int 0), (26, .int 0), (28, .int 0), (29, .int 0), (31, .int 0), (36, .int 0), (44, .int 0), (110, .int 0), (113, .int 0), (133, .int 0), (148, .int 0), (149, .int 0), (3, .int 0), (20, .int 0), (26, .int 0), (28, .int 0), (29, .int 0), (31, .int 0), (36, .int 0), (44, .int 0), (110, .int 0), (113, .int 0), (133, .int 0), (148, .int 0), (149, .int 0)]) (w' := [0]) rfl rfl
      refine lv_icmp_eq (tgt := 3111) hx hb dL_law_3106 (by decide) (fun c777 => absurd c777 (by decide)) (fun c777 => ?_)
      refine lv_iconst (v := 0) hx hb dL_law_3109 (by decide) ?_
      exact (by exfalso; (try simp only [i_lt, i_le, i_eq, kc_0, kc_1, kc_2, kc_3, kc_4, kc_5, kc_6, kc_7, kc_8, kc_9, kc_10, kc_11, kc_12] at c130 c131 c132 c133 c134 c135 c136 c137 c138 c139 c140 c141 c142 c741) <;> omega)
    · skip
      subst er744
      have o_s732 := ow_on o_fsZ o_s732 (l' := [(0, .int 0), (3, .int 0), (20, .int 0), (26, .int 0), (28, .int 0), (29, .int 0), (31, .int 0), (36, .int 0), (44, .int 0), (110, .int 0), (113, .int 0), (133, .int 0), (148, .int 0), (149, .int 0), (3, .int 0), (20, .int 0), (26, .int 0), (28, .int 0), (29, .int 0), (31, .int 0), (36, .int 0), (44, .int 0), (110, .int 0), (113, .int 0), (133, .int 0), (148, .int 0), (149, .int 0)]) (w' := [0]) rfl rfl
      refine lv_icmp_eq (tgt := 3111) hx hb dL_law_3106 (by decide) (fun c778 => absurd c778 (by decide)) (fun c778 => ?_)
      refine lv_iconst (v := 0) hx hb dL_law_3109 (by decide) ?_
      exact (by exfalso; (try simp only [i_lt, i_le, i_eq, kc_0, kc_1, kc_2, kc_3, kc_4, kc_5, kc_6, kc_7, kc_8, kc_9, kc_10, kc_11, kc_12] at c130 c131 c132 c133 c134 c135 c136 c137 c138 c139 c140 c141 c142 c743) <;> omega)
    · skip
      subst er746
      have o_s732 := ow_on o_fsZ o_s732 (l' := [(0, .int 0), (3, .int 0), (20, .int 0), (26, .int 0), (28, .int 0), (29, .int 0), (31, .int 0), (36, .int 0), (44, .int 0), (110, .int 0), (113, .int 0), (133, .int 0), (148, .int 0), (149, .int 0), (3, .int 0), (20, .int 0), (26, .int 0), (28, .int 0), (29, .int 0), (31, .int 0), (36, .int 0), (44, .int 0), (110, .int 0), (113, .int 0), (133, .int 0), (148, .int 0), (149, .int 0)]) (w' := [0]) rfl rfl
      refine lv_icmp_eq (tgt := 3111) hx hb dL_law_3106 (by decide) (fun c779 => absurd c779 (by decide)) (fun c779 => ?_)
      refine lv_iconst (v := 0) hx hb dL_law_3109 (by decide) ?_
      exact (by exfalso; (try simp only [i_lt, i_le, i_eq, kc_0, kc_1, kc_2, kc_3, kc_4, kc_5, kc_6, kc_7, kc_8, kc_9, kc_10, kc_11, kc_12] at c130 c131 c132 c133 c134 c135 c136 c137 c138 c139 c140 c141 c142 c745) <;> omega)
    · skip
      subst er748
      have o_s732 := ow_on o_fsZ o_s732 (l' := [(0, .int 0), (3, .int 0), (20, .int 0), (26, .int 0), (28, .int 0), (29, .int 0), (31, .int 0), (36, .int 0), (44, .int 0), (110, .int 0), (113, .int 0), (133, .int 0), (148, .int 0), (149, .int 0), (3, .int 0), (20, .int 0), (26, .int 0), (28, .int 0), (29, .int 0), (31, .int 0), (36, .int 0), (44, .int 0), (110, .int 0), (113, .int 0), (133, .int 0), (148, .int 0), (149, .int 0)]) (w' := [0]) rfl rfl
      refine lv_icmp_eq (tgt := 3111) hx hb dL_law_3106 (by decide) (fun c780 => absurd c780 (by decide)) (fun c780 => ?_)
      refine lv_iconst (v := 0) hx hb dL_law_3109 (by decide) ?_
      exact (by exfalso; (try simp only [i_lt, i_le, i_eq, kc_0, kc_1, kc_2, kc_3, kc_4, kc_5, kc_6, kc_7, kc_8, kc_9, kc_10, kc_11, kc_12] at c130 c131 c132 c133 c134 c135 c136 c137 c138 c139 c140 c141 c142 c747) <;> omega)
    · skip
      subst er750
      have o_s732 := ow_on o_fsZ o_s732 (l' := [(0, .int 0), (3, .int 0), (20, .int 0), (26, .int 0), (28, .int 0), (29, .int 0), (31, .int 0), (36, .int 0), (44, .int 0), (110, .int 0), (113, .int 0), (133, .int 0), (148, .int 0), (149, .int 0), (3, .int 0), (20, .int 0), (26, .int 0), (28, .int 0), (29, .int 0), (31, .int 0), (36, .int 0), (44, .int 0), (110, .int 0), (113, .int 0), (133, .int 0), (148, .int 0), (149, .int 0)]) (w' := [0]) rfl rfl
      refine lv_icmp_eq (tgt := 3111) hx hb dL_law_3106 (by decide) (fun c781 => absurd c781 (by decide)) (fun c781 => ?_)
      refine lv_iconst (v := 0) hx hb dL_law_3109 (by decide) ?_
      exact (by exfalso; (try simp only [i_lt, i_le, i_eq, kc_0, kc_1, kc_2, kc_3, kc_4, kc_5, kc_6, kc_7, kc_8, kc_9, kc_10, kc_11, kc_12] at c130 c131 c132 c133 c134 c135 c136 c137 c138 c139 c140 c141 c142 c749) <;> omega)
    · skip
      subst er752
      have o_s732 := ow_on o_fsZ o_s732 (l' := [(0, .int 0), (3, .int 0), (20, .int 0), (26, .int 0), (28, .int 0), (29, .int 0), (31, .int 0), (36, .int 0), (44, .int 0), (110, .int 0), (113, .int 0), (133, .int 0), (148, .int 0), (149, .int 0), (3, .int 0), (20, .int 0), (26, .int 0), (28, .int 0), (29, .int 0), (31, .int 0), (36, .int 0), (44, .int 0), (110, .int 0), (113, .int 0), (133, .int 0), (148, .int 0), (149, .int 0)]) (w' := [0]) rfl rfl
      refine lv_icmp_eq (tgt := 3111) hx hb dL_law_3106 (by decide) (fun c782 => absurd c782 (by decide)) (fun c782 => ?_)
      refine lv_iconst (v := 0) hx hb dL_law_3109 (by decide) ?_
      exact (by exfalso; (try simp only [i_lt, i_le, i_eq, kc_0, kc_1, kc_2, kc_3, kc_4, kc_5, kc_6, kc_7, kc_8, kc_9, kc_10, kc_11, kc_12] at c130 c131 c132 c133 c134 c135 c136 c137 c138 c139 c140 c141 c142 c751) <;> omega)
    · skip
      subst er754
      have o_s732 := ow_on o_fsZ o_s732 (l' := [(0, .int 0), (3, .int 0), (20, .int 0), (26, .int 0), (28, .int 0), (29, .int 0), (31, .int 0), (36, .int 0), (44, .int 0), (110, .int 0), (113, .int 0), (133, .int 0), (148, .int 0), (149, .int 0), (3, .int 0), (20, .int 0), (26, .int 0), (28, .int 0), (29, .int 0), (31, .int 0), (36, .int 0), (44, .int 0), (110, .int 0), (113, .int 0), (133, .int 0), (148, .int 0), (149, .int 0)]) (w' := [0]) rfl rfl
      refine lv_icmp_eq (tgt := 3111) hx hb dL_law_3106 (by decide) (fun c783 => absurd c783 (by decide)) (fun c783 => ?_)
      refine lv_iconst (v := 0) hx hb dL_law_3109 (by decide) ?_
      exact (by exfalso; (try simp only [i_lt, i_le, i_eq, kc_0, kc_1, kc_2, kc_3, kc_4, kc_5, kc_6, kc_7, kc_8, kc_9, kc_10, kc_11, kc_12] at c130 c131 c132 c133 c134 c135 c136 c137 c138 c139 c140 c141 c142 c753) <;> omega)
    · skip
      subst er756
      have o_s732 := ow_on o_fsZ o_s732 (l' := [(0, .int 0), (3, .int 0), (20, .int 0), (26, .int 0), (28, .int 0), (29, .int 0), (31, .int 0), (36, .int 0), (44, .int 0), (110, .int 0), (113, .int 0), (133, .int 0), (148, .int 0), (149, .int 0), (3, .int 0), (20, .int 0), (26, .int 0), (28, .int 0), (29, .int 0), (31, .int 0), (36, .int 0), (44, .int 0), (110, .int 0), (113, .int 0), (133, .int 0), (148, .int 0), (149, .int 0)]) (w' := [0]) rfl rfl
      refine lv_icmp_eq (tgt := 3111) hx hb dL_law_3106 (by decide) (fun c784 => absurd c784 (by decide)) (fun c784 => ?_)
      refine lv_iconst (v := 0) hx hb dL_law_3109 (by decide) ?_
      exact (by exfalso; (try simp only [i_lt, i_le, i_eq, kc_0, kc_1, kc_2, kc_3, kc_4, kc_5, kc_6, kc_7, kc_8, kc_9, kc_10, kc_11, kc_12] at c130 c131 c132 c133 c134 c135 c136 c137 c138 c139 c140 c141 c142 c755) <;> omega)
    · skip
      subst er758
      have o_s732 := ow_on o_fsZ o_s732 (l' := [(0, .int 0), (3, .int 0), (20, .int 0), (26, .int 0), (28, .int 0), (29, .int 0), (31, .int 0), (36, .int 0), (44, .int 0), (110, .int 0), (113, .int 0), (133, .int 0), (148, .int 0), (149, .int 0), (3, .int 0), (20, .int 0), (26, .int 0), (28, .int 0), (29, .int 0), (31, .int 0), (36, .int 0), (44, .int 0), (110, .int 0), (113, .int 0), (133, .int 0), (148, .int 0), (149, .int 0)]) (w' := [0]) rfl rfl
      refine lv_icmp_eq (tgt := 3111) hx hb dL_law_3106 (by decide) (fun c785 => absurd c785 (by decide)) (fun c785 => ?_)
      refine lv_iconst (v := 0) hx hb dL_law_3109 (by decide) ?_
      exact (by exfalso; (try simp only [i_lt, i_le, i_eq, kc_0, kc_1, kc_2, kc_3, kc_4, kc_5, kc_6, kc_7, kc_8, kc_9, kc_10, kc_11, kc_12] at c130 c131 c132 c133 c134 c135 c136 c137 c138 c139 c140 c141 c142 c757) <;> omega)
    · skip
      subst er772
      have o_s732 := ow_on o_fsZ o_s732 (l' := [(0, .int 0), (3, .int 0), (20, .int 0), (26, .int 0), (28, .int 0), (29, .int 0), (31, .int 0), (36, .int 0), (44, .int 0), (110, .int 0), (113, .int 0), (133, .int 0), (148, .int 0), (149, .int 0), (3, .int 0), (20, .int 0), (26, .int 0), (28, .int 0), (29, .int 0), (31, .int 0), (36, .int 0), (44, .int 0), (110, .int 0), (113, .int 0), (133, .int 0), (148, .int 0), (149, .int 0)]) (w' := [0]) rfl rfl
      refine lv_icmp_eq (tgt := 3111) hx hb dL_law_3106 (by decide) (fun c786 => ?_) (fun c786 => absurd c786 (by decide))
      exact lw_end hst C0 hA hAf hZ hY (Nat.le_of_ble_eq_true rfl) (Nat.le_of_ble_eq_true rfl) dC dI P0k P0 D0 hS ls (lv_sub hl [0, 4] rfl)

