set_option maxRecDepth 20000 in
theorem g_lk_0_z_X11_feed_120 : GoodIn lwW (wsV RL 120 RX11 yX11_feed w_z_X11_feed) := goodIn_app (goodIn_sub (ws := ([.methodLink RL 120 yX11_feed, .instanceMethod yX11_feed, .selects RX11 yX11_feed yX11_feed, .initialized RX11] : List Cond)) (gm_c (gm_at lwV_0_in 0 rfl) (gm_c (gm_at lwV_0_in 1 rfl) (gm_c (gm_at lwV_0_in 2 rfl) (gm_c (gm_at lwV_0_in 3 rfl) gm_nil)))) (by decide +kernel)) (goodIn_ca (goodIn_sub (ws := .code yX11_feed cX11_feed 6 none :: l_z_X11_feed) (gm_c (gm_at lwV_0_in 8 rfl) (gm_c (gm_at lwV_0_in 9 rfl) (gm_c (gm_at lwV_0_in 10 rfl) (gm_c (gm_at lwV_0_in 11 rfl) (gm_c (gm_at lwV_1_in 0 rfl) (gm_c (gm_at lwV_1_in 1 rfl) (gm_c (gm_at lwV_1_in 2 rfl) (gm_c (gm_at lwV_1_in 3 rfl) gm_nil)))))))) (by decide +kernel)) (goodIn_app (goodIn_in il_X11 gd_X11) (goodIn_in il_X9 gd_X9)))
set_option maxRecDepth 20000 in
theorem g_lk_0_z_X12_feed_124 : GoodIn lwW (wsV RL 124 RX12 yX12_feed w_z_X12_feed) := goodIn_app (goodIn_sub (ws := ([.methodLink RL 124 yX12_feed, .instanceMethod yX12_feed, .selects RX12 yX12_feed yX12_feed, .initialized RX12] : List Cond)) (gm_c (gm_at lwV_0_in 4 rfl) (gm_c (gm_at lwV_0_in 5 rfl) (gm_c (gm_at lwV_0_in 6 rfl) (gm_c (gm_at lwV_0_in 7 rfl) gm_nil)))) (by decide +kernel)) (goodIn_ca (goodIn_sub (ws := .code yX12_feed cX12_feed 8 none :: l_z_X12_feed) (gm_c (gm_at lwV_1_in 4 rfl) (gm_c (gm_at lwV_1_in 5 rfl) (gm_c (gm_at lwV_1_in 6 rfl) gm_nil))) (by decide +kernel)) (goodIn_in il_X12 gd_X12))
set_option maxHeartbeats 4000000 in
set_option maxRecDepth 100000 in
/-- the law, one call: feed -/
theorem lk_0 {p : Program} {l : Launch} {e : Env} {s : State} {m : MethodId} {below : List Frame} {meth : Method} {c : Code} {b : Nat} {xs : Nat → Int32} (hst : l.stackTraces = false) (C0 : lw_At p s m meth c b 6 xs) {A : Nat → Prop} (hA : ∀ q : Nat, s.heap.size ≤ q → A q) (hAf : ∀ q : Nat, A q → s.heap.size ≤ q) (hZ : Zz A s) (hY : Yy s) (dC : Nat → ClassId) (dI : Nat → Nat → Nat) (aX : Nat) (fsX : List Value) (aT : Nat) (fsT : List Value) (qr : Nat) (fr : Nat → Int32) (kr : ClassId) (aZ : Nat) (fsZ : List Value) (q_ready : Nat) (f_ready : Nat → Int32) (k_ready : ClassId) (qO : Nat) (w1 : Int32) (hw1 : w1 = xs (1 : Int32).toNatClampNeg) (w2 : Int32) (hw2 : w2 = xs (2 : Int32).toNatClampNeg) (w3 : Int32) (hw3 : w3 = xs (3 : Int32).toNatClampNeg) (w4 : Int32) (hw4 : w4 = xs (4 : Int32).toNatClampNeg) (w5 : Int32) (hw5 : w5 = xs (5 : Int32).toNatClampNeg) (k_fsX : fh fsX 18 [(0, .ref aT)]) (k_fsT : fh fsT 12 [(2, .ref qr)]) (k_fsZ : fh fsZ 150 [(2, .ref q_ready)])  {H : Heap} {locs : List Loc} (hK : va_K (dC, dI) vwCl [(kr, .int), (k_ready, .byte)] s) (hP : va_P (dC, dI) vwCl [(aX, .inr (14, fsX)), (aT, .inr (12, fsT)), (qr, .inl (kr, 20, .inl fr)), (aZ, .inr (15, fsZ)), (q_ready, .inl (k_ready, 20, .inl f_ready))] H) (hD : va_D A [(aX, .inr (14, fsX)), (aT, .inr (12, fsT)), (qr, .inl (kr, 20, .inl fr)), (aZ, .inr (15, fsZ)), (q_ready, .inl (k_ready, 20, .inl f_ready))]) (hS : va_S A s.heap H locs) (ls : Array Slot) (hl : lv_has ls 8 [(0, .ref b), (1, .ref aX), (2, .ref aZ), (3, .ref qO), (4, .int 0)]) : W p l e room_1 s m #[Value.ref b] below meth c H locs 390 571359 (lw_Z below #[Value.ref b] s) (F0 m 260 ls []) := by
  obtain ⟨hx, hb, hr, hml, hown0, hts0, hX, hbl, hlocks, hgv⟩ := id C0
  have hown : s.vm.findClass RL = some m.cls := hown0
  have hts : ∀ w ∈ lwW, w.before #[Value.ref b] s = true := fun w h => hts0 w (lwW_in w h)
  have hbA : ¬ A b := fun h => absurd (hAf b h) (Nat.not_le.mpr hbl)
  have o_fsX := ow_0 k_fsX
  have o_fsT := ow_0 k_fsT
  have o_fsZ := ow_0 k_fsZ
  refine lv_aload_n hx hb dL_law_260 rfl (lv_at hl 1 rfl) ?_
  refine lv_aload_n hx hb dL_law_261 rfl (lv_at hl 0 rfl) ?_
  refine lv_iload hx hb dL_law_262 (lv_at hl 4 rfl) ?_
  refine lv_iconst (v := 1) hx hb dL_law_264 (by decide) ?_
  refine lv_iadd hx hb dL_law_265  ?_
  refine lv_topi (fun x101 ex101 => ?_)
  obtain rfl : x101 = 1 := ex101.trans (by decide)
  refine va_sld hx hb hX hbl hbA hS (show vp_in 1 6 from by unfold vp_in; decide) dL_law_266 ?_
  refine lv_topi (fun x102 ex102 => ?_)
  obtain rfl : w1 = x102 := hw1.trans ex102.symm
  refine lv_aload_n hx hb dL_law_267 rfl (lv_at hl 0 rfl) ?_
  refine lv_iload hx hb dL_law_268 (lv_at hl 4 rfl) ?_
  refine lv_iconst (v := 2) hx hb dL_law_270 (by decide) ?_
  refine lv_iadd hx hb dL_law_271  ?_
  refine lv_topi (fun x103 ex103 => ?_)
  obtain rfl : x103 = 2 := ex103.trans (by decide)
  refine va_sld hx hb hX hbl hbA hS (show vp_in 2 6 from by unfold vp_in; decide) dL_law_272 ?_
  refine lv_topi (fun x104 ex104 => ?_)
  obtain rfl : w2 = x104 := hw2.trans ex104.symm
  refine lv_aload_n hx hb dL_law_273 rfl (lv_at hl 0 rfl) ?_
  refine lv_iload hx hb dL_law_274 (lv_at hl 4 rfl) ?_
  refine lv_iconst (v := 3) hx hb dL_law_276 (by decide) ?_
  refine lv_iadd hx hb dL_law_277  ?_
  refine lv_topi (fun x105 ex105 => ?_)
  obtain rfl : x105 = 3 := ex105.trans (by decide)
  refine va_sld hx hb hX hbl hbA hS (show vp_in 3 6 from by unfold vp_in; decide) dL_law_278 ?_
  refine lv_topi (fun x106 ex106 => ?_)
  obtain rfl : w3 = x106 := hw3.trans ex106.symm
  refine lv_aload_n hx hb dL_law_279 rfl (lv_at hl 0 rfl) ?_
  refine lv_iload hx hb dL_law_280 (lv_at hl 4 rfl) ?_
  refine lv_iconst (v := 4) hx hb dL_law_282 (by decide) ?_
  refine lv_iadd hx hb dL_law_283  ?_
  refine lv_topi (fun x107 ex107 => ?_)
  obtain rfl : x107 = 4 := ex107.trans (by decide)
  refine va_sld hx hb hX hbl hbA hS (show vp_in 4 6 from by unfold vp_in; decide) dL_law_284 ?_
  refine lv_topi (fun x108 ex108 => ?_)
  obtain rfl : w4 = x108 := hw4.trans ex108.symm
  refine lv_aload_n hx hb dL_law_285 rfl (lv_at hl 0 rfl) ?_
  refine lv_iload hx hb dL_law_286 (lv_at hl 4 rfl) ?_
  refine lv_iconst (v := 5) hx hb dL_law_288 (by decide) ?_
  refine lv_iadd hx hb dL_law_289  ?_
  refine lv_topi (fun x109 ex109 => ?_)
  obtain rfl : x109 = 5 := ex109.trans (by decide)
  refine va_sld hx hb hX hbl hbA hS (show vp_in 5 6 from by unfold vp_in; decide) dL_law_290 ?_
  refine lv_topi (fun x110 ex110 => ?_)
  obtain rfl : w5 = x110 := hw5.trans ex110.symm
  have hPc := hP.sub (ws' := [(aX, .inr (14, fsX)), (aT, .inr (12, fsT)), (qr, .inl (kr, 20, .inl fr))]) [0, 1, 2] rfl
  have hDc := hD.sub (ws' := [(aX, .inr (14, fsX)), (aT, .inr (12, fsT)), (qr, .inl (kr, 20, .inl fr))]) [0, 1, 2] (by decide) rfl
  have hKc := hK.sub (tys' := [(kr, .int)]) [0] rfl
  have hFc := va_free (wc := [(aX, .inr (14, fsX)), (aT, .inr (12, fsT)), (qr, .inl (kr, 20, .inl fr))]) hD hS hA [0, 1, 2] rfl
  refine va_callv (va_runV (As := [.int w1, .int w2, .int w3, .int w4, .int w5]) (rest := []) ⟨hx, hb, hml, hown, hts⟩ (z_X11_feed l dC dI H.size aX fsX aT fsT qr fr kr w1 w2 w3 w4 w5 (fh_sub o_fsX.2 [0] rfl) (fh_sub o_fsT.2 [0] rfl) ) (cwV 5 hts g_lk_0_z_X11_feed_120 rfl rfl rfl (by decide +kernel) ⟨Nat.le_of_ble_eq_true rfl, Nat.le_of_ble_eq_true rfl⟩) ⟨fun a U g mk q => by obtain ⟨q0, q1, qP, qK, qD⟩ := q; exact ⟨q0, q1, qP, va_K.moved (u := U) (U := U.calling g mk a) (Vm.Alike.refl U.vm) qK, qD⟩, va_recv hK hP (ci := 14) (q0 := 0) rfl rfl, fun U hU hW => ⟨rfl, by rw [hU], by rw [hU]; exact hPc, va_K.moved hW.alike hKc, hDc.weaken (fun _ _ _ _ => trivial)⟩⟩ rfl rfl hl.1 rfl (lv_room (Nat.le_of_ble_eq_true rfl)) dL_law_291 ⟨Nat.le_of_ble_eq_true rfl, Nat.le_of_ble_eq_true rfl⟩) hS (fun q _ h => hFc q h) hFc (fun u t H1 locs ht hvm hw hB hz1 hk1 hS => ?_)
  obtain ⟨f111, rfl⟩ : ∃ z, z = u := ⟨_, rfl⟩
  obtain ⟨hP1, hK1, hD1⟩ := hB
  rw [ht] at hP1
  try dsimp only at hw
  obtain ⟨hP, hD⟩ := va_join (wr := [(aZ, .inr (15, fsZ)), (q_ready, .inl (k_ready, 20, .inl f_ready))]) (w1 := [(aX, .inr (14, fsX)), (aT, .inr (12, fsT)), (qr, .inl (kr, 20, .inl f111))]) hP hD [0, 1, 2] [3, 4] rfl rfl (by decide) (by decide) hk1 hFc hP1 hD1
  have hK := hK.sub (tys' := [(k_ready, .byte), (kr, .int)]) [1, 0] rfl
  generalize H1 = H at hP hS ⊢
  have hP : va_P (dC, dI) vwCl [(aZ, .inr (15, fsZ)), (q_ready, .inl (k_ready, 20, .inl f_ready)), (aX, .inr (14, fsX)), (aT, .inr (12, fsT)), (qr, .inl (kr, 20, .inl f111))] H := hP
  have hD : va_D A [(aZ, .inr (15, fsZ)), (q_ready, .inl (k_ready, 20, .inl f_ready)), (aX, .inr (14, fsX)), (aT, .inr (12, fsT)), (qr, .inl (kr, 20, .inl f111))] := hD
  refine lv_aload_n hx hb dL_law_294 rfl (lv_at hl 2 rfl) ?_
  refine lv_aload_n hx hb dL_law_295 rfl (lv_at hl 0 rfl) ?_
  refine lv_iload hx hb dL_law_296 (lv_at hl 4 rfl) ?_
  refine lv_iconst (v := 1) hx hb dL_law_298 (by decide) ?_
  refine lv_iadd hx hb dL_law_299  ?_
  refine lv_topi (fun x112 ex112 => ?_)
  obtain rfl : x112 = 1 := ex112.trans (by decide)
  refine va_sld hx hb hX hbl hbA hS (show vp_in 1 6 from by unfold vp_in; decide) dL_law_300 ?_
  refine lv_topi (fun x113 ex113 => ?_)
  obtain rfl : w1 = x113 := hw1.trans ex113.symm
  refine lv_aload_n hx hb dL_law_301 rfl (lv_at hl 0 rfl) ?_
  refine lv_iload hx hb dL_law_302 (lv_at hl 4 rfl) ?_
  refine lv_iconst (v := 2) hx hb dL_law_304 (by decide) ?_
  refine lv_iadd hx hb dL_law_305  ?_
  refine lv_topi (fun x114 ex114 => ?_)
  obtain rfl : x114 = 2 := ex114.trans (by decide)
  refine va_sld hx hb hX hbl hbA hS (show vp_in 2 6 from by unfold vp_in; decide) dL_law_306 ?_
  refine lv_topi (fun x115 ex115 => ?_)
  obtain rfl : w2 = x115 := hw2.trans ex115.symm
  refine lv_aload_n hx hb dL_law_307 rfl (lv_at hl 0 rfl) ?_
  refine lv_iload hx hb dL_law_308 (lv_at hl 4 rfl) ?_
  refine lv_iconst (v := 3) hx hb dL_law_310 (by decide) ?_
  refine lv_iadd hx hb dL_law_311  ?_
  refine lv_topi (fun x116 ex116 => ?_)
  obtain rfl : x116 = 3 := ex116.trans (by decide)
  refine va_sld hx hb hX hbl hbA hS (show vp_in 3 6 from by unfold vp_in; decide) dL_law_312 ?_
  refine lv_topi (fun x117 ex117 => ?_)
  obtain rfl : w3 = x117 := hw3.trans ex117.symm
  refine lv_aload_n hx hb dL_law_313 rfl (lv_at hl 0 rfl) ?_
  refine lv_iload hx hb dL_law_314 (lv_at hl 4 rfl) ?_
  refine lv_iconst (v := 4) hx hb dL_law_316 (by decide) ?_
  refine lv_iadd hx hb dL_law_317  ?_
  refine lv_topi (fun x118 ex118 => ?_)
  obtain rfl : x118 = 4 := ex118.trans (by decide)
  refine va_sld hx hb hX hbl hbA hS (show vp_in 4 6 from by unfold vp_in; decide) dL_law_318 ?_
  refine lv_topi (fun x119 ex119 => ?_)
  obtain rfl : w4 = x119 := hw4.trans ex119.symm
  refine lv_aload_n hx hb dL_law_319 rfl (lv_at hl 0 rfl) ?_
  refine lv_iload hx hb dL_law_320 (lv_at hl 4 rfl) ?_
  refine lv_iconst (v := 5) hx hb dL_law_322 (by decide) ?_
  refine lv_iadd hx hb dL_law_323  ?_
  refine lv_topi (fun x120 ex120 => ?_)
  obtain rfl : x120 = 5 := ex120.trans (by decide)
  refine va_sld hx hb hX hbl hbA hS (show vp_in 5 6 from by unfold vp_in; decide) dL_law_324 ?_
  refine lv_topi (fun x121 ex121 => ?_)
  obtain rfl : w5 = x121 := hw5.trans ex121.symm
  have hPc := hP.sub (ws' := [(aZ, .inr (15, fsZ)), (q_ready, .inl (k_ready, 20, .inl f_ready))]) [0, 1] rfl
  have hDc := hD.sub (ws' := [(aZ, .inr (15, fsZ)), (q_ready, .inl (k_ready, 20, .inl f_ready))]) [0, 1] (by decide) rfl
  have hKc := hK.sub (tys' := [(k_ready, .byte)]) [0] rfl
  have hFc := va_free (wc := [(aZ, .inr (15, fsZ)), (q_ready, .inl (k_ready, 20, .inl f_ready))]) hD hS hA [0, 1] rfl
  refine va_callv (va_runV (As := [.int w1, .int w2, .int w3, .int w4, .int w5]) (rest := []) ⟨hx, hb, hml, hown, hts⟩ (z_X12_feed l dC dI H.size aZ fsZ q_ready f_ready k_ready w1 w2 w3 w4 w5 (fh_sub o_fsZ.2 [0] rfl) ) (cwV 5 hts g_lk_0_z_X12_feed_124 rfl rfl rfl (by decide +kernel) ⟨Nat.le_of_ble_eq_true rfl, Nat.le_of_ble_eq_true rfl⟩) ⟨fun a U g mk q => by obtain ⟨q0, q1, qP, qK, qD⟩ := q; exact ⟨q0, q1, qP, va_K.moved (u := U) (U := U.calling g mk a) (Vm.Alike.refl U.vm) qK, qD⟩, va_recv hK hP (ci := 15) (q0 := 0) rfl rfl, fun U hU hW => ⟨rfl, by rw [hU], by rw [hU]; exact hPc, va_K.moved hW.alike hKc, hDc.weaken (fun _ _ _ _ => trivial)⟩⟩ rfl rfl hl.1 rfl (lv_room (Nat.le_of_ble_eq_true rfl)) dL_law_325 ⟨Nat.le_of_ble_eq_true rfl, Nat.le_of_ble_eq_true rfl⟩) hS (fun q _ h => hFc q h) hFc (fun u t H1 locs ht hvm hw hB hz1 hk1 hS => ?_)
  obtain ⟨s122, f123⟩ := u
  obtain ⟨hP1, hK1, hD1⟩ := hB
  rw [ht] at hP1
  try dsimp only at hw
  obtain ⟨hP, hD⟩ := va_join (wr := [(aX, .inr (14, fsX)), (aT, .inr (12, fsT)), (qr, .inl (kr, 20, .inl f111))]) (w1 := [(aZ, .inr (15, s122)), (q_ready, .inl (k_ready, 20, .inl f123))]) hP hD [0, 1] [2, 3, 4] rfl rfl (by decide) (by decide) hk1 hFc hP1 hD1
  have hK := hK.sub (tys' := [(kr, .int), (k_ready, .byte)]) [1, 0] rfl
  generalize H1 = H at hP hS ⊢
  have hP : va_P (dC, dI) vwCl [(aX, .inr (14, fsX)), (aT, .inr (12, fsT)), (qr, .inl (kr, 20, .inl f111)), (aZ, .inr (15, s122)), (q_ready, .inl (k_ready, 20, .inl f123))] H := hP
  have hD : va_D A [(aX, .inr (14, fsX)), (aT, .inr (12, fsT)), (qr, .inl (kr, 20, .inl f111)), (aZ, .inr (15, s122)), (q_ready, .inl (k_ready, 20, .inl f123))] := hD
  have o_s122 := hw
  have o_s122 := ow_on o_fsZ o_s122 (l' := [(0, .int 0), (2, .ref q_ready), (2, .ref q_ready)]) (w' := [0]) rfl rfl
  refine lv_goto (tgt := 3111) hx hb dL_law_328 (by decide) ?_
  exact lw_end hst C0 hA hAf hZ hY (Nat.le_of_ble_eq_true rfl) (Nat.le_of_ble_eq_true rfl) dC dI P0k P0 D0 hS ls (lv_sub hl [0, 4] rfl)

set_option maxRecDepth 20000 in
theorem g_lk_1_z_X11_end_125 : GoodIn lwW (wsV RL 125 RX11 yX11_end w_z_X11_end) := goodIn_app (goodIn_sub (ws := ([.methodLink RL 125 yX11_end, .instanceMethod yX11_end, .selects RX11 yX11_end yX11_end, .initialized RX11] : List Cond)) (gm_c (gm_at lwV_1_in 7 rfl) (gm_c (gm_at lwV_1_in 8 rfl) (gm_c (gm_at lwV_1_in 9 rfl) (gm_c (gm_at lwV_0_in 3 rfl) gm_nil)))) (by decide +kernel)) (goodIn_ca (goodIn_sub (ws := .code yX11_end cX11_end 2 (some .int) :: l_z_X11_end) (gm_c (gm_at lwV_2_in 1 rfl) (gm_c (gm_at lwV_0_in 9 rfl) (gm_c (gm_at lwV_2_in 2 rfl) (gm_c (gm_at lwV_2_in 3 rfl) (gm_c (gm_at lwV_2_in 4 rfl) (gm_c (gm_at lwV_1_in 1 rfl) (gm_c (gm_at lwV_2_in 5 rfl) (gm_c (gm_at lwV_2_in 6 rfl) (gm_c (gm_at lwV_1_in 3 rfl) (gm_c (gm_at lwV_2_in 7 rfl) (gm_c (gm_at lwV_2_in 8 rfl) (gm_c (gm_at lwV_2_in 9 rfl) (gm_c (gm_at lwV_2_in 10 rfl) (gm_c (gm_at lwV_2_in 11 rfl) (gm_c (gm_at lwV_3_in 0 rfl) (gm_c (gm_at lwV_3_in 1 rfl) (gm_c (gm_at lwV_3_in 2 rfl) (gm_c (gm_at lwV_3_in 3 rfl) gm_nil)))))))))))))))))) (by decide +kernel)) (goodIn_app (goodIn_in il_X11 gd_X11) (goodIn_in il_X9 gd_X9)))
set_option maxRecDepth 20000 in
theorem g_lk_1_z_X12_end_128 : GoodIn lwW (wsV RL 128 RX12 yX12_end w_z_X12_end) := goodIn_app (goodIn_sub (ws := ([.methodLink RL 128 yX12_end, .instanceMethod yX12_end, .selects RX12 yX12_end yX12_end, .initialized RX12] : List Cond)) (gm_c (gm_at lwV_1_in 10 rfl) (gm_c (gm_at lwV_1_in 11 rfl) (gm_c (gm_at lwV_2_in 0 rfl) (gm_c (gm_at lwV_0_in 7 rfl) gm_nil)))) (by decide +kernel)) (goodIn_ca (goodIn_sub (ws := .code yX12_end cX12_end 3 (some .int) :: l_z_X12_end) (gm_c (gm_at lwV_3_in 4 rfl) (gm_c (gm_at lwV_1_in 5 rfl) (gm_c (gm_at lwV_3_in 5 rfl) (gm_c (gm_at lwV_1_in 6 rfl) (gm_c (gm_at lwV_3_in 6 rfl) gm_nil))))) (by decide +kernel)) (goodIn_in il_X12 gd_X12))
set_option maxHeartbeats 4000000 in
set_option maxRecDepth 100000 in
/-- the law, one call: end -/
theorem lk_1 {p : Program} {l : Launch} {e : Env} {s : State} {m : MethodId} {below : List Frame} {meth : Method} {c : Code} {b : Nat} {xs : Nat → Int32} (hst : l.stackTraces = false) (C0 : lw_At p s m meth c b 6 xs) {A : Nat → Prop} (hA : ∀ q : Nat, s.heap.size ≤ q → A q) (hAf : ∀ q : Nat, A q → s.heap.size ≤ q) (hZ : Zz A s) (hY : Yy s) (dC : Nat → ClassId) (dI : Nat → Nat → Nat) (aX : Nat) (fsX : List Value) (aT : Nat) (fsT : List Value) (qb : Nat) (fb : Nat → Int32) (kb : ClassId) (qr : Nat) (fr : Nat → Int32) (kr : ClassId) (aZ : Nat) (fsZ : List Value) (q_tape : Nat) (f_tape : Nat → Int32) (k_tape : ClassId) (q_ready : Nat) (f_ready : Nat → Int32) (k_ready : ClassId) (qO : Nat) (w1 : Int32) (hw1 : w1 = xs (1 : Int32).toNatClampNeg) (w2 : Int32) (hw2 : w2 = xs (2 : Int32).toNatClampNeg) (w3 : Int32) (hw3 : w3 = xs (3 : Int32).toNatClampNeg) (w4 : Int32) (hw4 : w4 = xs (4 : Int32).toNatClampNeg) (w5 : Int32) (hw5 : w5 = xs (5 : Int32).toNatClampNeg) (k_fsX : fh fsX 18 [(0, .ref aT)]) (k_fsT : fh fsT 12 [(0, .ref qb), (1, .int 0), (2, .ref qr)]) (k_fsZ : fh fsZ 150 [(1, .ref q_tape), (2, .ref q_ready), (3, .int 0)]) (hz_f_tape : ∀ j, f_tape j = 0) (hz_f_ready : ∀ j, f_ready j = 0) {H : Heap} {locs : List Loc} (hK : va_K (dC, dI) vwCl [(kb, .int), (kr, .int), (k_tape, .byte), (k_ready, .byte)] s) (hP : va_P (dC, dI) vwCl [(aX, .inr (14, fsX)), (aT, .inr (12, fsT)), (qb, .inl (kb, 4000, .inl fb)), (qr, .inl (kr, 20, .inl fr)), (aZ, .inr (15, fsZ)), (q_tape, .inl (k_tape, 4000, .inl f_tape)), (q_ready, .inl (k_ready, 20, .inl f_ready))] H) (hD : va_D A [(aX, .inr (14, fsX)), (aT, .inr (12, fsT)), (qb, .inl (kb, 4000, .inl fb)), (qr, .inl (kr, 20, .inl fr)), (aZ, .inr (15, fsZ)), (q_tape, .inl (k_tape, 4000, .inl f_tape)), (q_ready, .inl (k_ready, 20, .inl f_ready))]) (hS : va_S A s.heap H locs) (ls : Array Slot) (hl : lv_has ls 8 [(0, .ref b), (1, .ref aX), (2, .ref aZ), (3, .ref qO), (4, .int 0)]) : W p l e room_1 s m #[Value.ref b] below meth c H locs 390 571359 (lw_Z below #[Value.ref b] s) (F0 m 331 ls []) := by
  obtain ⟨hx, hb, hr, hml, hown0, hts0, hX, hbl, hlocks, hgv⟩ := id C0
  have hown : s.vm.findClass RL = some m.cls := hown0
  have hts : ∀ w ∈ lwW, w.before #[Value.ref b] s = true := fun w h => hts0 w (lwW_in w h)
  have hbA : ¬ A b := fun h => absurd (hAf b h) (Nat.not_le.mpr hbl)
  have o_fsX := ow_0 k_fsX
  have o_fsT := ow_0 k_fsT
  have o_fsZ := ow_0 k_fsZ
  refine lv_aload_n hx hb dL_law_331 rfl (lv_at hl 1 rfl) ?_
  refine lv_aload_n hx hb dL_law_332 rfl (lv_at hl 0 rfl) ?_
  refine lv_iload hx hb dL_law_333 (lv_at hl 4 rfl) ?_
  refine lv_iconst (v := 1) hx hb dL_law_335 (by decide) ?_
  refine lv_iadd hx hb dL_law_336  ?_
  refine lv_topi (fun x101 ex101 => ?_)
  obtain rfl : x101 = 1 := ex101.trans (by decide)
  refine va_sld hx hb hX hbl hbA hS (show vp_in 1 6 from by unfold vp_in; decide) dL_law_337 ?_
  refine lv_topi (fun x102 ex102 => ?_)
  obtain rfl : w1 = x102 := hw1.trans ex102.symm
  have hPc := hP.sub (ws' := [(aX, .inr (14, fsX)), (aT, .inr (12, fsT)), (qb, .inl (kb, 4000, .inl fb)), (qr, .inl (kr, 20, .inl fr))]) [0, 1, 2, 3] rfl
  have hDc := hD.sub (ws' := [(aX, .inr (14, fsX)), (aT, .inr (12, fsT)), (qb, .inl (kb, 4000, .inl fb)), (qr, .inl (kr, 20, .inl fr))]) [0, 1, 2, 3] (by decide) rfl
  have hKc := hK.sub (tys' := [(kb, .int), (kr, .int)]) [0, 1] rfl
  have hFc := va_free (wc := [(aX, .inr (14, fsX)), (aT, .inr (12, fsT)), (qb, .inl (kb, 4000, .inl fb)), (qr, .inl (kr, 20, .inl fr))]) hD hS hA [0, 1, 2, 3] rfl
  refine va_calli (va_runV (As := [.int w1]) (rest := []) ⟨hx, hb, hml, hown, hts⟩ (z_X11_end l dC dI H.size aX fsX aT fsT qb fb kb qr fr kr w1 (fh_sub o_fsX.2 [0] rfl) (fh_sub o_fsT.2 [0, 1, 2] rfl) ) (cwV 1 hts g_lk_1_z_X11_end_125 rfl rfl rfl (by decide +kernel) ⟨Nat.le_of_ble_eq_true rfl, Nat.le_of_ble_eq_true rfl⟩) ⟨fun a U g mk q => by obtain ⟨q0, q1, qP, qK, qD⟩ := q; exact ⟨q0, q1, qP, va_K.moved (u := U) (U := U.calling g mk a) (Vm.Alike.refl U.vm) qK, qD⟩, va_recv hK hP (ci := 14) (q0 := 0) rfl rfl, fun U hU hW => ⟨rfl, by rw [hU], by rw [hU]; exact hPc, va_K.moved hW.alike hKc, hDc.weaken (fun _ _ _ _ => trivial)⟩⟩ rfl rfl hl.1 rfl (lv_room (Nat.le_of_ble_eq_true rfl)) dL_law_338 ⟨Nat.le_of_ble_eq_true rfl, Nat.le_of_ble_eq_true rfl⟩) hS (fun q _ h => hFc q h) hFc (fun r103 u t H1 locs ht hvm hw hB hz1 hk1 hS => ?_)
  obtain ⟨s104, f105, f106⟩ := u
  obtain ⟨hP1, hK1, hD1⟩ := hB
  rw [ht] at hP1
  try dsimp only at hw
  obtain ⟨hP, hD⟩ := va_join (wr := [(aZ, .inr (15, fsZ)), (q_tape, .inl (k_tape, 4000, .inl f_tape)), (q_ready, .inl (k_ready, 20, .inl f_ready))]) (w1 := [(aX, .inr (14, fsX)), (aT, .inr (12, s104)), (qb, .inl (kb, 4000, .inl f105)), (qr, .inl (kr, 20, .inl f106))]) hP hD [0, 1, 2, 3] [4, 5, 6] rfl rfl (by decide) (by decide) hk1 hFc hP1 hD1
  have hK := hK.sub (tys' := [(k_tape, .byte), (k_ready, .byte), (kb, .int), (kr, .int)]) [2, 3, 0, 1] rfl
  generalize H1 = H at hP hS ⊢
  have hP : va_P (dC, dI) vwCl [(aZ, .inr (15, fsZ)), (q_tape, .inl (k_tape, 4000, .inl f_tape)), (q_ready, .inl (k_ready, 20, .inl f_ready)), (aX, .inr (14, fsX)), (aT, .inr (12, s104)), (qb, .inl (kb, 4000, .inl f105)), (qr, .inl (kr, 20, .inl f106))] H := hP
  have hD : va_D A [(aZ, .inr (15, fsZ)), (q_tape, .inl (k_tape, 4000, .inl f_tape)), (q_ready, .inl (k_ready, 20, .inl f_ready)), (aX, .inr (14, fsX)), (aT, .inr (12, s104)), (qb, .inl (kb, 4000, .inl f105)), (qr, .inl (kr, 20, .inl f106))] := hD
  rcases hw with ⟨c107, er108, o_s104⟩ | ⟨c109, c110, er111, o_s104⟩ | ⟨c112, c113, c114, er115, o_s104⟩
  · skip
    subst er108
    have o_s104 := ow_on o_fsT o_s104 (l' := [(0, .ref qb), (1, .int 0), (2, .ref qr), (0, .ref qb), (1, .int 0), (2, .ref qr), (0, .ref qb), (1, .int 0), (2, .ref qr)]) (w' := []) rfl rfl
    refine lv_aload_n hx hb dL_law_341 rfl (lv_at hl 2 rfl) ?_
    refine lv_aload_n hx hb dL_law_342 rfl (lv_at hl 0 rfl) ?_
    refine lv_iload hx hb dL_law_343 (lv_at hl 4 rfl) ?_
    refine lv_iconst (v := 1) hx hb dL_law_345 (by decide) ?_
    refine lv_iadd hx hb dL_law_346  ?_
    refine lv_topi (fun x116 ex116 => ?_)
    obtain rfl : x116 = 1 := ex116.trans (by decide)
    refine va_sld hx hb hX hbl hbA hS (show vp_in 1 6 from by unfold vp_in; decide) dL_law_347 ?_
    refine lv_topi (fun x117 ex117 => ?_)
    obtain rfl : w1 = x117 := hw1.trans ex117.symm
    have hPc := hP.sub (ws' := [(aZ, .inr (15, fsZ)), (q_tape, .inl (k_tape, 4000, .inl f_tape)), (q_ready, .inl (k_ready, 20, .inl f_ready))]) [0, 1, 2] rfl
    have hDc := hD.sub (ws' := [(aZ, .inr (15, fsZ)), (q_tape, .inl (k_tape, 4000, .inl f_tape)), (q_ready, .inl (k_ready, 20, .inl f_ready))]) [0, 1, 2] (by decide) rfl
    have hKc := hK.sub (tys' := [(k_tape, .byte), (k_ready, .byte)]) [0, 1] rfl
    have hFc := va_free (wc := [(aZ, .inr (15, fsZ)), (q_tape, .inl (k_tape, 4000, .inl f_tape)), (q_ready, .inl (k_ready, 20, .inl f_ready))]) hD hS hA [0, 1, 2] rfl
    refine va_calli (va_runV (As := [.int w1]) (rest := [.int (-1)]) ⟨hx, hb, hml, hown, hts⟩ (z_X12_end l dC dI H.size aZ fsZ q_tape f_tape k_tape q_ready f_ready k_ready w1 (fh_sub o_fsZ.2 [0, 1, 2] rfl) hz_f_tape hz_f_ready) (cwV 1 hts g_lk_1_z_X12_end_128 rfl rfl rfl (by decide +kernel) ⟨Nat.le_of_ble_eq_true rfl, Nat.le_of_ble_eq_true rfl⟩) ⟨fun a U g mk q => by obtain ⟨q0, q1, qP, qK, qD⟩ := q; exact ⟨q0, q1, qP, va_K.moved (u := U) (U := U.calling g mk a) (Vm.Alike.refl U.vm) qK, qD⟩, va_recv hK hP (ci := 15) (q0 := 0) rfl rfl, fun U hU hW => ⟨rfl, by rw [hU], by rw [hU]; exact hPc, va_K.moved hW.alike hKc, hDc.weaken (fun _ _ _ _ => trivial)⟩⟩ rfl rfl hl.1 rfl (lv_room (Nat.le_of_ble_eq_true rfl)) dL_law_348 ⟨Nat.le_of_ble_eq_true rfl, Nat.le_of_ble_eq_true rfl⟩) hS (fun q _ h => hFc q h) hFc (fun r118 u t H1 locs ht hvm hw hB hz1 hk1 hS => ?_)
    obtain ⟨s119, f120, f121⟩ := u
    obtain ⟨hP1, hK1, hD1⟩ := hB
    rw [ht] at hP1
    try dsimp only at hw
    obtain ⟨hP, hD⟩ := va_join (wr := [(aX, .inr (14, fsX)), (aT, .inr (12, s104)), (qb, .inl (kb, 4000, .inl f105)), (qr, .inl (kr, 20, .inl f106))]) (w1 := [(aZ, .inr (15, s119)), (q_tape, .inl (k_tape, 4000, .inl f120)), (q_ready, .inl (k_ready, 20, .inl f121))]) hP hD [0, 1, 2] [3, 4, 5, 6] rfl rfl (by decide) (by decide) hk1 hFc hP1 hD1
    have hK := hK.sub (tys' := [(kb, .int), (kr, .int), (k_tape, .byte), (k_ready, .byte)]) [2, 3, 0, 1] rfl
    generalize H1 = H at hP hS ⊢
    have hP : va_P (dC, dI) vwCl [(aX, .inr (14, fsX)), (aT, .inr (12, s104)), (qb, .inl (kb, 4000, .inl f105)), (qr, .inl (kr, 20, .inl f106)), (aZ, .inr (15, s119)), (q_tape, .inl (k_tape, 4000, .inl f120)), (q_ready, .inl (k_ready, 20, .inl f121))] H := hP
    have hD : va_D A [(aX, .inr (14, fsX)), (aT, .inr (12, s104)), (qb, .inl (kb, 4000, .inl f105)), (qr, .inl (kr, 20, .inl f106)), (aZ, .inr (15, s119)), (q_tape, .inl (k_tape, 4000, .inl f120)), (q_ready, .inl (k_ready, 20, .inl f121))] := hD
    rcases hw with ⟨c122, er123, o_s119, q124, q125⟩ | ⟨c126, c127, er128, o_s119, q129, q130⟩ | ⟨c131, c132, c133, er134, o_s119⟩
    · skip
      subst er123
      have o_s119 := ow_on o_fsZ o_s119 (l' := [(0, .int 0), (1, .ref q_tape), (2, .ref q_ready), (3, .int 0), (1, .ref q_tape), (2, .ref q_ready), (3, .int 0)]) (w' := [0]) rfl rfl
      refine lv_icmp_eq (tgt := 3111) hx hb dL_law_351 (by decide) (fun c135 => ?_) (fun c135 => absurd c135 (by decide))
      exact lw_end hst C0 hA hAf hZ hY (Nat.le_of_ble_eq_true rfl) (Nat.le_of_ble_eq_true rfl) dC dI P0k P0 D0 hS ls (lv_sub hl [0, 4] rfl)
    · exact (by exfalso; (try simp only [i_lt, i_le, i_eq, kc_0, kc_20] at c107 c126 c127); omega)
    · exact (by exfalso; (try simp only [i_lt, i_le, i_eq, kc_0, kc_20, kc_4000] at c107 c131 c132 c133); omega)
  · skip
    subst er111
    have o_s104 := ow_on o_fsT o_s104 (l' := [(0, .ref qb), (1, .int 0), (2, .ref qr), (0, .ref qb), (1, .int 0), (2, .ref qr), (0, .ref qb), (1, .int 0), (2, .ref qr)]) (w' := []) rfl rfl
    refine lv_aload_n hx hb dL_law_341 rfl (lv_at hl 2 rfl) ?_
    refine lv_aload_n hx hb dL_law_342 rfl (lv_at hl 0 rfl) ?_
    refine lv_iload hx hb dL_law_343 (lv_at hl 4 rfl) ?_
    refine lv_iconst (v := 1) hx hb dL_law_345 (by decide) ?_
    refine lv_iadd hx hb dL_law_346  ?_
    refine lv_topi (fun x136 ex136 => ?_)
    obtain rfl : x136 = 1 := ex136.trans (by decide)
    refine va_sld hx hb hX hbl hbA hS (show vp_in 1 6 from by unfold vp_in; decide) dL_law_347 ?_
    refine lv_topi (fun x137 ex137 => ?_)
    obtain rfl : w1 = x137 := hw1.trans ex137.symm
    have hPc := hP.sub (ws' := [(aZ, .inr (15, fsZ)), (q_tape, .inl (k_tape, 4000, .inl f_tape)), (q_ready, .inl (k_ready, 20, .inl f_ready))]) [0, 1, 2] rfl
    have hDc := hD.sub (ws' := [(aZ, .inr (15, fsZ)), (q_tape, .inl (k_tape, 4000, .inl f_tape)), (q_ready, .inl (k_ready, 20, .inl f_ready))]) [0, 1, 2] (by decide) rfl
    have hKc := hK.sub (tys' := [(k_tape, .byte), (k_ready, .byte)]) [0, 1] rfl
    have hFc := va_free (wc := [(aZ, .inr (15, fsZ)), (q_tape, .inl (k_tape, 4000, .inl f_tape)), (q_ready, .inl (k_ready, 20, .inl f_ready))]) hD hS hA [0, 1, 2] rfl
    refine va_calli (va_runV (As := [.int w1]) (rest := [.int (-1)]) ⟨hx, hb, hml, hown, hts⟩ (z_X12_end l dC dI H.size aZ fsZ q_tape f_tape k_tape q_ready f_ready k_ready w1 (fh_sub o_fsZ.2 [0, 1, 2] rfl) hz_f_tape hz_f_ready) (cwV 1 hts g_lk_1_z_X12_end_128 rfl rfl rfl (by decide +kernel) ⟨Nat.le_of_ble_eq_true rfl, Nat.le_of_ble_eq_true rfl⟩) ⟨fun a U g mk q => by obtain ⟨q0, q1, qP, qK, qD⟩ := q; exact ⟨q0, q1, qP, va_K.moved (u := U) (U := U.calling g mk a) (Vm.Alike.refl U.vm) qK, qD⟩, va_recv hK hP (ci := 15) (q0 := 0) rfl rfl, fun U hU hW => ⟨rfl, by rw [hU], by rw [hU]; exact hPc, va_K.moved hW.alike hKc, hDc.weaken (fun _ _ _ _ => trivial)⟩⟩ rfl rfl hl.1 rfl (lv_room (Nat.le_of_ble_eq_true rfl)) dL_law_348 ⟨Nat.le_of_ble_eq_true rfl, Nat.le_of_ble_eq_true rfl⟩) hS (fun q _ h => hFc q h) hFc (fun r138 u t H1 locs ht hvm hw hB hz1 hk1 hS => ?_)
    obtain ⟨s139, f140, f141⟩ := u
    obtain ⟨hP1, hK1, hD1⟩ := hB
    rw [ht] at hP1
    try dsimp only at hw
    obtain ⟨hP, hD⟩ := va_join (wr := [(aX, .inr (14, fsX)), (aT, .inr (12, s104)), (qb, .inl (kb, 4000, .inl f105)), (qr, .inl (kr, 20, .inl f106))]) (w1 := [(aZ, .inr (15, s139)), (q_tape, .inl (k_tape, 4000, .inl f140)), (q_ready, .inl (k_ready, 20, .inl f141))]) hP hD [0, 1, 2] [3, 4, 5, 6] rfl rfl (by decide) (by decide) hk1 hFc hP1 hD1
    have hK := hK.sub (tys' := [(kb, .int), (kr, .int), (k_tape, .byte), (k_ready, .byte)]) [2, 3, 0, 1] rfl
    generalize H1 = H at hP hS ⊢
    have hP : va_P (dC, dI) vwCl [(aX, .inr (14, fsX)), (aT, .inr (12, s104)), (qb, .inl (kb, 4000, .inl f105)), (qr, .inl (kr, 20, .inl f106)), (aZ, .inr (15, s139)), (q_tape, .inl (k_tape, 4000, .inl f140)), (q_ready, .inl (k_ready, 20, .inl f141))] H := hP
    have hD : va_D A [(aX, .inr (14, fsX)), (aT, .inr (12, s104)), (qb, .inl (kb, 4000, .inl f105)), (qr, .inl (kr, 20, .inl f106)), (aZ, .inr (15, s139)), (q_tape, .inl (k_tape, 4000, .inl f140)), (q_ready, .inl (k_ready, 20, .inl f141))] := hD
    rcases hw with ⟨c142, er143, o_s139, q144, q145⟩ | ⟨c146, c147, er148, o_s139, q149, q150⟩ | ⟨c151, c152, c153, er154, o_s139⟩
    · exact (by exfalso; (try simp only [i_lt, i_le, i_eq, kc_0, kc_20] at c109 c110 c142); omega)
    · skip
      subst er148
      have o_s139 := ow_on o_fsZ o_s139 (l' := [(0, .int 0), (1, .ref q_tape), (2, .ref q_ready), (3, .int 0), (1, .ref q_tape), (2, .ref q_ready), (3, .int 0)]) (w' := [0]) rfl rfl
      refine lv_icmp_eq (tgt := 3111) hx hb dL_law_351 (by decide) (fun c155 => ?_) (fun c155 => absurd c155 (by decide))
      exact lw_end hst C0 hA hAf hZ hY (Nat.le_of_ble_eq_true rfl) (Nat.le_of_ble_eq_true rfl) dC dI P0k P0 D0 hS ls (lv_sub hl [0, 4] rfl)
    · exact (by exfalso; (try simp only [i_lt, i_le, i_eq, kc_0, kc_20, kc_4000] at c109 c110 c151 c152 c153); omega)
  · skip
    have qer115 := er115.symm
    subst qer115
    have o_s104 := ow_on o_fsT o_s104 (l' := [(1, .int w1), (0, .ref qb), (2, .ref qr), (0, .ref qb), (2, .ref qr), (0, .ref qb), (2, .ref qr)]) (w' := [1]) rfl rfl
    refine lv_aload_n hx hb dL_law_341 rfl (lv_at hl 2 rfl) ?_
    refine lv_aload_n hx hb dL_law_342 rfl (lv_at hl 0 rfl) ?_
    refine lv_iload hx hb dL_law_343 (lv_at hl 4 rfl) ?_
    refine lv_iconst (v := 1) hx hb dL_law_345 (by decide) ?_
    refine lv_iadd hx hb dL_law_346  ?_
    refine lv_topi (fun x156 ex156 => ?_)
    obtain rfl : x156 = 1 := ex156.trans (by decide)
    refine va_sld hx hb hX hbl hbA hS (show vp_in 1 6 from by unfold vp_in; decide) dL_law_347 ?_
    refine lv_topi (fun x157 ex157 => ?_)
    obtain rfl : w1 = x157 := hw1.trans ex157.symm
    have hPc := hP.sub (ws' := [(aZ, .inr (15, fsZ)), (q_tape, .inl (k_tape, 4000, .inl f_tape)), (q_ready, .inl (k_ready, 20, .inl f_ready))]) [0, 1, 2] rfl
    have hDc := hD.sub (ws' := [(aZ, .inr (15, fsZ)), (q_tape, .inl (k_tape, 4000, .inl f_tape)), (q_ready, .inl (k_ready, 20, .inl f_ready))]) [0, 1, 2] (by decide) rfl
    have hKc := hK.sub (tys' := [(k_tape, .byte), (k_ready, .byte)]) [0, 1] rfl
    have hFc := va_free (wc := [(aZ, .inr (15, fsZ)), (q_tape, .inl (k_tape, 4000, .inl f_tape)), (q_ready, .inl (k_ready, 20, .inl f_ready))]) hD hS hA [0, 1, 2] rfl
    refine va_calli (va_runV (As := [.int w1]) (rest := [.int w1]) ⟨hx, hb, hml, hown, hts⟩ (z_X12_end l dC dI H.size aZ fsZ q_tape f_tape k_tape q_ready f_ready k_ready w1 (fh_sub o_fsZ.2 [0, 1, 2] rfl) hz_f_tape hz_f_ready) (cwV 1 hts g_lk_1_z_X12_end_128 rfl rfl rfl (by decide +kernel) ⟨Nat.le_of_ble_eq_true rfl, Nat.le_of_ble_eq_true rfl⟩) ⟨fun a U g mk q => by obtain ⟨q0, q1, qP, qK, qD⟩ := q; exact ⟨q0, q1, qP, va_K.moved (u := U) (U := U.calling g mk a) (Vm.Alike.refl U.vm) qK, qD⟩, va_recv hK hP (ci := 15) (q0 := 0) rfl rfl, fun U hU hW => ⟨rfl, by rw [hU], by rw [hU]; exact hPc, va_K.moved hW.alike hKc, hDc.weaken (fun _ _ _ _ => trivial)⟩⟩ rfl rfl hl.1 rfl (lv_room (Nat.le_of_ble_eq_true rfl)) dL_law_348 ⟨Nat.le_of_ble_eq_true rfl, Nat.le_of_ble_eq_true rfl⟩) hS (fun q _ h => hFc q h) hFc (fun r158 u t H1 locs ht hvm hw hB hz1 hk1 hS => ?_)
    obtain ⟨s159, f160, f161⟩ := u
    obtain ⟨hP1, hK1, hD1⟩ := hB
    rw [ht] at hP1
    try dsimp only at hw
    obtain ⟨hP, hD⟩ := va_join (wr := [(aX, .inr (14, fsX)), (aT, .inr (12, s104)), (qb, .inl (kb, 4000, .inl f105)), (qr, .inl (kr, 20, .inl f106))]) (w1 := [(aZ, .inr (15, s159)), (q_tape, .inl (k_tape, 4000, .inl f160)), (q_ready, .inl (k_ready, 20, .inl f161))]) hP hD [0, 1, 2] [3, 4, 5, 6] rfl rfl (by decide) (by decide) hk1 hFc hP1 hD1
    have hK := hK.sub (tys' := [(kb, .int), (kr, .int), (k_tape, .byte), (k_ready, .byte)]) [2, 3, 0, 1] rfl
    generalize H1 = H at hP hS ⊢
    have hP : va_P (dC, dI) vwCl [(aX, .inr (14, fsX)), (aT, .inr (12, s104)), (qb, .inl (kb, 4000, .inl f105)), (qr, .inl (kr, 20, .inl f106)), (aZ, .inr (15, s159)), (q_tape, .inl (k_tape, 4000, .inl f160)), (q_ready, .inl (k_ready, 20, .inl f161))] H := hP
    have hD : va_D A [(aX, .inr (14, fsX)), (aT, .inr (12, s104)), (qb, .inl (kb, 4000, .inl f105)), (qr, .inl (kr, 20, .inl f106)), (aZ, .inr (15, s159)), (q_tape, .inl (k_tape, 4000, .inl f160)), (q_ready, .inl (k_ready, 20, .inl f161))] := hD
    rcases hw with ⟨c162, er163, o_s159, q164, q165⟩ | ⟨c166, c167, er168, o_s159, q169, q170⟩ | ⟨c171, c172, c173, er174, o_s159⟩
    · exact (by exfalso; (try simp only [i_lt, i_le, i_eq, kc_0, kc_20, kc_4000] at c112 c113 c114 c162); omega)
    · exact (by exfalso; (try simp only [i_lt, i_le, i_eq, kc_0, kc_20, kc_4000] at c112 c113 c114 c166 c167); omega)
    · skip
      have qer174 := er174.symm
      subst qer174
      have o_s159 := ow_on o_fsZ o_s159 (l' := [(3, .int w1), (0, .int 0), (1, .ref q_tape), (2, .ref q_ready), (1, .ref q_tape), (2, .ref q_ready)]) (w' := [3, 0]) rfl rfl
      refine lv_icmp_eq (tgt := 3111) hx hb dL_law_351 (by decide) (fun c175 => ?_) (fun c175 => absurd rfl c175)
      exact lw_end hst C0 hA hAf hZ hY (Nat.le_of_ble_eq_true rfl) (Nat.le_of_ble_eq_true rfl) dC dI P0k P0 D0 hS ls (lv_sub hl [0, 4] rfl)

set_option maxRecDepth 20000 in
theorem g_lk_2_z_X11_wipe_129 : GoodIn lwW (wsV RL 129 RX11 yX11_wipe w_z_X11_wipe) := goodIn_app (goodIn_sub (ws := ([.methodLink RL 129 yX11_wipe, .instanceMethod yX11_wipe, .selects RX11 yX11_wipe yX11_wipe, .initialized RX11] : List Cond)) (gm_c (gm_at lwV_3_in 7 rfl) (gm_c (gm_at lwV_3_in 8 rfl) (gm_c (gm_at lwV_3_in 9 rfl) (gm_c (gm_at lwV_0_in 3 rfl) gm_nil)))) (by decide +kernel)) (goodIn_ca (goodIn_sub (ws := .code yX11_wipe cX11_wipe 1 none :: l_z_X11_wipe) (gm_c (gm_at lwV_4_in 1 rfl) (gm_c (gm_at lwV_0_in 9 rfl) (gm_c (gm_at lwV_4_in 2 rfl) gm_nil))) (by decide +kernel)) (goodIn_app (goodIn_in il_X11 gd_X11) (goodIn_in il_X9 gd_X9)))
set_option maxRecDepth 20000 in
theorem g_lk_2_z_X12_wipe_132 : GoodIn lwW (wsV RL 132 RX12 yX12_wipe w_z_X12_wipe) := goodIn_app (goodIn_sub (ws := ([.methodLink RL 132 yX12_wipe, .instanceMethod yX12_wipe, .selects RX12 yX12_wipe yX12_wipe, .initialized RX12] : List Cond)) (gm_c (gm_at lwV_3_in 10 rfl) (gm_c (gm_at lwV_3_in 11 rfl) (gm_c (gm_at lwV_4_in 0 rfl) (gm_c (gm_at lwV_0_in 7 rfl) gm_nil)))) (by decide +kernel)) (goodIn_ca (goodIn_sub (ws := .code yX12_wipe cX12_wipe 1 none :: l_z_X12_wipe) (gm_c (gm_at lwV_4_in 3 rfl) (gm_c (gm_at lwV_1_in 5 rfl) (gm_c (gm_at lwV_3_in 5 rfl) gm_nil))) (by decide +kernel)) (goodIn_in il_X12 gd_X12))
set_option maxHeartbeats 4000000 in
set_option maxRecDepth 100000 in
/-- the law, one call: wipe -/
theorem lk_2 {p : Program} {l : Launch} {e : Env} {s : State} {m : MethodId} {below : List Frame} {meth : Method} {c : Code} {b : Nat} {xs : Nat → Int32} (hst : l.stackTraces = false) (C0 : lw_At p s m meth c b 6 xs) {A : Nat → Prop} (hA : ∀ q : Nat, s.heap.size ≤ q → A q) (hAf : ∀ q : Nat, A q → s.heap.size ≤ q) (hZ : Zz A s) (hY : Yy s) (dC : Nat → ClassId) (dI : Nat → Nat → Nat) (aX : Nat) (fsX : List Value) (aT : Nat) (fsT : List Value) (aZ : Nat) (fsZ : List Value) (qO : Nat) (w1 : Int32) (hw1 : w1 = xs (1 : Int32).toNatClampNeg) (w2 : Int32) (hw2 : w2 = xs (2 : Int32).toNatClampNeg) (w3 : Int32) (hw3 : w3 = xs (3 : Int32).toNatClampNeg) (w4 : Int32) (hw4 : w4 = xs (4 : Int32).toNatClampNeg) (w5 : Int32) (hw5 : w5 = xs (5 : Int32).toNatClampNeg) (k_fsX : fh fsX 18 [(0, .ref aT)]) (k_fsT : fh fsT 12 []) (k_fsZ : fh fsZ 150 [])  {H : Heap} {locs : List Loc} (hK : va_K (dC, dI) vwCl [] s) (hP : va_P (dC, dI) vwCl [(aX, .inr (14, fsX)), (aT, .inr (12, fsT)), (aZ, .inr (15, fsZ))] H) (hD : va_D A [(aX, .inr (14, fsX)), (aT, .inr (12, fsT)), (aZ, .inr (15, fsZ))]) (hS : va_S A s.heap H locs) (ls : Array Slot) (hl : lv_has ls 8 [(0, .ref b), (1, .ref aX), (2, .ref aZ), (3, .ref qO), (4, .int 0)]) : W p l e room_1 s m #[Value.ref b] below meth c H locs 390 571359 (lw_Z below #[Value.ref b] s) (F0 m 356 ls []) := by
  obtain ⟨hx, hb, hr, hml, hown0, hts0, hX, hbl, hlocks, hgv⟩ := id C0
  have hown : s.vm.findClass RL = some m.cls := hown0
  have hts : ∀ w ∈ lwW, w.before #[Value.ref b] s = true := fun w h => hts0 w (lwW_in w h)
  have hbA : ¬ A b := fun h => absurd (hAf b h) (Nat.not_le.mpr hbl)
  have o_fsX := ow_0 k_fsX
  have o_fsT := ow_0 k_fsT
  have o_fsZ := ow_0 k_fsZ
  refine lv_aload_n hx hb dL_law_356 rfl (lv_at hl 1 rfl) ?_
  have hPc := hP.sub (ws' := [(aX, .inr (14, fsX)), (aT, .inr (12, fsT))]) [0, 1] rfl
  have hDc := hD.sub (ws' := [(aX, .inr (14, fsX)), (aT, .inr (12, fsT))]) [0, 1] (by decide) rfl
  have hKc := hK.sub (tys' := []) [] rfl
  have hFc := va_free (wc := [(aX, .inr (14, fsX)), (aT, .inr (12, fsT))]) hD hS hA [0, 1] rfl
  refine va_callv (va_runV (As := []) (rest := []) ⟨hx, hb, hml, hown, hts⟩ (z_X11_wipe l dC dI H.size aX fsX aT fsT (fh_sub o_fsX.2 [0] rfl) (fh_sub o_fsT.2 [] rfl) ) (cwV 0 hts g_lk_2_z_X11_wipe_129 rfl rfl rfl (by decide +kernel) ⟨Nat.le_of_ble_eq_true rfl, Nat.le_of_ble_eq_true rfl⟩) ⟨fun a U g mk q => by obtain ⟨q0, q1, qP, qK, qD⟩ := q; exact ⟨q0, q1, qP, va_K.moved (u := U) (U := U.calling g mk a) (Vm.Alike.refl U.vm) qK, qD⟩, va_recv hK hP (ci := 14) (q0 := 0) rfl rfl, fun U hU hW => ⟨rfl, by rw [hU], by rw [hU]; exact hPc, va_K.moved hW.alike hKc, hDc.weaken (fun _ _ _ _ => trivial)⟩⟩ rfl rfl hl.1 rfl (lv_room (Nat.le_of_ble_eq_true rfl)) dL_law_357 ⟨Nat.le_of_ble_eq_true rfl, Nat.le_of_ble_eq_true rfl⟩) hS (fun q _ h => hFc q h) hFc (fun u t H1 locs ht hvm hw hB hz1 hk1 hS => ?_)
  obtain ⟨s101, rfl⟩ : ∃ z, z = u := ⟨_, rfl⟩
  obtain ⟨hP1, hK1, hD1⟩ := hB
  rw [ht] at hP1
  try dsimp only at hw
  obtain ⟨hP, hD⟩ := va_join (wr := [(aZ, .inr (15, fsZ))]) (w1 := [(aX, .inr (14, fsX)), (aT, .inr (12, s101))]) hP hD [0, 1] [2] rfl rfl (by decide) (by decide) hk1 hFc hP1 hD1
  have hK := hK.sub (tys' := []) [] rfl
  generalize H1 = H at hP hS ⊢
  have hP : va_P (dC, dI) vwCl [(aZ, .inr (15, fsZ)), (aX, .inr (14, fsX)), (aT, .inr (12, s101))] H := hP
  have hD : va_D A [(aZ, .inr (15, fsZ)), (aX, .inr (14, fsX)), (aT, .inr (12, s101))] := hD
  have o_s101 := hw
  have o_s101 := ow_on o_fsT o_s101 (l' := [(1, .int 0)]) (w' := [1]) rfl rfl
  refine lv_aload_n hx hb dL_law_360 rfl (lv_at hl 2 rfl) ?_
  have hPc := hP.sub (ws' := [(aZ, .inr (15, fsZ))]) [0] rfl
  have hDc := hD.sub (ws' := [(aZ, .inr (15, fsZ))]) [0] (by decide) rfl
  have hKc := hK.sub (tys' := []) [] rfl
  have hFc := va_free (wc := [(aZ, .inr (15, fsZ))]) hD hS hA [0] rfl
  refine va_callv (va_runV (As := []) (rest := []) ⟨hx, hb, hml, hown, hts⟩ (z_X12_wipe l dC dI H.size aZ fsZ (fh_sub o_fsZ.2 [] rfl) ) (cwV 0 hts g_lk_2_z_X12_wipe_132 rfl rfl rfl (by decide +kernel) ⟨Nat.le_of_ble_eq_true rfl, Nat.le_of_ble_eq_true rfl⟩) ⟨fun a U g mk q => by obtain ⟨q0, q1, qP, qK, qD⟩ := q; exact ⟨q0, q1, qP, va_K.moved (u := U) (U := U.calling g mk a) (Vm.Alike.refl U.vm) qK, qD⟩, va_recv hK hP (ci := 15) (q0 := 0) rfl rfl, fun U hU hW => ⟨rfl, by rw [hU], by rw [hU]; exact hPc, va_K.moved hW.alike hKc, hDc.weaken (fun _ _ _ _ => trivial)⟩⟩ rfl rfl hl.1 rfl (lv_room (Nat.le_of_ble_eq_true rfl)) dL_law_361 ⟨Nat.le_of_ble_eq_true rfl, Nat.le_of_ble_eq_true rfl⟩) hS (fun q _ h => hFc q h) hFc (fun u t H1 locs ht hvm hw hB hz1 hk1 hS => ?_)
  obtain ⟨s102, rfl⟩ : ∃ z, z = u := ⟨_, rfl⟩
  obtain ⟨hP1, hK1, hD1⟩ := hB
  rw [ht] at hP1
  try dsimp only at hw
  obtain ⟨hP, hD⟩ := va_join (wr := [(aX, .inr (14, fsX)), (aT, .inr (12, s101))]) (w1 := [(aZ, .inr (15, s102))]) hP hD [0] [1, 2] rfl rfl (by decide) (by decide) hk1 hFc hP1 hD1
  have hK := hK.sub (tys' := []) [] rfl
  generalize H1 = H at hP hS ⊢
  have hP : va_P (dC, dI) vwCl [(aX, .inr (14, fsX)), (aT, .inr (12, s101)), (aZ, .inr (15, s102))] H := hP
  have hD : va_D A [(aX, .inr (14, fsX)), (aT, .inr (12, s101)), (aZ, .inr (15, s102))] := hD
  have o_s102 := hw
  have o_s102 := ow_on o_fsZ o_s102 (l' := [(3, .int 0), (0, .int 0)]) (w' := [3, 0]) rfl rfl
  refine lv_goto (tgt := 3111) hx hb dL_law_364 (by decide) ?_
  exact lw_end hst C0 hA hAf hZ hY (Nat.le_of_ble_eq_true rfl) (Nat.le_of_ble_eq_true rfl) dC dI P0k P0 D0 hS ls (lv_sub hl [0, 4] rfl)

set_option maxRecDepth 20000 in
theorem g_lk_3_z_X11_flip_133 : GoodIn lwW (wsV RL 133 RX11 yX11_flip w_z_X11_flip) := goodIn_app (goodIn_sub (ws := ([.methodLink RL 133 yX11_flip, .instanceMethod yX11_flip, .selects RX11 yX11_flip yX11_flip, .initialized RX11] : List Cond)) (gm_c (gm_at lwV_4_in 4 rfl) (gm_c (gm_at lwV_4_in 5 rfl) (gm_c (gm_at lwV_4_in 6 rfl) (gm_c (gm_at lwV_0_in 3 rfl) gm_nil)))) (by decide +kernel)) (goodIn_ca (goodIn_sub (ws := .code yX11_flip cX11_flip 3 (some .boolean) :: l_z_X11_flip) (gm_c (gm_at lwV_4_in 10 rfl) (gm_c (gm_at lwV_0_in 9 rfl) (gm_c (gm_at lwV_4_in 2 rfl) gm_nil))) (by decide +kernel)) (goodIn_app (goodIn_in il_X11 gd_X11) (goodIn_in il_X9 gd_X9)))
set_option maxRecDepth 20000 in
theorem g_lk_3_z_X12_flip_137 : GoodIn lwW (wsV RL 137 RX12 yX12_flip w_z_X12_flip) := goodIn_app (goodIn_sub (ws := ([.methodLink RL 137 yX12_flip, .instanceMethod yX12_flip, .selects RX12 yX12_flip yX12_flip, .initialized RX12] : List Cond)) (gm_c (gm_at lwV_4_in 7 rfl) (gm_c (gm_at lwV_4_in 8 rfl) (gm_c (gm_at lwV_4_in 9 rfl) (gm_c (gm_at lwV_0_in 7 rfl) gm_nil)))) (by decide +kernel)) (goodIn_ca (goodIn_sub (ws := .code yX12_flip cX12_flip 3 (some .boolean) :: l_z_X12_flip) (gm_c (gm_at lwV_4_in 11 rfl) (gm_c (gm_at lwV_1_in 5 rfl) (gm_c (gm_at lwV_3_in 5 rfl) gm_nil))) (by decide +kernel)) (goodIn_in il_X12 gd_X12))
set_option maxHeartbeats 4000000 in
set_option maxRecDepth 100000 in
/-- the law, one call: flip -/
theorem lk_3 {p : Program} {l : Launch} {e : Env} {s : State} {m : MethodId} {below : List Frame} {meth : Method} {c : Code} {b : Nat} {xs : Nat → Int32} (hst : l.stackTraces = false) (C0 : lw_At p s m meth c b 6 xs) {A : Nat → Prop} (hA : ∀ q : Nat, s.heap.size ≤ q → A q) (hAf : ∀ q : Nat, A q → s.heap.size ≤ q) (hZ : Zz A s) (hY : Yy s) (dC : Nat → ClassId) (dI : Nat → Nat → Nat) (aX : Nat) (fsX : List Value) (aT : Nat) (fsT : List Value) (aZ : Nat) (fsZ : List Value) (qO : Nat) (w1 : Int32) (hw1 : w1 = xs (1 : Int32).toNatClampNeg) (w2 : Int32) (hw2 : w2 = xs (2 : Int32).toNatClampNeg) (w3 : Int32) (hw3 : w3 = xs (3 : Int32).toNatClampNeg) (w4 : Int32) (hw4 : w4 = xs (4 : Int32).toNatClampNeg) (w5 : Int32) (hw5 : w5 = xs (5 : Int32).toNatClampNeg) (k_fsX : fh fsX 18 [(0, .ref aT)]) (k_fsT : fh fsT 12 [(1, .int 0)]) (k_fsZ : fh fsZ 150 [(3, .int 0)])  {H : Heap} {locs : List Loc} (hK : va_K (dC, dI) vwCl [] s) (hP : va_P (dC, dI) vwCl [(aX, .inr (14, fsX)), (aT, .inr (12, fsT)), (aZ, .inr (15, fsZ))] H) (hD : va_D A [(aX, .inr (14, fsX)), (aT, .inr (12, fsT)), (aZ, .inr (15, fsZ))]) (hS : va_S A s.heap H locs) (ls : Array Slot) (hl : lv_has ls 8 [(0, .ref b), (1, .ref aX), (2, .ref aZ), (3, .ref qO), (4, .int 0)]) : W p l e room_1 s m #[Value.ref b] below meth c H locs 390 571359 (lw_Z below #[Value.ref b] s) (F0 m 367 ls []) := by
  obtain ⟨hx, hb, hr, hml, hown0, hts0, hX, hbl, hlocks, hgv⟩ := id C0
  have hown : s.vm.findClass RL = some m.cls := hown0
  have hts : ∀ w ∈ lwW, w.before #[Value.ref b] s = true := fun w h => hts0 w (lwW_in w h)
  have hbA : ¬ A b := fun h => absurd (hAf b h) (Nat.not_le.mpr hbl)
  have o_fsX := ow_0 k_fsX
  have o_fsT := ow_0 k_fsT
  have o_fsZ := ow_0 k_fsZ
  refine lv_aload_n hx hb dL_law_367 rfl (lv_at hl 1 rfl) ?_
  refine lv_aload_n hx hb dL_law_368 rfl (lv_at hl 0 rfl) ?_
  refine lv_iload hx hb dL_law_369 (lv_at hl 4 rfl) ?_
  refine lv_iconst (v := 1) hx hb dL_law_371 (by decide) ?_
  refine lv_iadd hx hb dL_law_372  ?_
  refine lv_topi (fun x101 ex101 => ?_)
  obtain rfl : x101 = 1 := ex101.trans (by decide)
  refine va_sld hx hb hX hbl hbA hS (show vp_in 1 6 from by unfold vp_in; decide) dL_law_373 ?_
  refine lv_topi (fun x102 ex102 => ?_)
  obtain rfl : w1 = x102 := hw1.trans ex102.symm
  refine lv_aload_n hx hb dL_law_374 rfl (lv_at hl 0 rfl) ?_
  refine lv_iload hx hb dL_law_375 (lv_at hl 4 rfl) ?_
  refine lv_iconst (v := 2) hx hb dL_law_377 (by decide) ?_
  refine lv_iadd hx hb dL_law_378  ?_
  refine lv_topi (fun x103 ex103 => ?_)
  obtain rfl : x103 = 2 := ex103.trans (by decide)
  refine va_sld hx hb hX hbl hbA hS (show vp_in 2 6 from by unfold vp_in; decide) dL_law_379 ?_
  refine lv_topi (fun x104 ex104 => ?_)
  obtain rfl : w2 = x104 := hw2.trans ex104.symm
  have hPc := hP.sub (ws' := [(aX, .inr (14, fsX)), (aT, .inr (12, fsT))]) [0, 1] rfl
  have hDc := hD.sub (ws' := [(aX, .inr (14, fsX)), (aT, .inr (12, fsT))]) [0, 1] (by decide) rfl
  have hKc := hK.sub (tys' := []) [] rfl
  have hFc := va_free (wc := [(aX, .inr (14, fsX)), (aT, .inr (12, fsT))]) hD hS hA [0, 1] rfl
  refine va_calli (va_runV (As := [.int w1, .int w2]) (rest := []) ⟨hx, hb, hml, hown, hts⟩ (z_X11_flip l dC dI H.size aX fsX aT fsT w1 w2 (fh_sub o_fsX.2 [0] rfl) (fh_sub o_fsT.2 [0] rfl) ) (cwV 2 hts g_lk_3_z_X11_flip_133 rfl rfl rfl (by decide +kernel) ⟨Nat.le_of_ble_eq_true rfl, Nat.le_of_ble_eq_true rfl⟩) ⟨fun a U g mk q => by obtain ⟨q0, q1, qP, qK, qD⟩ := q; exact ⟨q0, q1, qP, va_K.moved (u := U) (U := U.calling g mk a) (Vm.Alike.refl U.vm) qK, qD⟩, va_recv hK hP (ci := 14) (q0 := 0) rfl rfl, fun U hU hW => ⟨rfl, by rw [hU], by rw [hU]; exact hPc, va_K.moved hW.alike hKc, hDc.weaken (fun _ _ _ _ => trivial)⟩⟩ rfl rfl hl.1 rfl (lv_room (Nat.le_of_ble_eq_true rfl)) dL_law_380 ⟨Nat.le_of_ble_eq_true rfl, Nat.le_of_ble_eq_true rfl⟩) hS (fun q _ h => hFc q h) hFc (fun r105 u t H1 locs ht hvm hw hB hz1 hk1 hS => ?_)
  obtain ⟨hP1, hK1, hD1⟩ := hB
  rw [ht] at hP1
  try dsimp only at hw
  obtain ⟨hP, hD⟩ := va_join (wr := [(aZ, .inr (15, fsZ))]) (w1 := [(aX, .inr (14, fsX)), (aT, .inr (12, fsT))]) hP hD [0, 1] [2] rfl rfl (by decide) (by decide) hk1 hFc hP1 hD1
  have hK := hK.sub (tys' := []) [] rfl
  generalize H1 = H at hP hS ⊢
  have hP : va_P (dC, dI) vwCl [(aZ, .inr (15, fsZ)), (aX, .inr (14, fsX)), (aT, .inr (12, fsT))] H := hP
  have hD : va_D A [(aZ, .inr (15, fsZ)), (aX, .inr (14, fsX)), (aT, .inr (12, fsT))] := hD
  rcases hw with ⟨c106, er107⟩ | ⟨c108, c109, er110⟩
  · skip
    subst er107
    refine lv_aload_n hx hb dL_law_383 rfl (lv_at hl 2 rfl) ?_
    refine lv_aload_n hx hb dL_law_384 rfl (lv_at hl 0 rfl) ?_
    refine lv_iload hx hb dL_law_385 (lv_at hl 4 rfl) ?_
    refine lv_iconst (v := 1) hx hb dL_law_387 (by decide) ?_
    refine lv_iadd hx hb dL_law_388  ?_
    refine lv_topi (fun x111 ex111 => ?_)
    obtain rfl : x111 = 1 := ex111.trans (by decide)
    refine va_sld hx hb hX hbl hbA hS (show vp_in 1 6 from by unfold vp_in; decide) dL_law_389 ?_
    refine lv_topi (fun x112 ex112 => ?_)
    obtain rfl : w1 = x112 := hw1.trans ex112.symm
    refine lv_aload_n hx hb dL_law_390 rfl (lv_at hl 0 rfl) ?_
    refine lv_iload hx hb dL_law_391 (lv_at hl 4 rfl) ?_
    refine lv_iconst (v := 2) hx hb dL_law_393 (by decide) ?_
    refine lv_iadd hx hb dL_law_394  ?_
    refine lv_topi (fun x113 ex113 => ?_)
    obtain rfl : x113 = 2 := ex113.trans (by decide)
    refine va_sld hx hb hX hbl hbA hS (show vp_in 2 6 from by unfold vp_in; decide) dL_law_395 ?_
    refine lv_topi (fun x114 ex114 => ?_)
    obtain rfl : w2 = x114 := hw2.trans ex114.symm
    have hPc := hP.sub (ws' := [(aZ, .inr (15, fsZ))]) [0] rfl
    have hDc := hD.sub (ws' := [(aZ, .inr (15, fsZ))]) [0] (by decide) rfl
    have hKc := hK.sub (tys' := []) [] rfl
    have hFc := va_free (wc := [(aZ, .inr (15, fsZ))]) hD hS hA [0] rfl
    refine va_calli (va_runV (As := [.int w1, .int w2]) (rest := [.int 0]) ⟨hx, hb, hml, hown, hts⟩ (z_X12_flip l dC dI H.size aZ fsZ w1 w2 (fh_sub o_fsZ.2 [0] rfl) ) (cwV 2 hts g_lk_3_z_X12_flip_137 rfl rfl rfl (by decide +kernel) ⟨Nat.le_of_ble_eq_true rfl, Nat.le_of_ble_eq_true rfl⟩) ⟨fun a U g mk q => by obtain ⟨q0, q1, qP, qK, qD⟩ := q; exact ⟨q0, q1, qP, va_K.moved (u := U) (U := U.calling g mk a) (Vm.Alike.refl U.vm) qK, qD⟩, va_recv hK hP (ci := 15) (q0 := 0) rfl rfl, fun U hU hW => ⟨rfl, by rw [hU], by rw [hU]; exact hPc, va_K.moved hW.alike hKc, hDc.weaken (fun _ _ _ _ => trivial)⟩⟩ rfl rfl hl.1 rfl (lv_room (Nat.le_of_ble_eq_true rfl)) dL_law_396 ⟨Nat.le_of_ble_eq_true rfl, Nat.le_of_ble_eq_true rfl⟩) hS (fun q _ h => hFc q h) hFc (fun r115 u t H1 locs ht hvm hw hB hz1 hk1 hS => ?_)
    obtain ⟨s116, rfl⟩ : ∃ z, z = u := ⟨_, rfl⟩
    obtain ⟨hP1, hK1, hD1⟩ := hB
    rw [ht] at hP1
    try dsimp only at hw
    obtain ⟨hP, hD⟩ := va_join (wr := [(aX, .inr (14, fsX)), (aT, .inr (12, fsT))]) (w1 := [(aZ, .inr (15, s116))]) hP hD [0] [1, 2] rfl rfl (by decide) (by decide) hk1 hFc hP1 hD1
    have hK := hK.sub (tys' := []) [] rfl
    generalize H1 = H at hP hS ⊢
    have hP : va_P (dC, dI) vwCl [(aX, .inr (14, fsX)), (aT, .inr (12, fsT)), (aZ, .inr (15, s116))] H := hP
    have hD : va_D A [(aX, .inr (14, fsX)), (aT, .inr (12, fsT)), (aZ, .inr (15, s116))] := hD
    rcases hw with ⟨c117, er118, o_s116⟩ | ⟨c119, c120, er121, o_s116⟩
    · skip
      subst er118
      have o_s116 := ow_on o_fsZ o_s116 (l' := [(0, .int 0), (3, .int 0), (3, .int 0)]) (w' := [0]) rfl rfl
      refine lv_icmp_eq (tgt := 3111) hx hb dL_law_399 (by decide) (fun c122 => ?_) (fun c122 => absurd c122 (by decide))
      exact lw_end hst C0 hA hAf hZ hY (Nat.le_of_ble_eq_true rfl) (Nat.le_of_ble_eq_true rfl) dC dI P0k P0 D0 hS ls (lv_sub hl [0, 4] rfl)
    · exact (by exfalso; (try simp only [i_lt, i_le, i_eq, kc_0] at c106 c119 c120); omega)
  · skip
    subst er110
    refine lv_aload_n hx hb dL_law_383 rfl (lv_at hl 2 rfl) ?_
    refine lv_aload_n hx hb dL_law_384 rfl (lv_at hl 0 rfl) ?_
    refine lv_iload hx hb dL_law_385 (lv_at hl 4 rfl) ?_
    refine lv_iconst (v := 1) hx hb dL_law_387 (by decide) ?_
    refine lv_iadd hx hb dL_law_388  ?_
    refine lv_topi (fun x123 ex123 => ?_)
    obtain rfl : x123 = 1 := ex123.trans (by decide)
    refine va_sld hx hb hX hbl hbA hS (show vp_in 1 6 from by unfold vp_in; decide) dL_law_389 ?_
    refine lv_topi (fun x124 ex124 => ?_)
    obtain rfl : w1 = x124 := hw1.trans ex124.symm
    refine lv_aload_n hx hb dL_law_390 rfl (lv_at hl 0 rfl) ?_
    refine lv_iload hx hb dL_law_391 (lv_at hl 4 rfl) ?_
    refine lv_iconst (v := 2) hx hb dL_law_393 (by decide) ?_
    refine lv_iadd hx hb dL_law_394  ?_
    refine lv_topi (fun x125 ex125 => ?_)
    obtain rfl : x125 = 2 := ex125.trans (by decide)
    refine va_sld hx hb hX hbl hbA hS (show vp_in 2 6 from by unfold vp_in; decide) dL_law_395 ?_
    refine lv_topi (fun x126 ex126 => ?_)
    obtain rfl : w2 = x126 := hw2.trans ex126.symm
    have hPc := hP.sub (ws' := [(aZ, .inr (15, fsZ))]) [0] rfl
    have hDc := hD.sub (ws' := [(aZ, .inr (15, fsZ))]) [0] (by decide) rfl
    have hKc := hK.sub (tys' := []) [] rfl
    have hFc := va_free (wc := [(aZ, .inr (15, fsZ))]) hD hS hA [0] rfl
    refine va_calli (va_runV (As := [.int w1, .int w2]) (rest := [.int 0]) ⟨hx, hb, hml, hown, hts⟩ (z_X12_flip l dC dI H.size aZ fsZ w1 w2 (fh_sub o_fsZ.2 [0] rfl) ) (cwV 2 hts g_lk_3_z_X12_flip_137 rfl rfl rfl (by decide +kernel) ⟨Nat.le_of_ble_eq_true rfl, Nat.le_of_ble_eq_true rfl⟩) ⟨fun a U g mk q => by obtain ⟨q0, q1, qP, qK, qD⟩ := q; exact ⟨q0, q1, qP, va_K.moved (u := U) (U := U.calling g mk a) (Vm.Alike.refl U.vm) qK, qD⟩, va_recv hK hP (ci := 15) (q0 := 0) rfl rfl, fun U hU hW => ⟨rfl, by rw [hU], by rw [hU]; exact hPc, va_K.moved hW.alike hKc, hDc.weaken (fun _ _ _ _ => trivial)⟩⟩ rfl rfl hl.1 rfl (lv_room (Nat.le_of_ble_eq_true rfl)) dL_law_396 ⟨Nat.le_of_ble_eq_true rfl, Nat.le_of_ble_eq_true rfl⟩) hS (fun q _ h => hFc q h) hFc (fun r127 u t H1 locs ht hvm hw hB hz1 hk1 hS => ?_)
    obtain ⟨s128, rfl⟩ : ∃ z, z = u := ⟨_, rfl⟩
    obtain ⟨hP1, hK1, hD1⟩ := hB
    rw [ht] at hP1
    try dsimp only at hw
    obtain ⟨hP, hD⟩ := va_join (wr := [(aX, .inr (14, fsX)), (aT, .inr (12, fsT))]) (w1 := [(aZ, .inr (15, s128))]) hP hD [0] [1, 2] rfl rfl (by decide) (by decide) hk1 hFc hP1 hD1
    have hK := hK.sub (tys' := []) [] rfl
    generalize H1 = H at hP hS ⊢
    have hP : va_P (dC, dI) vwCl [(aX, .inr (14, fsX)), (aT, .inr (12, fsT)), (aZ, .inr (15, s128))] H := hP
    have hD : va_D A [(aX, .inr (14, fsX)), (aT, .inr (12, fsT)), (aZ, .inr (15, s128))] := hD
    rcases hw with ⟨c129, er130, o_s128⟩ | ⟨c131, c132, er133, o_s128⟩
    · exact (by exfalso; (try simp only [i_lt, i_le, i_eq, kc_0] at c108 c109 c129); omega)
    · skip
      subst er133
      have o_s128 := ow_on o_fsZ o_s128 (l' := [(0, .int 0), (3, .int 0), (3, .int 0)]) (w' := [0]) rfl rfl
      refine lv_icmp_eq (tgt := 3111) hx hb dL_law_399 (by decide) (fun c134 => ?_) (fun c134 => absurd c134 (by decide))
      exact lw_end hst C0 hA hAf hZ hY (Nat.le_of_ble_eq_true rfl) (Nat.le_of_ble_eq_true rfl) dC dI P0k P0 D0 hS ls (lv_sub hl [0, 4] rfl)

set_option maxRecDepth 20000 in
theorem g_lk_4_z_X11_cut_138 : GoodIn lwW (wsV RL 138 RX11 yX11_cut w_z_X11_cut) := goodIn_app (goodIn_sub (ws := ([.methodLink RL 138 yX11_cut, .instanceMethod yX11_cut, .selects RX11 yX11_cut yX11_cut, .initialized RX11] : List Cond)) (gm_c (gm_at lwV_5_in 0 rfl) (gm_c (gm_at lwV_5_in 1 rfl) (gm_c (gm_at lwV_5_in 2 rfl) (gm_c (gm_at lwV_0_in 3 rfl) gm_nil)))) (by decide +kernel)) (goodIn_ca (goodIn_sub (ws := .code yX11_cut cX11_cut 2 (some .boolean) :: l_z_X11_cut) (gm_c (gm_at lwV_5_in 6 rfl) (gm_c (gm_at lwV_0_in 9 rfl) (gm_c (gm_at lwV_4_in 2 rfl) gm_nil))) (by decide +kernel)) (goodIn_app (goodIn_in il_X11 gd_X11) (goodIn_in il_X9 gd_X9)))
set_option maxRecDepth 20000 in
theorem g_lk_4_z_X12_cut_142 : GoodIn lwW (wsV RL 142 RX12 yX12_cut w_z_X12_cut) := goodIn_app (goodIn_sub (ws := ([.methodLink RL 142 yX12_cut, .instanceMethod yX12_cut, .selects RX12 yX12_cut yX12_cut, .initialized RX12] : List Cond)) (gm_c (gm_at lwV_5_in 3 rfl) (gm_c (gm_at lwV_5_in 4 rfl) (gm_c (gm_at lwV_5_in 5 rfl) (gm_c (gm_at lwV_0_in 7 rfl) gm_nil)))) (by decide +kernel)) (goodIn_ca (goodIn_sub (ws := .code yX12_cut cX12_cut 2 (some .boolean) :: l_z_X12_cut) (gm_c (gm_at lwV_5_in 7 rfl) (gm_c (gm_at lwV_1_in 5 rfl) (gm_c (gm_at lwV_3_in 5 rfl) gm_nil))) (by decide +kernel)) (goodIn_in il_X12 gd_X12))
set_option maxHeartbeats 4000000 in
set_option maxRecDepth 100000 in
/-- the law, one call: cut -/
theorem lk_4 {p : Program} {l : Launch} {e : Env} {s : State} {m : MethodId} {below : List Frame} {meth : Method} {c : Code} {b : Nat} {xs : Nat → Int32} (hst : l.stackTraces = false) (C0 : lw_At p s m meth c b 6 xs) {A : Nat → Prop} (hA : ∀ q : Nat, s.heap.size ≤ q → A q) (hAf : ∀ q : Nat, A q → s.heap.size ≤ q) (hZ : Zz A s) (hY : Yy s) (dC : Nat → ClassId) (dI : Nat → Nat → Nat) (aX : Nat) (fsX : List Value) (aT : Nat) (fsT : List Value) (aZ : Nat) (fsZ : List Value) (qO : Nat) (w1 : Int32) (hw1 : w1 = xs (1 : Int32).toNatClampNeg) (w2 : Int32) (hw2 : w2 = xs (2 : Int32).toNatClampNeg) (w3 : Int32) (hw3 : w3 = xs (3 : Int32).toNatClampNeg) (w4 : Int32) (hw4 : w4 = xs (4 : Int32).toNatClampNeg) (w5 : Int32) (hw5 : w5 = xs (5 : Int32).toNatClampNeg) (k_fsX : fh fsX 18 [(0, .ref aT)]) (k_fsT : fh fsT 12 [(1, .int 0)]) (k_fsZ : fh fsZ 150 [(3, .int 0)])  {H : Heap} {locs : List Loc} (hK : va_K (dC, dI) vwCl [] s) (hP : va_P (dC, dI) vwCl [(aX, .inr (14, fsX)), (aT, .inr (12, fsT)), (aZ, .inr (15, fsZ))] H) (hD : va_D A [(aX, .inr (14, fsX)), (aT, .inr (12, fsT)), (aZ, .inr (15, fsZ))]) (hS : va_S A s.heap H locs) (ls : Array Slot) (hl : lv_has ls 8 [(0, .ref b), (1, .ref aX), (2, .ref aZ), (3, .ref qO), (4, .int 0)]) : W p l e room_1 s m #[Value.ref b] below meth c H locs 390 571359 (lw_Z below #[Value.ref b] s) (F0 m 404 ls []) := by
  obtain ⟨hx, hb, hr, hml, hown0, hts0, hX, hbl, hlocks, hgv⟩ := id C0
  have hown : s.vm.findClass RL = some m.cls := hown0
  have hts : ∀ w ∈ lwW, w.before #[Value.ref b] s = true := fun w h => hts0 w (lwW_in w h)
  have hbA : ¬ A b := fun h => absurd (hAf b h) (Nat.not_le.mpr hbl)
  have o_fsX := ow_0 k_fsX
  have o_fsT := ow_0 k_fsT
  have o_fsZ := ow_0 k_fsZ
  refine lv_aload_n hx hb dL_law_404 rfl (lv_at hl 1 rfl) ?_
  refine lv_aload_n hx hb dL_law_405 rfl (lv_at hl 0 rfl) ?_
  refine lv_iload hx hb dL_law_406 (lv_at hl 4 rfl) ?_
  refine lv_iconst (v := 1) hx hb dL_law_408 (by decide) ?_
  refine lv_iadd hx hb dL_law_409  ?_
  refine lv_topi (fun x101 ex101 => ?_)
  obtain rfl : x101 = 1 := ex101.trans (by decide)
  refine va_sld hx hb hX hbl hbA hS (show vp_in 1 6 from by unfold vp_in; decide) dL_law_410 ?_
  refine lv_topi (fun x102 ex102 => ?_)
  obtain rfl : w1 = x102 := hw1.trans ex102.symm
  have hPc := hP.sub (ws' := [(aX, .inr (14, fsX)), (aT, .inr (12, fsT))]) [0, 1] rfl
  have hDc := hD.sub (ws' := [(aX, .inr (14, fsX)), (aT, .inr (12, fsT))]) [0, 1] (by decide) rfl
  have hKc := hK.sub (tys' := []) [] rfl
  have hFc := va_free (wc := [(aX, .inr (14, fsX)), (aT, .inr (12, fsT))]) hD hS hA [0, 1] rfl
  refine va_calli (va_runV (As := [.int w1]) (rest := []) ⟨hx, hb, hml, hown, hts⟩ (z_X11_cut l dC dI H.size aX fsX aT fsT w1 (fh_sub o_fsX.2 [0] rfl) (fh_sub o_fsT.2 [0] rfl) ) (cwV 1 hts g_lk_4_z_X11_cut_138 rfl rfl rfl (by decide +kernel) ⟨Nat.le_of_ble_eq_true rfl, Nat.le_of_ble_eq_true rfl⟩) ⟨fun a U g mk q => by obtain ⟨q0, q1, qP, qK, qD⟩ := q; exact ⟨q0, q1, qP, va_K.moved (u := U) (U := U.calling g mk a) (Vm.Alike.refl U.vm) qK, qD⟩, va_recv hK hP (ci := 14) (q0 := 0) rfl rfl, fun U hU hW => ⟨rfl, by rw [hU], by rw [hU]; exact hPc, va_K.moved hW.alike hKc, hDc.weaken (fun _ _ _ _ => trivial)⟩⟩ rfl rfl hl.1 rfl (lv_room (Nat.le_of_ble_eq_true rfl)) dL_law_411 ⟨Nat.le_of_ble_eq_true rfl, Nat.le_of_ble_eq_true rfl⟩) hS (fun q _ h => hFc q h) hFc (fun r103 u t H1 locs ht hvm hw hB hz1 hk1 hS => ?_)
  obtain ⟨s104, rfl⟩ : ∃ z, z = u := ⟨_, rfl⟩
  obtain ⟨hP1, hK1, hD1⟩ := hB
  rw [ht] at hP1
  try dsimp only at hw
  obtain ⟨hP, hD⟩ := va_join (wr := [(aZ, .inr (15, fsZ))]) (w1 := [(aX, .inr (14, fsX)), (aT, .inr (12, s104))]) hP hD [0, 1] [2] rfl rfl (by decide) (by decide) hk1 hFc hP1 hD1
  have hK := hK.sub (tys' := []) [] rfl
  generalize H1 = H at hP hS ⊢
  have hP : va_P (dC, dI) vwCl [(aZ, .inr (15, fsZ)), (aX, .inr (14, fsX)), (aT, .inr (12, s104))] H := hP
  have hD : va_D A [(aZ, .inr (15, fsZ)), (aX, .inr (14, fsX)), (aT, .inr (12, s104))] := hD
  rcases hw with ⟨c105, er106, o_s104⟩ | ⟨c107, c108, er109, o_s104⟩ | ⟨c110, c111, er112, o_s104⟩
  · skip
    subst er106
    have o_s104 := ow_on o_fsT o_s104 (l' := [(1, .int 0), (1, .int 0)]) (w' := []) rfl rfl
    refine lv_aload_n hx hb dL_law_414 rfl (lv_at hl 2 rfl) ?_
    refine lv_aload_n hx hb dL_law_415 rfl (lv_at hl 0 rfl) ?_
    refine lv_iload hx hb dL_law_416 (lv_at hl 4 rfl) ?_
    refine lv_iconst (v := 1) hx hb dL_law_418 (by decide) ?_
    refine lv_iadd hx hb dL_law_419  ?_
    refine lv_topi (fun x113 ex113 => ?_)
    obtain rfl : x113 = 1 := ex113.trans (by decide)
    refine va_sld hx hb hX hbl hbA hS (show vp_in 1 6 from by unfold vp_in; decide) dL_law_420 ?_
    refine lv_topi (fun x114 ex114 => ?_)
    obtain rfl : w1 = x114 := hw1.trans ex114.symm
    have hPc := hP.sub (ws' := [(aZ, .inr (15, fsZ))]) [0] rfl
    have hDc := hD.sub (ws' := [(aZ, .inr (15, fsZ))]) [0] (by decide) rfl
    have hKc := hK.sub (tys' := []) [] rfl
    have hFc := va_free (wc := [(aZ, .inr (15, fsZ))]) hD hS hA [0] rfl
    refine va_calli (va_runV (As := [.int w1]) (rest := [.int 0]) ⟨hx, hb, hml, hown, hts⟩ (z_X12_cut l dC dI H.size aZ fsZ w1 (fh_sub o_fsZ.2 [0] rfl) ) (cwV 1 hts g_lk_4_z_X12_cut_142 rfl rfl rfl (by decide +kernel) ⟨Nat.le_of_ble_eq_true rfl, Nat.le_of_ble_eq_true rfl⟩) ⟨fun a U g mk q => by obtain ⟨q0, q1, qP, qK, qD⟩ := q; exact ⟨q0, q1, qP, va_K.moved (u := U) (U := U.calling g mk a) (Vm.Alike.refl U.vm) qK, qD⟩, va_recv hK hP (ci := 15) (q0 := 0) rfl rfl, fun U hU hW => ⟨rfl, by rw [hU], by rw [hU]; exact hPc, va_K.moved hW.alike hKc, hDc.weaken (fun _ _ _ _ => trivial)⟩⟩ rfl rfl hl.1 rfl (lv_room (Nat.le_of_ble_eq_true rfl)) dL_law_421 ⟨Nat.le_of_ble_eq_true rfl, Nat.le_of_ble_eq_true rfl⟩) hS (fun q _ h => hFc q h) hFc (fun r115 u t H1 locs ht hvm hw hB hz1 hk1 hS => ?_)
    obtain ⟨s116, rfl⟩ : ∃ z, z = u := ⟨_, rfl⟩
    obtain ⟨hP1, hK1, hD1⟩ := hB
    rw [ht] at hP1
    try dsimp only at hw
    obtain ⟨hP, hD⟩ := va_join (wr := [(aX, .inr (14, fsX)), (aT, .inr (12, s104))]) (w1 := [(aZ, .inr (15, s116))]) hP hD [0] [1, 2] rfl rfl (by decide) (by decide) hk1 hFc hP1 hD1
    have hK := hK.sub (tys' := []) [] rfl
    generalize H1 = H at hP hS ⊢
    have hP : va_P (dC, dI) vwCl [(aX, .inr (14, fsX)), (aT, .inr (12, s104)), (aZ, .inr (15, s116))] H := hP
    have hD : va_D A [(aX, .inr (14, fsX)), (aT, .inr (12, s104)), (aZ, .inr (15, s116))] := hD
    rcases hw with ⟨c117, er118, o_s116⟩ | ⟨c119, c120, er121, o_s116⟩ | ⟨c122, c123, er124, o_s116⟩
    · skip
      subst er118
      have o_s116 := ow_on o_fsZ o_s116 (l' := [(0, .int 0), (3, .int 0), (3, .int 0)]) (w' := [0]) rfl rfl
      refine lv_icmp_eq (tgt := 3111) hx hb dL_law_424 (by decide) (fun c125 => ?_) (fun c125 => absurd c125 (by decide))
      exact lw_end hst C0 hA hAf hZ hY (Nat.le_of_ble_eq_true rfl) (Nat.le_of_ble_eq_true rfl) dC dI P0k P0 D0 hS ls (lv_sub hl [0, 4] rfl)
    · exact (by exfalso; (try simp only [i_lt, i_le, i_eq, kc_0] at c105 c119 c120); omega)
    · exact (by exfalso; (try simp only [i_lt, i_le, i_eq, kc_0] at c105 c122 c123); omega)
  · skip
    subst er109
    have o_s104 := ow_on o_fsT o_s104 (l' := [(1, .int w1)]) (w' := [1]) rfl rfl
    refine lv_aload_n hx hb dL_law_414 rfl (lv_at hl 2 rfl) ?_
    refine lv_aload_n hx hb dL_law_415 rfl (lv_at hl 0 rfl) ?_
    refine lv_iload hx hb dL_law_416 (lv_at hl 4 rfl) ?_
    refine lv_iconst (v := 1) hx hb dL_law_418 (by decide) ?_
    refine lv_iadd hx hb dL_law_419  ?_
    refine lv_topi (fun x126 ex126 => ?_)
    obtain rfl : x126 = 1 := ex126.trans (by decide)
    refine va_sld hx hb hX hbl hbA hS (show vp_in 1 6 from by unfold vp_in; decide) dL_law_420 ?_
    refine lv_topi (fun x127 ex127 => ?_)
    obtain rfl : w1 = x127 := hw1.trans ex127.symm
    have hPc := hP.sub (ws' := [(aZ, .inr (15, fsZ))]) [0] rfl
    have hDc := hD.sub (ws' := [(aZ, .inr (15, fsZ))]) [0] (by decide) rfl
    have hKc := hK.sub (tys' := []) [] rfl
    have hFc := va_free (wc := [(aZ, .inr (15, fsZ))]) hD hS hA [0] rfl
    refine va_calli (va_runV (As := [.int w1]) (rest := [.int 1]) ⟨hx, hb, hml, hown, hts⟩ (z_X12_cut l dC dI H.size aZ fsZ w1 (fh_sub o_fsZ.2 [0] rfl) ) (cwV 1 hts g_lk_4_z_X12_cut_142 rfl rfl rfl (by decide +kernel) ⟨Nat.le_of_ble_eq_true rfl, Nat.le_of_ble_eq_true rfl⟩) ⟨fun a U g mk q => by obtain ⟨q0, q1, qP, qK, qD⟩ := q; exact ⟨q0, q1, qP, va_K.moved (u := U) (U := U.calling g mk a) (Vm.Alike.refl U.vm) qK, qD⟩, va_recv hK hP (ci := 15) (q0 := 0) rfl rfl, fun U hU hW => ⟨rfl, by rw [hU], by rw [hU]; exact hPc, va_K.moved hW.alike hKc, hDc.weaken (fun _ _ _ _ => trivial)⟩⟩ rfl rfl hl.1 rfl (lv_room (Nat.le_of_ble_eq_true rfl)) dL_law_421 ⟨Nat.le_of_ble_eq_true rfl, Nat.le_of_ble_eq_true rfl⟩) hS (fun q _ h => hFc q h) hFc (fun r128 u t H1 locs ht hvm hw hB hz1 hk1 hS => ?_)
    obtain ⟨s129, rfl⟩ : ∃ z, z = u := ⟨_, rfl⟩
    obtain ⟨hP1, hK1, hD1⟩ := hB
    rw [ht] at hP1
    try dsimp only at hw
    obtain ⟨hP, hD⟩ := va_join (wr := [(aX, .inr (14, fsX)), (aT, .inr (12, s104))]) (w1 := [(aZ, .inr (15, s129))]) hP hD [0] [1, 2] rfl rfl (by decide) (by decide) hk1 hFc hP1 hD1
    have hK := hK.sub (tys' := []) [] rfl
    generalize H1 = H at hP hS ⊢
    have hP : va_P (dC, dI) vwCl [(aX, .inr (14, fsX)), (aT, .inr (12, s104)), (aZ, .inr (15, s129))] H := hP
    have hD : va_D A [(aX, .inr (14, fsX)), (aT, .inr (12, s104)), (aZ, .inr (15, s129))] := hD
    rcases hw with ⟨c130, er131, o_s129⟩ | ⟨c132, c133, er134, o_s129⟩ | ⟨c135, c136, er137, o_s129⟩
    · exact (by exfalso; (try simp only [i_lt, i_le, i_eq, kc_0] at c107 c108 c130); omega)
    · skip
      subst er134
      have o_s129 := ow_on o_fsZ o_s129 (l' := [(3, .int w1), (0, .int 0)]) (w' := [3, 0]) rfl rfl
      refine lv_icmp_eq (tgt := 3111) hx hb dL_law_424 (by decide) (fun c138 => ?_) (fun c138 => absurd c138 (by decide))
      exact lw_end hst C0 hA hAf hZ hY (Nat.le_of_ble_eq_true rfl) (Nat.le_of_ble_eq_true rfl) dC dI P0k P0 D0 hS ls (lv_sub hl [0, 4] rfl)
    · exact (by exfalso; (try simp only [i_lt, i_le, i_eq, kc_0] at c107 c108 c135 c136); omega)
  · skip
    subst er112
    have o_s104 := ow_on o_fsT o_s104 (l' := [(1, .int 0), (1, .int 0)]) (w' := []) rfl rfl
    refine lv_aload_n hx hb dL_law_414 rfl (lv_at hl 2 rfl) ?_
    refine lv_aload_n hx hb dL_law_415 rfl (lv_at hl 0 rfl) ?_
    refine lv_iload hx hb dL_law_416 (lv_at hl 4 rfl) ?_
    refine lv_iconst (v := 1) hx hb dL_law_418 (by decide) ?_
    refine lv_iadd hx hb dL_law_419  ?_
    refine lv_topi (fun x139 ex139 => ?_)
    obtain rfl : x139 = 1 := ex139.trans (by decide)
    refine va_sld hx hb hX hbl hbA hS (show vp_in 1 6 from by unfold vp_in; decide) dL_law_420 ?_
    refine lv_topi (fun x140 ex140 => ?_)
    obtain rfl : w1 = x140 := hw1.trans ex140.symm
    have hPc := hP.sub (ws' := [(aZ, .inr (15, fsZ))]) [0] rfl
    have hDc := hD.sub (ws' := [(aZ, .inr (15, fsZ))]) [0] (by decide) rfl
    have hKc := hK.sub (tys' := []) [] rfl
    have hFc := va_free (wc := [(aZ, .inr (15, fsZ))]) hD hS hA [0] rfl
    refine va_calli (va_runV (As := [.int w1]) (rest := [.int 0]) ⟨hx, hb, hml, hown, hts⟩ (z_X12_cut l dC dI H.size aZ fsZ w1 (fh_sub o_fsZ.2 [0] rfl) ) (cwV 1 hts g_lk_4_z_X12_cut_142 rfl rfl rfl (by decide +kernel) ⟨Nat.le_of_ble_eq_true rfl, Nat.le_of_ble_eq_true rfl⟩) ⟨fun a U g mk q => by obtain ⟨q0, q1, qP, qK, qD⟩ := q; exact ⟨q0, q1, qP, va_K.moved (u := U) (U := U.calling g mk a) (Vm.Alike.refl U.vm) qK, qD⟩, va_recv hK hP (ci := 15) (q0 := 0) rfl rfl, fun U hU hW => ⟨rfl, by rw [hU], by rw [hU]; exact hPc, va_K.moved hW.alike hKc, hDc.weaken (fun _ _ _ _ => trivial)⟩⟩ rfl rfl hl.1 rfl (lv_room (Nat.le_of_ble_eq_true rfl)) dL_law_421 ⟨Nat.le_of_ble_eq_true rfl, Nat.le_of_ble_eq_true rfl⟩) hS (fun q _ h => hFc q h) hFc (fun r141 u t H1 locs ht hvm hw hB hz1 hk1 hS => ?_)
    obtain ⟨s142, rfl⟩ : ∃ z, z = u := ⟨_, rfl⟩
    obtain ⟨hP1, hK1, hD1⟩ := hB
    rw [ht] at hP1
    try dsimp only at hw
    obtain ⟨hP, hD⟩ := va_join (wr := [(aX, .inr (14, fsX)), (aT, .inr (12, s104))]) (w1 := [(aZ, .inr (15, s142))]) hP hD [0] [1, 2] rfl rfl (by decide) (by decide) hk1 hFc hP1 hD1
    have hK := hK.sub (tys' := []) [] rfl
    generalize H1 = H at hP hS ⊢
    have hP : va_P (dC, dI) vwCl [(aX, .inr (14, fsX)), (aT, .inr (12, s104)), (aZ, .inr (15, s142))] H := hP
    have hD : va_D A [(aX, .inr (14, fsX)), (aT, .inr (12, s104)), (aZ, .inr (15, s142))] := hD
    rcases hw with ⟨c143, er144, o_s142⟩ | ⟨c145, c146, er147, o_s142⟩ | ⟨c148, c149, er150, o_s142⟩
    · exact (by exfalso; (try simp only [i_lt, i_le, i_eq, kc_0] at c110 c111 c143); omega)
    · exact (by exfalso; (try simp only [i_lt, i_le, i_eq, kc_0] at c110 c111 c145 c146); omega)
    · skip
      subst er150
      have o_s142 := ow_on o_fsZ o_s142 (l' := [(0, .int 0), (3, .int 0), (3, .int 0)]) (w' := [0]) rfl rfl
      refine lv_icmp_eq (tgt := 3111) hx hb dL_law_424 (by decide) (fun c151 => ?_) (fun c151 => absurd c151 (by decide))
      exact lw_end hst C0 hA hAf hZ hY (Nat.le_of_ble_eq_true rfl) (Nat.le_of_ble_eq_true rfl) dC dI P0k P0 D0 hS ls (lv_sub hl [0, 4] rfl)

set_option maxRecDepth 20000 in
theorem g_lk_5_z_L_type_143 : GoodIn lwW (va_wsS RL 143 yL_type w_z_L_type) := goodIn_app (goodIn_sub (ws := ([.methodLink RL 143 yL_type, .static yL_type, .initialized RL] : List Cond)) (gm_c (gm_at lwV_5_in 8 rfl) (gm_c (gm_at lwV_5_in 9 rfl) (gm_c (gm_at lwV_5_in 10 rfl) gm_nil))) (by decide +kernel)) (goodIn_ca (goodIn_sub (ws := .codeWith yL_type cL_type 5 (some .int) [(0, 10, 13, 13), (0, 10, 17, 15), (0, 10, 21, 17)] :: l_z_L_type) (gm_c (gm_at lwV_6_in 5 rfl) (gm_c (gm_at lwV_6_in 6 rfl) (gm_c (gm_at lwV_6_in 7 rfl) (gm_c (gm_at lwV_6_in 8 rfl) (gm_c (gm_at lwV_0_in 3 rfl) (gm_c (gm_at lwV_6_in 9 rfl) (gm_c (gm_at lwV_6_in 10 rfl) (gm_c (gm_at lwV_6_in 11 rfl) (gm_c (gm_at lwV_7_in 0 rfl) (gm_c (gm_at lwV_7_in 1 rfl) (gm_c (gm_at lwV_0_in 9 rfl) (gm_c (gm_at lwV_7_in 2 rfl) (gm_c (gm_at lwV_7_in 3 rfl) (gm_c (gm_at lwV_7_in 4 rfl) (gm_c (gm_at lwV_1_in 1 rfl) (gm_c (gm_at lwV_7_in 5 rfl) (gm_c (gm_at lwV_7_in 6 rfl) (gm_c (gm_at lwV_7_in 7 rfl) (gm_c (gm_at lwV_7_in 8 rfl) (gm_c (gm_at lwV_7_in 9 rfl) (gm_c (gm_at lwV_7_in 10 rfl) (gm_c (gm_at lwV_7_in 11 rfl) (gm_c (gm_at lwV_8_in 0 rfl) (gm_c (gm_at lwV_2_in 6 rfl) (gm_c (gm_at lwV_8_in 1 rfl) (gm_c (gm_at lwV_8_in 2 rfl) (gm_c (gm_at lwV_8_in 3 rfl) (gm_c (gm_at lwV_8_in 4 rfl) (gm_c (gm_at lwV_8_in 5 rfl) (gm_c (gm_at lwV_8_in 6 rfl) (gm_c (gm_at lwV_8_in 7 rfl) (gm_c (gm_at lwV_8_in 8 rfl) (gm_c (gm_at lwV_8_in 9 rfl) (gm_c (gm_at lwV_8_in 10 rfl) gm_nil)))))))))))))))))))))))))))))))))) (by decide +kernel)) (goodIn_app (goodIn_in il_at0_X11_122 gd_at0_X11_122) (goodIn_app (goodIn_in il_X11 gd_X11) (goodIn_app (goodIn_in il_at0_X11_129 gd_at0_X11_129) (goodIn_app (goodIn_in il_X9 gd_X9) (goodIn_in il_X10 gd_X10))))))
set_option maxRecDepth 20000 in
theorem g_lk_5_z_X12_type_148 : GoodIn lwW (wsV RL 148 RX12 yX12_type w_z_X12_type) := goodIn_app (goodIn_sub (ws := ([.methodLink RL 148 yX12_type, .instanceMethod yX12_type, .selects RX12 yX12_type yX12_type, .initialized RX12] : List Cond)) (gm_c (gm_at lwV_5_in 11 rfl) (gm_c (gm_at lwV_6_in 0 rfl) (gm_c (gm_at lwV_6_in 1 rfl) (gm_c (gm_at lwV_0_in 7 rfl) gm_nil)))) (by decide +kernel)) (goodIn_ca (goodIn_sub (ws := .code yX12_type cX12_type 7 (some .int) :: l_z_X12_type) (gm_c (gm_at lwV_8_in 11 rfl) (gm_c (gm_at lwV_1_in 5 rfl) (gm_c (gm_at lwV_9_in 0 rfl) (gm_c (gm_at lwV_9_in 1 rfl) (gm_c (gm_at lwV_9_in 2 rfl) (gm_c (gm_at lwV_0_in 7 rfl) (gm_c (gm_at lwV_9_in 3 rfl) (gm_c (gm_at lwV_9_in 4 rfl) (gm_c (gm_at lwV_9_in 5 rfl) (gm_c (gm_at lwV_9_in 6 rfl) (gm_c (gm_at lwV_3_in 5 rfl) (gm_c (gm_at lwV_9_in 7 rfl) (gm_c (gm_at lwV_9_in 8 rfl) gm_nil))))))))))))) (by decide +kernel)) (goodIn_in il_X12 gd_X12))
set_option maxRecDepth 20000 in
theorem g_lk_5_z_X12_thrown_149 : GoodIn lwW (wsV RL 149 RX12 yX12_thrown w_z_X12_thrown) := goodIn_app (goodIn_sub (ws := ([.methodLink RL 149 yX12_thrown, .instanceMethod yX12_thrown, .selects RX12 yX12_thrown yX12_thrown, .initialized RX12] : List Cond)) (gm_c (gm_at lwV_6_in 2 rfl) (gm_c (gm_at lwV_6_in 3 rfl) (gm_c (gm_at lwV_6_in 4 rfl) (gm_c (gm_at lwV_0_in 7 rfl) gm_nil)))) (by decide +kernel)) (goodIn_ca (goodIn_sub (ws := .code yX12_thrown cX12_thrown 1 (some .int) :: l_z_X12_thrown) (gm_c (gm_at lwV_9_in 9 rfl) (gm_c (gm_at lwV_1_in 5 rfl) gm_nil)) (by decide +kernel)) (goodIn_in il_X12 gd_X12))
set_option maxRecDepth 20000 in
theorem g_lk_5_z_X12_thrown_1_149 : GoodIn lwW (wsV RL 149 RX12 yX12_thrown w_z_X12_thrown_1) := goodIn_app (goodIn_sub (ws := ([.methodLink RL 149 yX12_thrown, .instanceMethod yX12_thrown, .selects RX12 yX12_thrown yX12_thrown, .initialized RX12] : List Cond)) (gm_c (gm_at lwV_6_in 2 rfl) (gm_c (gm_at lwV_6_in 3 rfl) (gm_c (gm_at lwV_6_in 4 rfl) (gm_c (gm_at lwV_0_in 7 rfl) gm_nil)))) (by decide +kernel)) (goodIn_ca (goodIn_sub (ws := .code yX12_thrown cX12_thrown 1 (some .int) :: l_z_X12_thrown_1) (gm_c (gm_at lwV_9_in 9 rfl) (gm_c (gm_at lwV_1_in 5 rfl) gm_nil)) (by decide +kernel)) (goodIn_in il_X12 gd_X12))
set_option maxHeartbeats 4000000 in
set_option maxRecDepth 100000 in
/-- the law, one call: type -/
theorem lk_5 {p : Program} {l : Launch} {e : Env} {s : State} {m : MethodId} {below : List Frame} {meth : Method} {c : Code} {b : Nat} {xs : Nat → Int32} (hst : l.stackTraces = false) (C0 : lw_At p s m meth c b 6 xs) {A : Nat → Prop} (hA : ∀ q : Nat, s.heap.size ≤ q → A q) (hAf : ∀ q : Nat, A q → s.heap.size ≤ q) (hZ : Zz A s) (hY : Yy s) (dC : Nat → ClassId) (dI : Nat → Nat → Nat) (aX : Nat) (fsX : List Value) (aT : Nat) (fsT : List Value) (aY : Nat) (fsY : List Value) (aZ : Nat) (fsZ : List Value) (qO : Nat) (w1 : Int32) (hw1 : w1 = xs (1 : Int32).toNatClampNeg) (w2 : Int32) (hw2 : w2 = xs (2 : Int32).toNatClampNeg) (w3 : Int32) (hw3 : w3 = xs (3 : Int32).toNatClampNeg) (w4 : Int32) (hw4 : w4 = xs (4 : Int32).toNatClampNeg) (w5 : Int32) (hw5 : w5 = xs (5 : Int32).toNatClampNeg) (k_fsX : fh fsX 18 [(0, .ref aT), (1, .ref aY)]) (k_fsT : fh fsT 12 [(1, .int 0)]) (k_fsY : fh fsY 18 [(0, .int 0)]) (k_fsZ : fh fsZ 150 [(0, .int 0), (3, .int 0), (20, .int 0)])  {H : Heap} {locs : List Loc} (hK : va_K (dC, dI) vwCl [] s) (hP : va_P (dC, dI) vwCl [(aX, .inr (14, fsX)), (aT, .inr (12, fsT)), (aY, .inr (13, fsY)), (aZ, .inr (15, fsZ))] H) (hD : va_D A [(aX, .inr (14, fsX)), (aT, .inr (12, fsT)), (aY, .inr (13, fsY)), (aZ, .inr (15, fsZ))]) (hS : va_S A s.heap H locs) (ls : Array Slot) (hl : lv_has ls 8 [(0, .ref b), (1, .ref aX), (2, .ref aZ), (3, .ref qO), (4, .int 0)]) : W p l e room_1 s m #[Value.ref b] below meth c H locs 390 571359 (lw_Z below #[Value.ref b] s) (F0 m 429 ls []) := by
  obtain ⟨hx, hb, hr, hml, hown0, hts0, hX, hbl, hlocks, hgv⟩ := id C0
  have hown : s.vm.findClass RL = some m.cls := hown0
  have hts : ∀ w ∈ lwW, w.before #[Value.ref b] s = true := fun w h => hts0 w (lwW_in w h)
  have hbA : ¬ A b := fun h => absurd (hAf b h) (Nat.not_le.mpr hbl)
  have o_fsX := ow_0 k_fsX
  have o_fsT := ow_0 k_fsT
  have o_fsY := ow_0 k_fsY
  have o_fsZ := ow_0 k_fsZ
  refine lv_aload_n hx hb dL_law_429 rfl (lv_at hl 1 rfl) ?_
  refine lv_aload_n hx hb dL_law_430 rfl (lv_at hl 0 rfl) ?_
  refine lv_iload hx hb dL_law_431 (lv_at hl 4 rfl) ?_
  refine lv_iconst (v := 1) hx hb dL_law_433 (by decide) ?_
  refine lv_iadd hx hb dL_law_434  ?_
  refine lv_topi (fun x101 ex101 => ?_)
  obtain rfl : x101 = 1 := ex101.trans (by decide)
  refine va_sld hx hb hX hbl hbA hS (show vp_in 1 6 from by unfold vp_in; decide) dL_law_435 ?_
  refine lv_topi (fun x102 ex102 => ?_)
  obtain rfl : w1 = x102 := hw1.trans ex102.symm
  refine lv_aload_n hx hb dL_law_436 rfl (lv_at hl 0 rfl) ?_
  refine lv_iload hx hb dL_law_437 (lv_at hl 4 rfl) ?_
  refine lv_iconst (v := 2) hx hb dL_law_439 (by decide) ?_
  refine lv_iadd hx hb dL_law_440  ?_
  refine lv_topi (fun x103 ex103 => ?_)
  obtain rfl : x103 = 2 := ex103.trans (by decide)
  refine va_sld hx hb hX hbl hbA hS (show vp_in 2 6 from by unfold vp_in; decide) dL_law_441 ?_
  refine lv_topi (fun x104 ex104 => ?_)
  obtain rfl : w2 = x104 := hw2.trans ex104.symm
  refine lv_aload_n hx hb dL_law_442 rfl (lv_at hl 3 rfl) ?_
  have hPc := hP.sub (ws' := [(aX, .inr (14, fsX)), (aT, .inr (12, fsT)), (aY, .inr (13, fsY))]) [0, 1, 2] rfl
  have hDc := hD.sub (ws' := [(aX, .inr (14, fsX)), (aT, .inr (12, fsT)), (aY, .inr (13, fsY))]) [0, 1, 2] (by decide) rfl
  have hKc := hK.sub (tys' := []) [] rfl
  have hFc := va_free (wc := [(aX, .inr (14, fsX)), (aT, .inr (12, fsT)), (aY, .inr (13, fsY))]) hD hS hA [0, 1, 2] rfl
  refine vx_calli (vx_runSX (As := [.ref aX, .int w1, .int w2, .ref qO]) (rest := []) ⟨hx, hb, hml, hown, hts⟩ (z_L_type l dC dI H.size aX fsX aT fsT aY fsY w1 w2 qO (fh_sub o_fsX.2 [0, 1] rfl) (fh_sub o_fsT.2 [0] rfl) (fh_sub o_fsY.2 [0] rfl) hst ) (vx_cwSW 4 hts g_lk_5_z_L_type_143 rfl rfl rfl (by decide +kernel) ⟨Nat.le_of_ble_eq_true rfl, Nat.le_of_ble_eq_true rfl⟩) ⟨fun a U g mk q => by obtain ⟨q0, q1, qZ, qY, qP, qK, qD⟩ := q; exact ⟨q0, q1, Zz_call qZ, Yy_call qY, qP, va_K.moved (u := U) (U := U.calling g mk a) (Vm.Alike.refl U.vm) qK, qD⟩, fun U hU hW => ⟨rfl, by rw [hU], Zz_go hZ hS hFc hU hW, Yy_go hY hW, by rw [hU]; exact hPc, va_K.moved hW.alike hKc, hDc.weaken (fun _ _ _ _ => trivial)⟩⟩ rfl rfl hl.1 rfl (lv_room (Nat.le_of_ble_eq_true rfl)) dL_law_443 ⟨Nat.le_of_ble_eq_true rfl, Nat.le_of_ble_eq_true rfl⟩) hS (fun q _ h => hFc q h) hFc (fun q _ h => hFc q h) (fun E ce q9 u t H1 locs ht hvm hpx hBX hz1 hk1 hS hce hcv hcl => ?_) (fun r105 u t H1 locs ht hvm hw hB hz1 hk1 hS => ?_)
  · exact False.elim hBX
  · skip
    obtain ⟨hP1, hK1, hD1⟩ := hB
    rw [ht] at hP1
    try dsimp only at hw
    obtain ⟨hP, hD⟩ := va_join (wr := [(aZ, .inr (15, fsZ))]) (w1 := []) hP hD [0, 1, 2] [3] rfl rfl (by decide) (by decide) hk1 hFc hP1 hD1
    have hK := hK.sub (tys' := []) [] rfl
    generalize H1 = H at hP hS ⊢
    refine W.widen (k := 391) (n := 571365) (by omega) (by omega) ?_
    have hP : va_P (dC, dI) vwCl [(aZ, .inr (15, fsZ))] H := hP
    have hD : va_D A [(aZ, .inr (15, fsZ))] := hD
    rcases hw with ⟨c106, c107, er108⟩ | ⟨c109, c110, c111, er112⟩ | ⟨c113, c114, c115, er116⟩ | ⟨c117, c118, er119⟩ | ⟨c120, c121, c122, er123⟩
    · skip
      subst er108
      refine lv_istore (lv' := [(5, .int 1), (0, .ref b), (1, .ref aX), (2, .ref aZ), (3, .ref qO), (4, .int 0)]) hx hb dL_law_446 hl (by decide) rfl (fun ls hl => ?_)
      refine lv_aload_n hx hb dL_law_448 rfl (lv_at hl 3 rfl) ?_
      refine lv_aload_n hx hb dL_law_449 rfl (lv_at hl 1 rfl) ?_
      refine lv_iload hx hb dL_law_450 (lv_at hl 5 rfl) ?_
      refine lv_iconst (v := 1) hx hb dL_law_452 (by decide) ?_
      refine lv_iadd hx hb dL_law_453  ?_
      refine lv_topi (fun x124 ex124 => ?_)
      obtain rfl : x124 = 1 := ex124.trans (by decide)
      refine va_sld hx hb hX hbl hbA hS (show vp_in 1 6 from by unfold vp_in; decide) dL_law_454 ?_
      refine lv_topi (fun x125 ex125 => ?_)
      obtain rfl : w1 = x125 := hw1.trans ex125.symm
      refine lv_aload_n hx hb dL_law_455 rfl (lv_at hl 1 rfl) ?_
      refine lv_iload hx hb dL_law_456 (lv_at hl 5 rfl) ?_
      refine lv_iconst (v := 2) hx hb dL_law_458 (by decide) ?_
      refine lv_iadd hx hb dL_law_459  ?_
      refine lv_topi (fun x126 ex126 => ?_)
      obtain rfl : x126 = 2 := ex126.trans (by decide)
      refine va_sld hx hb hX hbl hbA hS (show vp_in 2 6 from by unfold vp_in; decide) dL_law_460 ?_
      refine lv_topi (fun x127 ex127 => ?_)
      obtain rfl : w2 = x127 := hw2.trans ex127.symm
      have hPc := hP.sub (ws' := [(aZ, .inr (15, fsZ))]) [0] rfl
      have hDc := hD.sub (ws' := [(aZ, .inr (15, fsZ))]) [0] (by decide) rfl
      have hKc := hK.sub (tys' := []) [] rfl
      have hFc := va_free (wc := [(aZ, .inr (15, fsZ))]) hD hS hA [0] rfl
      refine va_calli (va_runV (As := [.int w1, .int w2]) (rest := []) ⟨hx, hb, hml, hown, hts⟩ (z_X12_type l dC dI H.size aZ fsZ w1 w2 (fh_sub o_fsZ.2 [0, 1, 2] rfl) ) (cwV 2 hts g_lk_5_z_X12_type_148 rfl rfl rfl (by decide +kernel) ⟨Nat.le_of_ble_eq_true rfl, Nat.le_of_ble_eq_true rfl⟩) ⟨fun a U g mk q => by obtain ⟨q0, q1, qP, qK, qD⟩ := q; exact ⟨q0, q1, qP, va_K.moved (u := U) (U := U.calling g mk a) (Vm.Alike.refl U.vm) qK, qD⟩, va_recv hK hP (ci := 15) (q0 := 0) rfl rfl, fun U hU hW => ⟨rfl, by rw [hU], by rw [hU]; exact hPc, va_K.moved hW.alike hKc, hDc.weaken (fun _ _ _ _ => trivial)⟩⟩ rfl rfl hl.1 rfl (lv_room (Nat.le_of_ble_eq_true rfl)) dL_law_461 ⟨Nat.le_of_ble_eq_true rfl, Nat.le_of_ble_eq_true rfl⟩) hS (fun q _ h => hFc q h) hFc (fun r128 u t H1 locs ht hvm hw hB hz1 hk1 hS => ?_)
      obtain ⟨s129, rfl⟩ : ∃ z, z = u := ⟨_, rfl⟩
      obtain ⟨hP1, hK1, hD1⟩ := hB
      rw [ht] at hP1
      try dsimp only at hw
      obtain ⟨hP, hD⟩ := va_join (wr := []) (w1 := [(aZ, .inr (15, s129))]) hP hD [0] [] rfl rfl (by decide) (by decide) hk1 hFc hP1 hD1
      have hK := hK.sub (tys' := []) [] rfl
      generalize H1 = H at hP hS ⊢
      have hP : va_P (dC, dI) vwCl [(aZ, .inr (15, s129))] H := hP
      have hD : va_D A [(aZ, .inr (15, s129))] := hD
      rcases hw with ⟨c130, c131, er132, o_s129⟩ | ⟨c133, c134, c135, er136, o_s129⟩ | ⟨c137, c138, c139, er140, o_s129⟩ | ⟨c141, c142, er143, o_s129⟩ | ⟨c144, c145, c146, er147, o_s129⟩
      · skip
        subst er132
        have o_s129 := ow_on o_fsZ o_s129 (l' := [(0, .int 1), (3, .int 0), (20, .int 0), (3, .int 0), (20, .int 0)]) (w' := [0]) rfl rfl
        refine lv_istore (lv' := [(6, .int 0), (5, .int 1), (0, .ref b), (1, .ref aX), (2, .ref aZ), (3, .ref qO), (4, .int 0)]) hx hb dL_law_464 hl (by decide) rfl (fun ls hl => ?_)
        refine lv_aload_n hx hb dL_law_466 rfl (lv_at hl 4 rfl) ?_
        have hPc := hP.sub (ws' := [(aZ, .inr (15, s129))]) [0] rfl
        have hDc := hD.sub (ws' := [(aZ, .inr (15, s129))]) [0] (by decide) rfl
        have hKc := hK.sub (tys' := []) [] rfl
        have hFc := va_free (wc := [(aZ, .inr (15, s129))]) hD hS hA [0] rfl
        refine va_calli (va_runV (As := []) (rest := []) ⟨hx, hb, hml, hown, hts⟩ (z_X12_thrown l dC dI H.size aZ s129 (fh_sub o_s129.2 [0] rfl) ) (cwV 0 hts g_lk_5_z_X12_thrown_149 rfl rfl rfl (by decide +kernel) ⟨Nat.le_of_ble_eq_true rfl, Nat.le_of_ble_eq_true rfl⟩) ⟨fun a U g mk q => by obtain ⟨q0, q1, qP, qK, qD⟩ := q; exact ⟨q0, q1, qP, va_K.moved (u := U) (U := U.calling g mk a) (Vm.Alike.refl U.vm) qK, qD⟩, va_recv hK hP (ci := 15) (q0 := 0) rfl rfl, fun U hU hW => ⟨rfl, by rw [hU], by rw [hU]; exact hPc, va_K.moved hW.alike hKc, hDc.weaken (fun _ _ _ _ => trivial)⟩⟩ rfl rfl hl.1 rfl (lv_room (Nat.le_of_ble_eq_true rfl)) dL_law_467 ⟨Nat.le_of_ble_eq_true rfl, Nat.le_of_ble_eq_true rfl⟩) hS (fun q _ h => hFc q h) hFc (fun r148 u t H1 locs ht hvm hw hB hz1 hk1 hS => ?_)
        obtain ⟨hP1, hK1, hD1⟩ := hB
        rw [ht] at hP1
        try dsimp only at hw
        obtain ⟨hP, hD⟩ := va_join (wr := []) (w1 := [(aZ, .inr (15, s129))]) hP hD [0] [] rfl rfl (by decide) (by decide) hk1 hFc hP1 hD1
        have hK := hK.sub (tys' := []) [] rfl
        generalize H1 = H at hP hS ⊢
        have hP : va_P (dC, dI) vwCl [(aZ, .inr (15, s129))] H := hP
        have hD : va_D A [(aZ, .inr (15, s129))] := hD
        have er149 := hw
        subst er149
        refine lv_iload hx hb dL_law_470 (lv_at hl 1 rfl) ?_
        refine lv_icmp_eq (tgt := 477) hx hb dL_law_472 (by decide) (fun c150 => ?_) (fun c150 => absurd c150 (by decide))
        refine lv_iload hx hb dL_law_477 (lv_at hl 1 rfl) ?_
        refine lv_if_ne (tgt := 494) hx hb dL_law_479 (by decide) (fun c151 => ?_) (fun c151 => absurd c151 (by decide))
        refine lv_goto (tgt := 3111) hx hb dL_law_494 (by decide) ?_
        exact lw_end hst C0 hA hAf hZ hY (Nat.le_of_ble_eq_true rfl) (Nat.le_of_ble_eq_true rfl) dC dI P0k P0 D0 hS ls (lv_sub hl [2, 6] rfl)
      · exact (by exfalso; (try simp only [i_lt, i_le, i_eq, kc_0, kc_3] at c107 c134 c135); omega)
      · exact (by exfalso; (try simp only [i_lt, i_le, i_eq, kc_0, kc_3] at c107 c138 c139); omega)
      · exact (by exfalso; (try simp only [i_lt, i_le, i_eq, kc_m1, kc_0] at c106 c141 c142); omega)
      · exact (by exfalso; (try simp only [i_lt, i_le, i_eq, kc_m1, kc_0] at c106 c144 c145 c146); omega)
    · skip
      subst er112
      refine lv_istore (lv' := [(5, .int 2), (0, .ref b), (1, .ref aX), (2, .ref aZ), (3, .ref qO), (4, .int 0)]) hx hb dL_law_446 hl (by decide) rfl (fun ls hl => ?_)
      refine lv_aload_n hx hb dL_law_448 rfl (lv_at hl 3 rfl) ?_
      refine lv_aload_n hx hb dL_law_449 rfl (lv_at hl 1 rfl) ?_
      refine lv_iload hx hb dL_law_450 (lv_at hl 5 rfl) ?_
      refine lv_iconst (v := 1) hx hb dL_law_452 (by decide) ?_
      refine lv_iadd hx hb dL_law_453  ?_
      refine lv_topi (fun x152 ex152 => ?_)
      obtain rfl : x152 = 1 := ex152.trans (by decide)
      refine va_sld hx hb hX hbl hbA hS (show vp_in 1 6 from by unfold vp_in; decide) dL_law_454 ?_
      refine lv_topi (fun x153 ex153 => ?_)
      obtain rfl : w1 = x153 := hw1.trans ex153.symm
      refine lv_aload_n hx hb dL_law_455 rfl (lv_at hl 1 rfl) ?_
      refine lv_iload hx hb dL_law_456 (lv_at hl 5 rfl) ?_
      refine lv_iconst (v := 2) hx hb dL_law_458 (by decide) ?_
      refine lv_iadd hx hb dL_law_459  ?_
      refine lv_topi (fun x154 ex154 => ?_)
      obtain rfl : x154 = 2 := ex154.trans (by decide)
      refine va_sld hx hb hX hbl hbA hS (show vp_in 2 6 from by unfold vp_in; decide) dL_law_460 ?_
      refine lv_topi (fun x155 ex155 => ?_)
      obtain rfl : w2 = x155 := hw2.trans ex155.symm
      have hPc := hP.sub (ws' := [(aZ, .inr (15, fsZ))]) [0] rfl
      have hDc := hD.sub (ws' := [(aZ, .inr (15, fsZ))]) [0] (by decide) rfl
      have hKc := hK.sub (tys' := []) [] rfl
      have hFc := va_free (wc := [(aZ, .inr (15, fsZ))]) hD hS hA [0] rfl
      refine va_calli (va_runV (As := [.int w1, .int w2]) (rest := []) ⟨hx, hb, hml, hown, hts⟩ (z_X12_type l dC dI H.size aZ fsZ w1 w2 (fh_sub o_fsZ.2 [0, 1, 2] rfl) ) (cwV 2 hts g_lk_5_z_X12_type_148 rfl rfl rfl (by decide +kernel) ⟨Nat.le_of_ble_eq_true rfl, Nat.le_of_ble_eq_true rfl⟩) ⟨fun a U g mk q => by obtain ⟨q0, q1, qP, qK, qD⟩ := q; exact ⟨q0, q1, qP, va_K.moved (u := U) (U := U.calling g mk a) (Vm.Alike.refl U.vm) qK, qD⟩, va_recv hK hP (ci := 15) (q0 := 0) rfl rfl, fun U hU hW => ⟨rfl, by rw [hU], by rw [hU]; exact hPc, va_K.moved hW.alike hKc, hDc.weaken (fun _ _ _ _ => trivial)⟩⟩ rfl rfl hl.1 rfl (lv_room (Nat.le_of_ble_eq_true rfl)) dL_law_461 ⟨Nat.le_of_ble_eq_true rfl, Nat.le_of_ble_eq_true rfl⟩) hS (fun q _ h => hFc q h) hFc (fun r156 u t H1 locs ht hvm hw hB hz1 hk1 hS => ?_)
      obtain ⟨s157, rfl⟩ : ∃ z, z = u := ⟨_, rfl⟩
      obtain ⟨hP1, hK1, hD1⟩ := hB
      rw [ht] at hP1
      try dsimp only at hw
      obtain ⟨hP, hD⟩ := va_join (wr := []) (w1 := [(aZ, .inr (15, s157))]) hP hD [0] [] rfl rfl (by decide) (by decide) hk1 hFc hP1 hD1
      have hK := hK.sub (tys' := []) [] rfl
      generalize H1 = H at hP hS ⊢
      have hP : va_P (dC, dI) vwCl [(aZ, .inr (15, s157))] H := hP
      have hD : va_D A [(aZ, .inr (15, s157))] := hD
      rcases hw with ⟨c158, c159, er160, o_s157⟩ | ⟨c161, c162, c163, er164, o_s157⟩ | ⟨c165, c166, c167, er168, o_s157⟩ | ⟨c169, c170, er171, o_s157⟩ | ⟨c172, c173, c174, er175, o_s157⟩
      · exact (by exfalso; (try simp only [i_lt, i_le, i_eq, kc_0, kc_4] at c110 c111 c159); omega)
      · skip
        subst er164
        have o_s157 := ow_on o_fsZ o_s157 (l' := [(0, .int 2), (3, .int 0), (20, .int 0), (3, .int 0), (20, .int 0)]) (w' := [0]) rfl rfl
        refine lv_istore (lv' := [(6, .int 0), (5, .int 2), (0, .ref b), (1, .ref aX), (2, .ref aZ), (3, .ref qO), (4, .int 0)]) hx hb dL_law_464 hl (by decide) rfl (fun ls hl => ?_)
        refine lv_aload_n hx hb dL_law_466 rfl (lv_at hl 4 rfl) ?_
        have hPc := hP.sub (ws' := [(aZ, .inr (15, s157))]) [0] rfl
        have hDc := hD.sub (ws' := [(aZ, .inr (15, s157))]) [0] (by decide) rfl
        have hKc := hK.sub (tys' := []) [] rfl
        have hFc := va_free (wc := [(aZ, .inr (15, s157))]) hD hS hA [0] rfl
        refine va_calli (va_runV (As := []) (rest := []) ⟨hx, hb, hml, hown, hts⟩ (z_X12_thrown_1 l dC dI H.size aZ s157 (fh_sub o_s157.2 [0] rfl) ) (cwV 0 hts g_lk_5_z_X12_thrown_1_149 rfl rfl rfl (by decide +kernel) ⟨Nat.le_of_ble_eq_true rfl, Nat.le_of_ble_eq_true rfl⟩) ⟨fun a U g mk q => by obtain ⟨q0, q1, qP, qK, qD⟩ := q; exact ⟨q0, q1, qP, va_K.moved (u := U) (U := U.calling g mk a) (Vm.Alike.refl U.vm) qK, qD⟩, va_recv hK hP (ci := 15) (q0 := 0) rfl rfl, fun U hU hW => ⟨rfl, by rw [hU], by rw [hU]; exact hPc, va_K.moved hW.alike hKc, hDc.weaken (fun _ _ _ _ => trivial)⟩⟩ rfl rfl hl.1 rfl (lv_room (Nat.le_of_ble_eq_true rfl)) dL_law_467 ⟨Nat.le_of_ble_eq_true rfl, Nat.le_of_ble_eq_true rfl⟩) hS (fun q _ h => hFc q h) hFc (fun r176 u t H1 locs ht hvm hw hB hz1 hk1 hS => ?_)
        obtain ⟨hP1, hK1, hD1⟩ := hB
        rw [ht] at hP1
        try dsimp only at hw
        obtain ⟨hP, hD⟩ := va_join (wr := []) (w1 := [(aZ, .inr (15, s157))]) hP hD [0] [] rfl rfl (by decide) (by decide) hk1 hFc hP1 hD1
        have hK := hK.sub (tys' := []) [] rfl
        generalize H1 = H at hP hS ⊢
        have hP : va_P (dC, dI) vwCl [(aZ, .inr (15, s157))] H := hP
        have hD : va_D A [(aZ, .inr (15, s157))] := hD
        have er177 := hw
        subst er177
        refine lv_iload hx hb dL_law_470 (lv_at hl 1 rfl) ?_
        refine lv_icmp_eq (tgt := 477) hx hb dL_law_472 (by decide) (fun c178 => ?_) (fun c178 => absurd c178 (by decide))
        refine lv_iload hx hb dL_law_477 (lv_at hl 1 rfl) ?_
        refine lv_if_ne (tgt := 494) hx hb dL_law_479 (by decide) (fun c179 => ?_) (fun c179 => absurd c179 (by decide))
        refine lv_goto (tgt := 3111) hx hb dL_law_494 (by decide) ?_
        exact lw_end hst C0 hA hAf hZ hY (Nat.le_of_ble_eq_true rfl) (Nat.le_of_ble_eq_true rfl) dC dI P0k P0 D0 hS ls (lv_sub hl [2, 6] rfl)
      · exact (by exfalso; (try simp only [i_lt, i_le, i_eq, kc_0, kc_4, kc_3] at c110 c111 c166 c167); omega)
      · exact (by exfalso; (try simp only [i_lt, i_le, i_eq, kc_m1, kc_0] at c109 c169 c170); omega)
      · exact (by exfalso; (try simp only [i_lt, i_le, i_eq, kc_m1, kc_0] at c109 c172 c173 c174); omega)
    · skip
      subst er116
      refine lv_istore (lv' := [(5, .int 1), (0, .ref b), (1, .ref aX), (2, .ref aZ), (3, .ref qO), (4, .int 0)]) hx hb dL_law_446 hl (by decide) rfl (fun ls hl => ?_)
      refine lv_aload_n hx hb dL_law_448 rfl (lv_at hl 3 rfl) ?_
      refine lv_aload_n hx hb dL_law_449 rfl (lv_at hl 1 rfl) ?_
      refine lv_iload hx hb dL_law_450 (lv_at hl 5 rfl) ?_
      refine lv_iconst (v := 1) hx hb dL_law_452 (by decide) ?_
      refine lv_iadd hx hb dL_law_453  ?_
      refine lv_topi (fun x180 ex180 => ?_)
      obtain rfl : x180 = 1 := ex180.trans (by decide)
      refine va_sld hx hb hX hbl hbA hS (show vp_in 1 6 from by unfold vp_in; decide) dL_law_454 ?_
      refine lv_topi (fun x181 ex181 => ?_)
      obtain rfl : w1 = x181 := hw1.trans ex181.symm
      refine lv_aload_n hx hb dL_law_455 rfl (lv_at hl 1 rfl) ?_
      refine lv_iload hx hb dL_law_456 (lv_at hl 5 rfl) ?_
      refine lv_iconst (v := 2) hx hb dL_law_458 (by decide) ?_
      refine lv_iadd hx hb dL_law_459  ?_
      refine lv_topi (fun x182 ex182 => ?_)
      obtain rfl : x182 = 2 := ex182.trans (by decide)
      refine va_sld hx hb hX hbl hbA hS (show vp_in 2 6 from by unfold vp_in; decide) dL_law_460 ?_
      refine lv_topi (fun x183 ex183 => ?_)
      obtain rfl : w2 = x183 := hw2.trans ex183.symm
      have hPc := hP.sub (ws' := [(aZ, .inr (15, fsZ))]) [0] rfl
      have hDc := hD.sub (ws' := [(aZ, .inr (15, fsZ))]) [0] (by decide) rfl
      have hKc := hK.sub (tys' := []) [] rfl
      have hFc := va_free (wc := [(aZ, .inr (15, fsZ))]) hD hS hA [0] rfl
      refine va_calli (va_runV (As := [.int w1, .int w2]) (rest := []) ⟨hx, hb, hml, hown, hts⟩ (z_X12_type l dC dI H.size aZ fsZ w1 w2 (fh_sub o_fsZ.2 [0, 1, 2] rfl) ) (cwV 2 hts g_lk_5_z_X12_type_148 rfl rfl rfl (by decide +kernel) ⟨Nat.le_of_ble_eq_true rfl, Nat.le_of_ble_eq_true rfl⟩) ⟨fun a U g mk q => by obtain ⟨q0, q1, qP, qK, qD⟩ := q; exact ⟨q0, q1, qP, va_K.moved (u := U) (U := U.calling g mk a) (Vm.Alike.refl U.vm) qK, qD⟩, va_recv hK hP (ci := 15) (q0 := 0) rfl rfl, fun U hU hW => ⟨rfl, by rw [hU], by rw [hU]; exact hPc, va_K.moved hW.alike hKc, hDc.weaken (fun _ _ _ _ => trivial)⟩⟩ rfl rfl hl.1 rfl (lv_room (Nat.le_of_ble_eq_true rfl)) dL_law_461 ⟨Nat.le_of_ble_eq_true rfl, Nat.le_of_ble_eq_true rfl⟩) hS (fun q _ h => hFc q h) hFc (fun r184 u t H1 locs ht hvm hw hB hz1 hk1 hS => ?_)
      obtain ⟨s185, rfl⟩ : ∃ z, z = u := ⟨_, rfl⟩
      obtain ⟨hP1, hK1, hD1⟩ := hB
      rw [ht] at hP1
      try dsimp only at hw
      obtain ⟨hP, hD⟩ := va_join (wr := []) (w1 := [(aZ, .inr (15, s185))]) hP hD [0] [] rfl rfl (by decide) (by decide) hk1 hFc hP1 hD1
      have hK := hK.sub (tys' := []) [] rfl
      generalize H1 = H at hP hS ⊢
      have hP : va_P (dC, dI) vwCl [(aZ, .inr (15, s185))] H := hP
      have hD : va_D A [(aZ, .inr (15, s185))] := hD
      rcases hw with ⟨c186, c187, er188, o_s185⟩ | ⟨c189, c190, c191, er192, o_s185⟩ | ⟨c193, c194, c195, er196, o_s185⟩ | ⟨c197, c198, er199, o_s185⟩ | ⟨c200, c201, c202, er203, o_s185⟩
      · exact (by exfalso; (try simp only [i_lt, i_le, i_eq, kc_0, kc_4] at c114 c115 c187); omega)
      · exact (by exfalso; (try simp only [i_lt, i_le, i_eq, kc_0, kc_4, kc_3] at c114 c115 c190 c191); omega)
      · skip
        subst er196
        have o_s185 := ow_on o_fsZ o_s185 (l' := [(0, .int 1), (3, .int 0), (20, .int 0), (3, .int 0), (20, .int 0)]) (w' := [0]) rfl rfl
        refine lv_istore (lv' := [(6, .int 0), (5, .int 1), (0, .ref b), (1, .ref aX), (2, .ref aZ), (3, .ref qO), (4, .int 0)]) hx hb dL_law_464 hl (by decide) rfl (fun ls hl => ?_)
        refine lv_aload_n hx hb dL_law_466 rfl (lv_at hl 4 rfl) ?_
        have hPc := hP.sub (ws' := [(aZ, .inr (15, s185))]) [0] rfl
        have hDc := hD.sub (ws' := [(aZ, .inr (15, s185))]) [0] (by decide) rfl
        have hKc := hK.sub (tys' := []) [] rfl
        have hFc := va_free (wc := [(aZ, .inr (15, s185))]) hD hS hA [0] rfl
        refine va_calli (va_runV (As := []) (rest := []) ⟨hx, hb, hml, hown, hts⟩ (z_X12_thrown l dC dI H.size aZ s185 (fh_sub o_s185.2 [0] rfl) ) (cwV 0 hts g_lk_5_z_X12_thrown_149 rfl rfl rfl (by decide +kernel) ⟨Nat.le_of_ble_eq_true rfl, Nat.le_of_ble_eq_true rfl⟩) ⟨fun a U g mk q => by obtain ⟨q0, q1, qP, qK, qD⟩ := q; exact ⟨q0, q1, qP, va_K.moved (u := U) (U := U.calling g mk a) (Vm.Alike.refl U.vm) qK, qD⟩, va_recv hK hP (ci := 15) (q0 := 0) rfl rfl, fun U hU hW => ⟨rfl, by rw [hU], by rw [hU]; exact hPc, va_K.moved hW.alike hKc, hDc.weaken (fun _ _ _ _ => trivial)⟩⟩ rfl rfl hl.1 rfl (lv_room (Nat.le_of_ble_eq_true rfl)) dL_law_467 ⟨Nat.le_of_ble_eq_true rfl, Nat.le_of_ble_eq_true rfl⟩) hS (fun q _ h => hFc q h) hFc (fun r204 u t H1 locs ht hvm hw hB hz1 hk1 hS => ?_)
        obtain ⟨hP1, hK1, hD1⟩ := hB
        rw [ht] at hP1
        try dsimp only at hw
        obtain ⟨hP, hD⟩ := va_join (wr := []) (w1 := [(aZ, .inr (15, s185))]) hP hD [0] [] rfl rfl (by decide) (by decide) hk1 hFc hP1 hD1
        have hK := hK.sub (tys' := []) [] rfl
        generalize H1 = H at hP hS ⊢
        have hP : va_P (dC, dI) vwCl [(aZ, .inr (15, s185))] H := hP
        have hD : va_D A [(aZ, .inr (15, s185))] := hD
        have er205 := hw
        subst er205
        refine lv_iload hx hb dL_law_470 (lv_at hl 1 rfl) ?_
        refine lv_icmp_eq (tgt := 477) hx hb dL_law_472 (by decide) (fun c206 => ?_) (fun c206 => absurd c206 (by decide))
        refine lv_iload hx hb dL_law_477 (lv_at hl 1 rfl) ?_
        refine lv_if_ne (tgt := 494) hx hb dL_law_479 (by decide) (fun c207 => ?_) (fun c207 => absurd c207 (by decide))
        refine lv_goto (tgt := 3111) hx hb dL_law_494 (by decide) ?_
        exact lw_end hst C0 hA hAf hZ hY (Nat.le_of_ble_eq_true rfl) (Nat.le_of_ble_eq_true rfl) dC dI P0k P0 D0 hS ls (lv_sub hl [2, 6] rfl)
      · exact (by exfalso; (try simp only [i_lt, i_le, i_eq, kc_m1, kc_0] at c113 c197 c198); omega)
      · exact (by exfalso; (try simp only [i_lt, i_le, i_eq, kc_m1, kc_0] at c113 c200 c201 c202); omega)
    · skip
      subst er119
      refine lv_istore (lv' := [(5, .int 1), (0, .ref b), (1, .ref aX), (2, .ref aZ), (3, .ref qO), (4, .int 0)]) hx hb dL_law_446 hl (by decide) rfl (fun ls hl => ?_)
      refine lv_aload_n hx hb dL_law_448 rfl (lv_at hl 3 rfl) ?_
      refine lv_aload_n hx hb dL_law_449 rfl (lv_at hl 1 rfl) ?_
      refine lv_iload hx hb dL_law_450 (lv_at hl 5 rfl) ?_
      refine lv_iconst (v := 1) hx hb dL_law_452 (by decide) ?_
      refine lv_iadd hx hb dL_law_453  ?_
      refine lv_topi (fun x208 ex208 => ?_)
      obtain rfl : x208 = 1 := ex208.trans (by decide)
      refine va_sld hx hb hX hbl hbA hS (show vp_in 1 6 from by unfold vp_in; decide) dL_law_454 ?_
      refine lv_topi (fun x209 ex209 => ?_)
      obtain rfl : w1 = x209 := hw1.trans ex209.symm
      refine lv_aload_n hx hb dL_law_455 rfl (lv_at hl 1 rfl) ?_
      refine lv_iload hx hb dL_law_456 (lv_at hl 5 rfl) ?_
      refine lv_iconst (v := 2) hx hb dL_law_458 (by decide) ?_
      refine lv_iadd hx hb dL_law_459  ?_
      refine lv_topi (fun x210 ex210 => ?_)
      obtain rfl : x210 = 2 := ex210.trans (by decide)
      refine va_sld hx hb hX hbl hbA hS (show vp_in 2 6 from by unfold vp_in; decide) dL_law_460 ?_
      refine lv_topi (fun x211 ex211 => ?_)
      obtain rfl : w2 = x211 := hw2.trans ex211.symm
      have hPc := hP.sub (ws' := [(aZ, .inr (15, fsZ))]) [0] rfl
      have hDc := hD.sub (ws' := [(aZ, .inr (15, fsZ))]) [0] (by decide) rfl
      have hKc := hK.sub (tys' := []) [] rfl
      have hFc := va_free (wc := [(aZ, .inr (15, fsZ))]) hD hS hA [0] rfl
      refine va_calli (va_runV (As := [.int w1, .int w2]) (rest := []) ⟨hx, hb, hml, hown, hts⟩ (z_X12_type l dC dI H.size aZ fsZ w1 w2 (fh_sub o_fsZ.2 [0, 1, 2] rfl) ) (cwV 2 hts g_lk_5_z_X12_type_148 rfl rfl rfl (by decide +kernel) ⟨Nat.le_of_ble_eq_true rfl, Nat.le_of_ble_eq_true rfl⟩) ⟨fun a U g mk q => by obtain ⟨q0, q1, qP, qK, qD⟩ := q; exact ⟨q0, q1, qP, va_K.moved (u := U) (U := U.calling g mk a) (Vm.Alike.refl U.vm) qK, qD⟩, va_recv hK hP (ci := 15) (q0 := 0) rfl rfl, fun U hU hW => ⟨rfl, by rw [hU], by rw [hU]; exact hPc, va_K.moved hW.alike hKc, hDc.weaken (fun _ _ _ _ => trivial)⟩⟩ rfl rfl hl.1 rfl (lv_room (Nat.le_of_ble_eq_true rfl)) dL_law_461 ⟨Nat.le_of_ble_eq_true rfl, Nat.le_of_ble_eq_true rfl⟩) hS (fun q _ h => hFc q h) hFc (fun r212 u t H1 locs ht hvm hw hB hz1 hk1 hS => ?_)
      obtain ⟨s213, rfl⟩ : ∃ z, z = u := ⟨_, rfl⟩
      obtain ⟨hP1, hK1, hD1⟩ := hB
      rw [ht] at hP1
      try dsimp only at hw
      obtain ⟨hP, hD⟩ := va_join (wr := []) (w1 := [(aZ, .inr (15, s213))]) hP hD [0] [] rfl rfl (by decide) (by decide) hk1 hFc hP1 hD1
      have hK := hK.sub (tys' := []) [] rfl
      generalize H1 = H at hP hS ⊢
      have hP : va_P (dC, dI) vwCl [(aZ, .inr (15, s213))] H := hP
      have hD : va_D A [(aZ, .inr (15, s213))] := hD
      rcases hw with ⟨c214, c215, er216, o_s213⟩ | ⟨c217, c218, c219, er220, o_s213⟩ | ⟨c221, c222, c223, er224, o_s213⟩ | ⟨c225, c226, er227, o_s213⟩ | ⟨c228, c229, c230, er231, o_s213⟩
      · skip
        subst er216
        have o_s213 := ow_on o_fsZ o_s213 (l' := [(0, .int 1), (3, .int 0), (20, .int 0), (3, .int 0), (20, .int 0)]) (w' := [0]) rfl rfl
        refine lv_istore (lv' := [(6, .int 0), (5, .int 1), (0, .ref b), (1, .ref aX), (2, .ref aZ), (3, .ref qO), (4, .int 0)]) hx hb dL_law_464 hl (by decide) rfl (fun ls hl => ?_)
        refine lv_aload_n hx hb dL_law_466 rfl (lv_at hl 4 rfl) ?_
        have hPc := hP.sub (ws' := [(aZ, .inr (15, s213))]) [0] rfl
        have hDc := hD.sub (ws' := [(aZ, .inr (15, s213))]) [0] (by decide) rfl
        have hKc := hK.sub (tys' := []) [] rfl
        have hFc := va_free (wc := [(aZ, .inr (15, s213))]) hD hS hA [0] rfl
        refine va_calli (va_runV (As := []) (rest := []) ⟨hx, hb, hml, hown, hts⟩ (z_X12_thrown l dC dI H.size aZ s213 (fh_sub o_s213.2 [0] rfl) ) (cwV 0 hts g_lk_5_z_X12_thrown_149 rfl rfl rfl (by decide +kernel) ⟨Nat.le_of_ble_eq_true rfl, Nat.le_of_ble_eq_true rfl⟩) ⟨fun a U g mk q => by obtain ⟨q0, q1, qP, qK, qD⟩ := q; exact ⟨q0, q1, qP, va_K.moved (u := U) (U := U.calling g mk a) (Vm.Alike.refl U.vm) qK, qD⟩, va_recv hK hP (ci := 15) (q0 := 0) rfl rfl, fun U hU hW => ⟨rfl, by rw [hU], by rw [hU]; exact hPc, va_K.moved hW.alike hKc, hDc.weaken (fun _ _ _ _ => trivial)⟩⟩ rfl rfl hl.1 rfl (lv_room (Nat.le_of_ble_eq_true rfl)) dL_law_467 ⟨Nat.le_of_ble_eq_true rfl, Nat.le_of_ble_eq_true rfl⟩) hS (fun q _ h => hFc q h) hFc (fun r232 u t H1 locs ht hvm hw hB hz1 hk1 hS => ?_)
        obtain ⟨hP1, hK1, hD1⟩ := hB
        rw [ht] at hP1
        try dsimp only at hw
        obtain ⟨hP, hD⟩ := va_join (wr := []) (w1 := [(aZ, .inr (15, s213))]) hP hD [0] [] rfl rfl (by decide) (by decide) hk1 hFc hP1 hD1
        have hK := hK.sub (tys' := []) [] rfl
        generalize H1 = H at hP hS ⊢
        have hP : va_P (dC, dI) vwCl [(aZ, .inr (15, s213))] H := hP
        have hD : va_D A [(aZ, .inr (15, s213))] := hD
        have er233 := hw
        subst er233
        refine lv_iload hx hb dL_law_470 (lv_at hl 1 rfl) ?_
        refine lv_icmp_eq (tgt := 477) hx hb dL_law_472 (by decide) (fun c234 => ?_) (fun c234 => absurd c234 (by decide))
        refine lv_iload hx hb dL_law_477 (lv_at hl 1 rfl) ?_
        refine lv_if_ne (tgt := 494) hx hb dL_law_479 (by decide) (fun c235 => ?_) (fun c235 => absurd c235 (by decide))
        refine lv_goto (tgt := 3111) hx hb dL_law_494 (by decide) ?_
        exact lw_end hst C0 hA hAf hZ hY (Nat.le_of_ble_eq_true rfl) (Nat.le_of_ble_eq_true rfl) dC dI P0k P0 D0 hS ls (lv_sub hl [2, 6] rfl)
      · skip
        subst er220
        have o_s213 := ow_on o_fsZ o_s213 (l' := [(0, .int 2), (3, .int 0), (20, .int 0), (3, .int 0), (20, .int 0)]) (w' := [0]) rfl rfl
        refine lv_istore (lv' := [(6, .int 0), (5, .int 1), (0, .ref b), (1, .ref aX), (2, .ref aZ), (3, .ref qO), (4, .int 0)]) hx hb dL_law_464 hl (by decide) rfl (fun ls hl => ?_)
        refine lv_aload_n hx hb dL_law_466 rfl (lv_at hl 4 rfl) ?_
        have hPc := hP.sub (ws' := [(aZ, .inr (15, s213))]) [0] rfl
        have hDc := hD.sub (ws' := [(aZ, .inr (15, s213))]) [0] (by decide) rfl
        have hKc := hK.sub (tys' := []) [] rfl
        have hFc := va_free (wc := [(aZ, .inr (15, s213))]) hD hS hA [0] rfl
        refine va_calli (va_runV (As := []) (rest := []) ⟨hx, hb, hml, hown, hts⟩ (z_X12_thrown_1 l dC dI H.size aZ s213 (fh_sub o_s213.2 [0] rfl) ) (cwV 0 hts g_lk_5_z_X12_thrown_1_149 rfl rfl rfl (by decide +kernel) ⟨Nat.le_of_ble_eq_true rfl, Nat.le_of_ble_eq_true rfl⟩) ⟨fun a U g mk q => by obtain ⟨q0, q1, qP, qK, qD⟩ := q; exact ⟨q0, q1, qP, va_K.moved (u := U) (U := U.calling g mk a) (Vm.Alike.refl U.vm) qK, qD⟩, va_recv hK hP (ci := 15) (q0 := 0) rfl rfl, fun U hU hW => ⟨rfl, by rw [hU], by rw [hU]; exact hPc, va_K.moved hW.alike hKc, hDc.weaken (fun _ _ _ _ => trivial)⟩⟩ rfl rfl hl.1 rfl (lv_room (Nat.le_of_ble_eq_true rfl)) dL_law_467 ⟨Nat.le_of_ble_eq_true rfl, Nat.le_of_ble_eq_true rfl⟩) hS (fun q _ h => hFc q h) hFc (fun r236 u t H1 locs ht hvm hw hB hz1 hk1 hS => ?_)
        obtain ⟨hP1, hK1, hD1⟩ := hB
        rw [ht] at hP1
        try dsimp only at hw
        obtain ⟨hP, hD⟩ := va_join (wr := []) (w1 := [(aZ, .inr (15, s213))]) hP hD [0] [] rfl rfl (by decide) (by decide) hk1 hFc hP1 hD1
        have hK := hK.sub (tys' := []) [] rfl
        generalize H1 = H at hP hS ⊢
        have hP : va_P (dC, dI) vwCl [(aZ, .inr (15, s213))] H := hP
        have hD : va_D A [(aZ, .inr (15, s213))] := hD
        have er237 := hw
        subst er237
        refine lv_iload hx hb dL_law_470 (lv_at hl 1 rfl) ?_
        refine lv_icmp_eq (tgt := 477) hx hb dL_law_472 (by decide) (fun c238 => absurd c238 (by decide)) (fun c238 => ?_)
        refine lv_iconst (v := 0) hx hb dL_law_475 (by decide) ?_
        exact (by exfalso; (try simp only [i_lt, i_le, i_eq, kc_m1, kc_0, kc_3] at c117 c118 c217 c218 c219) <;> omega)
      · skip
        subst er224
        have o_s213 := ow_on o_fsZ o_s213 (l' := [(0, .int 1), (3, .int 0), (20, .int 0), (3, .int 0), (20, .int 0)]) (w' := [0]) rfl rfl
        refine lv_istore (lv' := [(6, .int 0), (5, .int 1), (0, .ref b), (1, .ref aX), (2, .ref aZ), (3, .ref qO), (4, .int 0)]) hx hb dL_law_464 hl (by decide) rfl (fun ls hl => ?_)
        refine lv_aload_n hx hb dL_law_466 rfl (lv_at hl 4 rfl) ?_
        have hPc := hP.sub (ws' := [(aZ, .inr (15, s213))]) [0] rfl
        have hDc := hD.sub (ws' := [(aZ, .inr (15, s213))]) [0] (by decide) rfl
        have hKc := hK.sub (tys' := []) [] rfl
        have hFc := va_free (wc := [(aZ, .inr (15, s213))]) hD hS hA [0] rfl
        refine va_calli (va_runV (As := []) (rest := []) ⟨hx, hb, hml, hown, hts⟩ (z_X12_thrown l dC dI H.size aZ s213 (fh_sub o_s213.2 [0] rfl) ) (cwV 0 hts g_lk_5_z_X12_thrown_149 rfl rfl rfl (by decide +kernel) ⟨Nat.le_of_ble_eq_true rfl, Nat.le_of_ble_eq_true rfl⟩) ⟨fun a U g mk q => by obtain ⟨q0, q1, qP, qK, qD⟩ := q; exact ⟨q0, q1, qP, va_K.moved (u := U) (U := U.calling g mk a) (Vm.Alike.refl U.vm) qK, qD⟩, va_recv hK hP (ci := 15) (q0 := 0) rfl rfl, fun U hU hW => ⟨rfl, by rw [hU], by rw [hU]; exact hPc, va_K.moved hW.alike hKc, hDc.weaken (fun _ _ _ _ => trivial)⟩⟩ rfl rfl hl.1 rfl (lv_room (Nat.le_of_ble_eq_true rfl)) dL_law_467 ⟨Nat.le_of_ble_eq_true rfl, Nat.le_of_ble_eq_true rfl⟩) hS (fun q _ h => hFc q h) hFc (fun r239 u t H1 locs ht hvm hw hB hz1 hk1 hS => ?_)
        obtain ⟨hP1, hK1, hD1⟩ := hB
        rw [ht] at hP1
        try dsimp only at hw
        obtain ⟨hP, hD⟩ := va_join (wr := []) (w1 := [(aZ, .inr (15, s213))]) hP hD [0] [] rfl rfl (by decide) (by decide) hk1 hFc hP1 hD1
        have hK := hK.sub (tys' := []) [] rfl
        generalize H1 = H at hP hS ⊢
        have hP : va_P (dC, dI) vwCl [(aZ, .inr (15, s213))] H := hP
        have hD : va_D A [(aZ, .inr (15, s213))] := hD
        have er240 := hw
        subst er240
        refine lv_iload hx hb dL_law_470 (lv_at hl 1 rfl) ?_
        refine lv_icmp_eq (tgt := 477) hx hb dL_law_472 (by decide) (fun c241 => ?_) (fun c241 => absurd c241 (by decide))
        refine lv_iload hx hb dL_law_477 (lv_at hl 1 rfl) ?_
        refine lv_if_ne (tgt := 494) hx hb dL_law_479 (by decide) (fun c242 => ?_) (fun c242 => absurd c242 (by decide))
        refine lv_goto (tgt := 3111) hx hb dL_law_494 (by decide) ?_
        exact lw_end hst C0 hA hAf hZ hY (Nat.le_of_ble_eq_true rfl) (Nat.le_of_ble_eq_true rfl) dC dI P0k P0 D0 hS ls (lv_sub hl [2, 6] rfl)
      · skip
        subst er227
        have o_s213 := ow_on o_fsZ o_s213 (l' := [(0, .int 1), (3, .int 0), (20, .int 0), (3, .int 0), (20, .int 0)]) (w' := [0]) rfl rfl
        refine lv_istore (lv' := [(6, .int 0), (5, .int 1), (0, .ref b), (1, .ref aX), (2, .ref aZ), (3, .ref qO), (4, .int 0)]) hx hb dL_law_464 hl (by decide) rfl (fun ls hl => ?_)
        refine lv_aload_n hx hb dL_law_466 rfl (lv_at hl 4 rfl) ?_
        have hPc := hP.sub (ws' := [(aZ, .inr (15, s213))]) [0] rfl
        have hDc := hD.sub (ws' := [(aZ, .inr (15, s213))]) [0] (by decide) rfl
        have hKc := hK.sub (tys' := []) [] rfl
        have hFc := va_free (wc := [(aZ, .inr (15, s213))]) hD hS hA [0] rfl
        refine va_calli (va_runV (As := []) (rest := []) ⟨hx, hb, hml, hown, hts⟩ (z_X12_thrown l dC dI H.size aZ s213 (fh_sub o_s213.2 [0] rfl) ) (cwV 0 hts g_lk_5_z_X12_thrown_149 rfl rfl rfl (by decide +kernel) ⟨Nat.le_of_ble_eq_true rfl, Nat.le_of_ble_eq_true rfl⟩) ⟨fun a U g mk q => by obtain ⟨q0, q1, qP, qK, qD⟩ := q; exact ⟨q0, q1, qP, va_K.moved (u := U) (U := U.calling g mk a) (Vm.Alike.refl U.vm) qK, qD⟩, va_recv hK hP (ci := 15) (q0 := 0) rfl rfl, fun U hU hW => ⟨rfl, by rw [hU], by rw [hU]; exact hPc, va_K.moved hW.alike hKc, hDc.weaken (fun _ _ _ _ => trivial)⟩⟩ rfl rfl hl.1 rfl (lv_room (Nat.le_of_ble_eq_true rfl)) dL_law_467 ⟨Nat.le_of_ble_eq_true rfl, Nat.le_of_ble_eq_true rfl⟩) hS (fun q _ h => hFc q h) hFc (fun r243 u t H1 locs ht hvm hw hB hz1 hk1 hS => ?_)
        obtain ⟨hP1, hK1, hD1⟩ := hB
        rw [ht] at hP1
        try dsimp only at hw
        obtain ⟨hP, hD⟩ := va_join (wr := []) (w1 := [(aZ, .inr (15, s213))]) hP hD [0] [] rfl rfl (by decide) (by decide) hk1 hFc hP1 hD1
        have hK := hK.sub (tys' := []) [] rfl
        generalize H1 = H at hP hS ⊢
        have hP : va_P (dC, dI) vwCl [(aZ, .inr (15, s213))] H := hP
        have hD : va_D A [(aZ, .inr (15, s213))] := hD
        have er244 := hw
        subst er244
        refine lv_iload hx hb dL_law_470 (lv_at hl 1 rfl) ?_
        refine lv_icmp_eq (tgt := 477) hx hb dL_law_472 (by decide) (fun c245 => ?_) (fun c245 => absurd c245 (by decide))
        refine lv_iload hx hb dL_law_477 (lv_at hl 1 rfl) ?_
        refine lv_if_ne (tgt := 494) hx hb dL_law_479 (by decide) (fun c246 => ?_) (fun c246 => absurd c246 (by decide))
        refine lv_goto (tgt := 3111) hx hb dL_law_494 (by decide) ?_
        exact lw_end hst C0 hA hAf hZ hY (Nat.le_of_ble_eq_true rfl) (Nat.le_of_ble_eq_true rfl) dC dI P0k P0 D0 hS ls (lv_sub hl [2, 6] rfl)
      · exact (by exfalso; (try simp only [i_lt, i_le, i_eq, kc_m1, kc_0] at c117 c118 c228 c229 c230); omega)
    · skip
      subst er123
      refine lv_istore (lv' := [(5, .int 1), (0, .ref b), (1, .ref aX), (2, .ref aZ), (3, .ref qO), (4, .int 0)]) hx hb dL_law_446 hl (by decide) rfl (fun ls hl => ?_)
      refine lv_aload_n hx hb dL_law_448 rfl (lv_at hl 3 rfl) ?_
      refine lv_aload_n hx hb dL_law_449 rfl (lv_at hl 1 rfl) ?_
      refine lv_iload hx hb dL_law_450 (lv_at hl 5 rfl) ?_
      refine lv_iconst (v := 1) hx hb dL_law_452 (by decide) ?_
      refine lv_iadd hx hb dL_law_453  ?_
      refine lv_topi (fun x247 ex247 => ?_)
      obtain rfl : x247 = 1 := ex247.trans (by decide)
      refine va_sld hx hb hX hbl hbA hS (show vp_in 1 6 from by unfold vp_in; decide) dL_law_454 ?_
      refine lv_topi (fun x248 ex248 => ?_)
      obtain rfl : w1 = x248 := hw1.trans ex248.symm
      refine lv_aload_n hx hb dL_law_455 rfl (lv_at hl 1 rfl) ?_
      refine lv_iload hx hb dL_law_456 (lv_at hl 5 rfl) ?_
      refine lv_iconst (v := 2) hx hb dL_law_458 (by decide) ?_
      refine lv_iadd hx hb dL_law_459  ?_
      refine lv_topi (fun x249 ex249 => ?_)
      obtain rfl : x249 = 2 := ex249.trans (by decide)
      refine va_sld hx hb hX hbl hbA hS (show vp_in 2 6 from by unfold vp_in; decide) dL_law_460 ?_
      refine lv_topi (fun x250 ex250 => ?_)
      obtain rfl : w2 = x250 := hw2.trans ex250.symm
      have hPc := hP.sub (ws' := [(aZ, .inr (15, fsZ))]) [0] rfl
      have hDc := hD.sub (ws' := [(aZ, .inr (15, fsZ))]) [0] (by decide) rfl
      have hKc := hK.sub (tys' := []) [] rfl
      have hFc := va_free (wc := [(aZ, .inr (15, fsZ))]) hD hS hA [0] rfl
      refine va_calli (va_runV (As := [.int w1, .int w2]) (rest := []) ⟨hx, hb, hml, hown, hts⟩ (z_X12_type l dC dI H.size aZ fsZ w1 w2 (fh_sub o_fsZ.2 [0, 1, 2] rfl) ) (cwV 2 hts g_lk_5_z_X12_type_148 rfl rfl rfl (by decide +kernel) ⟨Nat.le_of_ble_eq_true rfl, Nat.le_of_ble_eq_true rfl⟩) ⟨fun a U g mk q => by obtain ⟨q0, q1, qP, qK, qD⟩ := q; exact ⟨q0, q1, qP, va_K.moved (u := U) (U := U.calling g mk a) (Vm.Alike.refl U.vm) qK, qD⟩, va_recv hK hP (ci := 15) (q0 := 0) rfl rfl, fun U hU hW => ⟨rfl, by rw [hU], by rw [hU]; exact hPc, va_K.moved hW.alike hKc, hDc.weaken (fun _ _ _ _ => trivial)⟩⟩ rfl rfl hl.1 rfl (lv_room (Nat.le_of_ble_eq_true rfl)) dL_law_461 ⟨Nat.le_of_ble_eq_true rfl, Nat.le_of_ble_eq_true rfl⟩) hS (fun q _ h => hFc q h) hFc (fun r251 u t H1 locs ht hvm hw hB hz1 hk1 hS => ?_)
      obtain ⟨s252, rfl⟩ : ∃ z, z = u := ⟨_, rfl⟩
      obtain ⟨hP1, hK1, hD1⟩ := hB
      rw [ht] at hP1
      try dsimp only at hw
      obtain ⟨hP, hD⟩ := va_join (wr := []) (w1 := [(aZ, .inr (15, s252))]) hP hD [0] [] rfl rfl (by decide) (by decide) hk1 hFc hP1 hD1
      have hK := hK.sub (tys' := []) [] rfl
      generalize H1 = H at hP hS ⊢
      have hP : va_P (dC, dI) vwCl [(aZ, .inr (15, s252))] H := hP
      have hD : va_D A [(aZ, .inr (15, s252))] := hD
      rcases hw with ⟨c253, c254, er255, o_s252⟩ | ⟨c256, c257, c258, er259, o_s252⟩ | ⟨c260, c261, c262, er263, o_s252⟩ | ⟨c264, c265, er266, o_s252⟩ | ⟨c267, c268, c269, er270, o_s252⟩
      · exact (by exfalso; (try simp only [i_lt, i_le, i_eq, kc_m1, kc_0] at c120 c121 c122 c253); omega)
      · exact (by exfalso; (try simp only [i_lt, i_le, i_eq, kc_m1, kc_0] at c120 c121 c122 c256); omega)
      · exact (by exfalso; (try simp only [i_lt, i_le, i_eq, kc_m1, kc_0] at c120 c121 c122 c260); omega)
      · exact (by exfalso; (try simp only [i_lt, i_le, i_eq, kc_m1, kc_0] at c120 c121 c122 c264 c265); omega)
      · skip
        subst er270
        have o_s252 := ow_on o_fsZ o_s252 (l' := [(0, .int 1), (3, .int 0), (20, .int 0), (3, .int 0), (20, .int 0)]) (w' := [0]) rfl rfl
        refine lv_istore (lv' := [(6, .int 0), (5, .int 1), (0, .ref b), (1, .ref aX), (2, .ref aZ), (3, .ref qO), (4, .int 0)]) hx hb dL_law_464 hl (by decide) rfl (fun ls hl => ?_)
        refine lv_aload_n hx hb dL_law_466 rfl (lv_at hl 4 rfl) ?_
        have hPc := hP.sub (ws' := [(aZ, .inr (15, s252))]) [0] rfl
        have hDc := hD.sub (ws' := [(aZ, .inr (15, s252))]) [0] (by decide) rfl
        have hKc := hK.sub (tys' := []) [] rfl
        have hFc := va_free (wc := [(aZ, .inr (15, s252))]) hD hS hA [0] rfl
        refine va_calli (va_runV (As := []) (rest := []) ⟨hx, hb, hml, hown, hts⟩ (z_X12_thrown l dC dI H.size aZ s252 (fh_sub o_s252.2 [0] rfl) ) (cwV 0 hts g_lk_5_z_X12_thrown_149 rfl rfl rfl (by decide +kernel) ⟨Nat.le_of_ble_eq_true rfl, Nat.le_of_ble_eq_true rfl⟩) ⟨fun a U g mk q => by obtain ⟨q0, q1, qP, qK, qD⟩ := q; exact ⟨q0, q1, qP, va_K.moved (u := U) (U := U.calling g mk a) (Vm.Alike.refl U.vm) qK, qD⟩, va_recv hK hP (ci := 15) (q0 := 0) rfl rfl, fun U hU hW => ⟨rfl, by rw [hU], by rw [hU]; exact hPc, va_K.moved hW.alike hKc, hDc.weaken (fun _ _ _ _ => trivial)⟩⟩ rfl rfl hl.1 rfl (lv_room (Nat.le_of_ble_eq_true rfl)) dL_law_467 ⟨Nat.le_of_ble_eq_true rfl, Nat.le_of_ble_eq_true rfl⟩) hS (fun q _ h => hFc q h) hFc (fun r271 u t H1 locs ht hvm hw hB hz1 hk1 hS => ?_)
        obtain ⟨hP1, hK1, hD1⟩ := hB
        rw [ht] at hP1
        try dsimp only at hw
        obtain ⟨hP, hD⟩ := va_join (wr := []) (w1 := [(aZ, .inr (15, s252))]) hP hD [0] [] rfl rfl (by decide) (by decide) hk1 hFc hP1 hD1
        have hK := hK.sub (tys' := []) [] rfl
        generalize H1 = H at hP hS ⊢
        have hP : va_P (dC, dI) vwCl [(aZ, .inr (15, s252))] H := hP
        have hD : va_D A [(aZ, .inr (15, s252))] := hD
        have er272 := hw
        subst er272
        refine lv_iload hx hb dL_law_470 (lv_at hl 1 rfl) ?_
        refine lv_icmp_eq (tgt := 477) hx hb dL_law_472 (by decide) (fun c273 => ?_) (fun c273 => absurd c273 (by decide))
        refine lv_iload hx hb dL_law_477 (lv_at hl 1 rfl) ?_
        refine lv_if_ne (tgt := 494) hx hb dL_law_479 (by decide) (fun c274 => ?_) (fun c274 => absurd c274 (by decide))
        refine lv_goto (tgt := 3111) hx hb dL_law_494 (by decide) ?_
        exact lw_end hst C0 hA hAf hZ hY (Nat.le_of_ble_eq_true rfl) (Nat.le_of_ble_eq_true rfl) dC dI P0k P0 D0 hS ls (lv_sub hl [2, 6] rfl)

set_option maxRecDepth 20000 in
theorem g_lk_6_z_L_field_152 : GoodIn lwW (va_wsS RL 152 yL_field w_z_L_field) := goodIn_app (goodIn_sub (ws := ([.methodLink RL 152 yL_field, .static yL_field, .initialized RL] : List Cond)) (gm_c (gm_at lwV_9_in 10 rfl) (gm_c (gm_at lwV_9_in 11 rfl) (gm_c (gm_at lwV_5_in 10 rfl) gm_nil))) (by decide +kernel)) (goodIn_ca (goodIn_sub (ws := .codeWith yL_field cL_field 7 (some .int) [(0, 14, 17, 13), (0, 14, 21, 15), (0, 14, 25, 17)] :: l_z_L_field) (gm_c (gm_at lwV_10_in 3 rfl) (gm_c (gm_at lwV_10_in 4 rfl) (gm_c (gm_at lwV_10_in 5 rfl) (gm_c (gm_at lwV_10_in 6 rfl) (gm_c (gm_at lwV_0_in 3 rfl) (gm_c (gm_at lwV_6_in 9 rfl) (gm_c (gm_at lwV_10_in 7 rfl) (gm_c (gm_at lwV_7_in 7 rfl) (gm_c (gm_at lwV_7_in 8 rfl) (gm_c (gm_at lwV_7_in 9 rfl) (gm_c (gm_at lwV_7_in 10 rfl) (gm_c (gm_at lwV_7_in 11 rfl) (gm_c (gm_at lwV_7_in 0 rfl) (gm_c (gm_at lwV_7_in 1 rfl) (gm_c (gm_at lwV_8_in 9 rfl) (gm_c (gm_at lwV_8_in 10 rfl) gm_nil)))))))))))))))) (by decide +kernel)) (goodIn_app (goodIn_in il_X11 gd_X11) (goodIn_app (goodIn_in il_at0_X11_122 gd_at0_X11_122) (goodIn_in il_X10 gd_X10))))
set_option maxRecDepth 20000 in
theorem g_lk_6_z_X12_field_155 : GoodIn lwW (wsV RL 155 RX12 yX12_field w_z_X12_field) := goodIn_app (goodIn_sub (ws := ([.methodLink RL 155 yX12_field, .instanceMethod yX12_field, .selects RX12 yX12_field yX12_field, .initialized RX12] : List Cond)) (gm_c (gm_at lwV_10_in 0 rfl) (gm_c (gm_at lwV_10_in 1 rfl) (gm_c (gm_at lwV_10_in 2 rfl) (gm_c (gm_at lwV_0_in 7 rfl) gm_nil)))) (by decide +kernel)) (goodIn_ca (goodIn_sub (ws := .code yX12_field cX12_field 9 (some .int) :: l_z_X12_field) (gm_c (gm_at lwV_10_in 8 rfl) (gm_c (gm_at lwV_9_in 3 rfl) (gm_c (gm_at lwV_9_in 4 rfl) (gm_c (gm_at lwV_9_in 5 rfl) (gm_c (gm_at lwV_0_in 7 rfl) (gm_c (gm_at lwV_1_in 5 rfl) (gm_c (gm_at lwV_9_in 7 rfl) (gm_c (gm_at lwV_9_in 8 rfl) gm_nil)))))))) (by decide +kernel)) (goodIn_in il_X12 gd_X12))
set_option maxRecDepth 20000 in
theorem g_lk_6_z_X12_thrown_149 : GoodIn lwW (wsV RL 149 RX12 yX12_thrown w_z_X12_thrown) := goodIn_app (goodIn_sub (ws := ([.methodLink RL 149 yX12_thrown, .instanceMethod yX12_thrown, .selects RX12 yX12_thrown yX12_thrown, .initialized RX12] : List Cond)) (gm_c (gm_at lwV_6_in 2 rfl) (gm_c (gm_at lwV_6_in 3 rfl) (gm_c (gm_at lwV_6_in 4 rfl) (gm_c (gm_at lwV_0_in 7 rfl) gm_nil)))) (by decide +kernel)) (goodIn_ca (goodIn_sub (ws := .code yX12_thrown cX12_thrown 1 (some .int) :: l_z_X12_thrown) (gm_c (gm_at lwV_9_in 9 rfl) (gm_c (gm_at lwV_1_in 5 rfl) gm_nil)) (by decide +kernel)) (goodIn_in il_X12 gd_X12))
set_option maxRecDepth 20000 in
theorem g_lk_6_z_L_field_1_152 : GoodIn lwW (va_wsS RL 152 yL_field w_z_L_field_1) := goodIn_app (goodIn_sub (ws := ([.methodLink RL 152 yL_field, .static yL_field, .initialized RL] : List Cond)) (gm_c (gm_at lwV_9_in 10 rfl) (gm_c (gm_at lwV_9_in 11 rfl) (gm_c (gm_at lwV_5_in 10 rfl) gm_nil))) (by decide +kernel)) (goodIn_ca (goodIn_sub (ws := .codeWith yL_field cL_field 7 (some .int) [(0, 14, 17, 13), (0, 14, 21, 15), (0, 14, 25, 17)] :: l_z_L_field_1) (gm_c (gm_at lwV_10_in 3 rfl) (gm_c (gm_at lwV_10_in 4 rfl) (gm_c (gm_at lwV_10_in 5 rfl) (gm_c (gm_at lwV_10_in 6 rfl) (gm_c (gm_at lwV_0_in 3 rfl) (gm_c (gm_at lwV_6_in 9 rfl) (gm_c (gm_at lwV_10_in 7 rfl) (gm_c (gm_at lwV_7_in 7 rfl) (gm_c (gm_at lwV_7_in 8 rfl) (gm_c (gm_at lwV_7_in 9 rfl) (gm_c (gm_at lwV_7_in 10 rfl) (gm_c (gm_at lwV_7_in 11 rfl) (gm_c (gm_at lwV_7_in 0 rfl) (gm_c (gm_at lwV_7_in 1 rfl) (gm_c (gm_at lwV_8_in 9 rfl) (gm_c (gm_at lwV_8_in 10 rfl) gm_nil)))))))))))))))) (by decide +kernel)) (goodIn_app (goodIn_in il_X11 gd_X11) (goodIn_app (goodIn_in il_at0_X11_122 gd_at0_X11_122) (goodIn_in il_X10 gd_X10))))
set_option maxRecDepth 20000 in
theorem g_lk_6_z_X12_field_1_155 : GoodIn lwW (wsV RL 155 RX12 yX12_field w_z_X12_field_1) := goodIn_app (goodIn_sub (ws := ([.methodLink RL 155 yX12_field, .instanceMethod yX12_field, .selects RX12 yX12_field yX12_field, .initialized RX12] : List Cond)) (gm_c (gm_at lwV_10_in 0 rfl) (gm_c (gm_at lwV_10_in 1 rfl) (gm_c (gm_at lwV_10_in 2 rfl) (gm_c (gm_at lwV_0_in 7 rfl) gm_nil)))) (by decide +kernel)) (goodIn_ca (goodIn_sub (ws := .code yX12_field cX12_field 9 (some .int) :: l_z_X12_field_1) (gm_c (gm_at lwV_10_in 8 rfl) (gm_c (gm_at lwV_9_in 3 rfl) (gm_c (gm_at lwV_9_in 4 rfl) (gm_c (gm_at lwV_9_in 5 rfl) (gm_c (gm_at lwV_0_in 7 rfl) (gm_c (gm_at lwV_1_in 5 rfl) (gm_c (gm_at lwV_9_in 7 rfl) (gm_c (gm_at lwV_9_in 8 rfl) gm_nil)))))))) (by decide +kernel)) (goodIn_in il_X12 gd_X12))
set_option maxHeartbeats 4000000 in
set_option maxRecDepth 100000 in
/-- the law, one call: field -/
theorem lk_6 {p : Program} {l : Launch} {e : Env} {s : State} {m : MethodId} {below : List Frame} {meth : Method} {c : Code} {b : Nat} {xs : Nat → Int32} (hst : l.stackTraces = false) (C0 : lw_At p s m meth c b 6 xs) {A : Nat → Prop} (hA : ∀ q : Nat, s.heap.size ≤ q → A q) (hAf : ∀ q : Nat, A q → s.heap.size ≤ q) (hZ : Zz A s) (hY : Yy s) (dC : Nat → ClassId) (dI : Nat → Nat → Nat) (aX : Nat) (fsX : List Value) (aY : Nat) (fsY : List Value) (aZ : Nat) (fsZ : List Value) (qO : Nat) (w1 : Int32) (hw1 : w1 = xs (1 : Int32).toNatClampNeg) (w2 : Int32) (hw2 : w2 = xs (2 : Int32).toNatClampNeg) (w3 : Int32) (hw3 : w3 = xs (3 : Int32).toNatClampNeg) (w4 : Int32) (hw4 : w4 = xs (4 : Int32).toNatClampNeg) (w5 : Int32) (hw5 : w5 = xs (5 : Int32).toNatClampNeg) (k_fsX : fh fsX 18 [(1, .ref aY)]) (k_fsY : fh fsY 18 [(0, .int 0)]) (k_fsZ : fh fsZ 150 [(0, .int 0), (20, .int 0)])  {H : Heap} {locs : List Loc} (hK : va_K (dC, dI) vwCl [] s) (hP : va_P (dC, dI) vwCl [(aX, .inr (14, fsX)), (aY, .inr (13, fsY)), (aZ, .inr (15, fsZ))] H) (hD : va_D A [(aX, .inr (14, fsX)), (aY, .inr (13, fsY)), (aZ, .inr (15, fsZ))]) (hS : va_S A s.heap H locs) (ls : Array Slot) (hl : lv_has ls 8 [(0, .ref b), (1, .ref aX), (2, .ref aZ), (3, .ref qO), (4, .int 0)]) : W p l e room_1 s m #[Value.ref b] below meth c H locs 390 571359 (lw_Z below #[Value.ref b] s) (F0 m 497 ls []) := by
  obtain ⟨hx, hb, hr, hml, hown0, hts0, hX, hbl, hlocks, hgv⟩ := id C0
  have hown : s.vm.findClass RL = some m.cls := hown0
  have hts : ∀ w ∈ lwW, w.before #[Value.ref b] s = true := fun w h => hts0 w (lwW_in w h)
  have hbA : ¬ A b := fun h => absurd (hAf b h) (Nat.not_le.mpr hbl)
  have o_fsX := ow_0 k_fsX
  have o_fsY := ow_0 k_fsY
  have o_fsZ := ow_0 k_fsZ
  refine lv_aload_n hx hb dL_law_497 rfl (lv_at hl 1 rfl) ?_
  refine lv_aload_n hx hb dL_law_498 rfl (lv_at hl 0 rfl) ?_
  refine lv_iload hx hb dL_law_499 (lv_at hl 4 rfl) ?_
  refine lv_iconst (v := 1) hx hb dL_law_501 (by decide) ?_
  refine lv_iadd hx hb dL_law_502  ?_
  refine lv_topi (fun x101 ex101 => ?_)
  obtain rfl : x101 = 1 := ex101.trans (by decide)
  refine va_sld hx hb hX hbl hbA hS (show vp_in 1 6 from by unfold vp_in; decide) dL_law_503 ?_
  refine lv_topi (fun x102 ex102 => ?_)
  obtain rfl : w1 = x102 := hw1.trans ex102.symm
  refine lv_aload_n hx hb dL_law_504 rfl (lv_at hl 0 rfl) ?_
  refine lv_iload hx hb dL_law_505 (lv_at hl 4 rfl) ?_
  refine lv_iconst (v := 2) hx hb dL_law_507 (by decide) ?_
  refine lv_iadd hx hb dL_law_508  ?_
  refine lv_topi (fun x103 ex103 => ?_)
  obtain rfl : x103 = 2 := ex103.trans (by decide)
  refine va_sld hx hb hX hbl hbA hS (show vp_in 2 6 from by unfold vp_in; decide) dL_law_509 ?_
  refine lv_topi (fun x104 ex104 => ?_)
  obtain rfl : w2 = x104 := hw2.trans ex104.symm
  refine lv_aload_n hx hb dL_law_510 rfl (lv_at hl 0 rfl) ?_
  refine lv_iload hx hb dL_law_511 (lv_at hl 4 rfl) ?_
  refine lv_iconst (v := 3) hx hb dL_law_513 (by decide) ?_
  refine lv_iadd hx hb dL_law_514  ?_
  refine lv_topi (fun x105 ex105 => ?_)
  obtain rfl : x105 = 3 := ex105.trans (by decide)
  refine va_sld hx hb hX hbl hbA hS (show vp_in 3 6 from by unfold vp_in; decide) dL_law_515 ?_
  refine lv_topi (fun x106 ex106 => ?_)
  obtain rfl : w3 = x106 := hw3.trans ex106.symm
  refine lv_aload_n hx hb dL_law_516 rfl (lv_at hl 0 rfl) ?_
  refine lv_iload hx hb dL_law_517 (lv_at hl 4 rfl) ?_
  refine lv_iconst (v := 4) hx hb dL_law_519 (by decide) ?_
  refine lv_iadd hx hb dL_law_520  ?_
  refine lv_topi (fun x107 ex107 => ?_)
  obtain rfl : x107 = 4 := ex107.trans (by decide)
  refine va_sld hx hb hX hbl hbA hS (show vp_in 4 6 from by unfold vp_in; decide) dL_law_521 ?_
  refine lv_topi (fun x108 ex108 => ?_)
  obtain rfl : w4 = x108 := hw4.trans ex108.symm
  refine lv_if_eq (tgt := 529) hx hb dL_law_522 (by decide) (fun c109 => ?_) (fun c109 => ?_)
  · skip
    refine lv_iconst (v := 0) hx hb dL_law_529 (by decide) ?_
    refine lv_aload_n hx hb dL_law_530 rfl (lv_at hl 3 rfl) ?_
    have hPc := hP.sub (ws' := [(aX, .inr (14, fsX)), (aY, .inr (13, fsY))]) [0, 1] rfl
    have hDc := hD.sub (ws' := [(aX, .inr (14, fsX)), (aY, .inr (13, fsY))]) [0, 1] (by decide) rfl
    have hKc := hK.sub (tys' := []) [] rfl
    have hFc := va_free (wc := [(aX, .inr (14, fsX)), (aY, .inr (13, fsY))]) hD hS hA [0, 1] rfl
    refine vx_calli (vx_runSX (As := [.ref aX, .int w1, .int w2, .int w3, .int 0, .ref qO]) (rest := []) ⟨hx, hb, hml, hown, hts⟩ (z_L_field l dC dI H.size aX fsX aY fsY w1 w2 w3 qO (fh_sub o_fsX.2 [0] rfl) (fh_sub o_fsY.2 [0] rfl) hst ) (vx_cwSW 6 hts g_lk_6_z_L_field_152 rfl rfl rfl (by decide +kernel) ⟨Nat.le_of_ble_eq_true rfl, Nat.le_of_ble_eq_true rfl⟩) ⟨fun a U g mk q => by obtain ⟨q0, q1, qZ, qY, qP, qK, qD⟩ := q; exact ⟨q0, q1, Zz_call qZ, Yy_call qY, qP, va_K.moved (u := U) (U := U.calling g mk a) (Vm.Alike.refl U.vm) qK, qD⟩, fun U hU hW => ⟨rfl, by rw [hU], Zz_go hZ hS hFc hU hW, Yy_go hY hW, by rw [hU]; exact hPc, va_K.moved hW.alike hKc, hDc.weaken (fun _ _ _ _ => trivial)⟩⟩ rfl rfl hl.1 rfl (lv_room (Nat.le_of_ble_eq_true rfl)) dL_law_531 ⟨Nat.le_of_ble_eq_true rfl, Nat.le_of_ble_eq_true rfl⟩) hS (fun q _ h => hFc q h) hFc (fun q _ h => hFc q h) (fun E ce q9 u t H1 locs ht hvm hpx hBX hz1 hk1 hS hce hcv hcl => ?_) (fun r110 u t H1 locs ht hvm hw hB hz1 hk1 hS => ?_)
    · exact False.elim hBX
    · skip
      obtain ⟨hP1, hK1, hD1⟩ := hB
      rw [ht] at hP1
      try dsimp only at hw
      obtain ⟨hP, hD⟩ := va_join (wr := [(aZ, .inr (15, fsZ))]) (w1 := []) hP hD [0, 1] [2] rfl rfl (by decide) (by decide) hk1 hFc hP1 hD1
      have hK := hK.sub (tys' := []) [] rfl
      generalize H1 = H at hP hS ⊢
      refine W.widen (k := 391) (n := 571365) (by omega) (by omega) ?_
      have hP : va_P (dC, dI) vwCl [(aZ, .inr (15, fsZ))] H := hP
      have hD : va_D A [(aZ, .inr (15, fsZ))] := hD
      rcases hw with ⟨c111, er112⟩ | ⟨c113, c114, er115⟩
      · skip
        subst er112
        refine lv_istore (lv' := [(5, .int 1), (0, .ref b), (1, .ref aX), (2, .ref aZ), (3, .ref qO), (4, .int 0)]) hx hb dL_law_534 hl (by decide) rfl (fun ls hl => ?_)
        refine lv_aload_n hx hb dL_law_536 rfl (lv_at hl 3 rfl) ?_
        refine lv_aload_n hx hb dL_law_537 rfl (lv_at hl 1 rfl) ?_
        refine lv_iload hx hb dL_law_538 (lv_at hl 5 rfl) ?_
        refine lv_iconst (v := 1) hx hb dL_law_540 (by decide) ?_
        refine lv_iadd hx hb dL_law_541  ?_
        refine lv_topi (fun x116 ex116 => ?_)
        obtain rfl : x116 = 1 := ex116.trans (by decide)
        refine va_sld hx hb hX hbl hbA hS (show vp_in 1 6 from by unfold vp_in; decide) dL_law_542 ?_
        refine lv_topi (fun x117 ex117 => ?_)
        obtain rfl : w1 = x117 := hw1.trans ex117.symm
        refine lv_aload_n hx hb dL_law_543 rfl (lv_at hl 1 rfl) ?_
        refine lv_iload hx hb dL_law_544 (lv_at hl 5 rfl) ?_
        refine lv_iconst (v := 2) hx hb dL_law_546 (by decide) ?_
        refine lv_iadd hx hb dL_law_547  ?_
        refine lv_topi (fun x118 ex118 => ?_)
        obtain rfl : x118 = 2 := ex118.trans (by decide)
        refine va_sld hx hb hX hbl hbA hS (show vp_in 2 6 from by unfold vp_in; decide) dL_law_548 ?_
        refine lv_topi (fun x119 ex119 => ?_)
        obtain rfl : w2 = x119 := hw2.trans ex119.symm
        refine lv_aload_n hx hb dL_law_549 rfl (lv_at hl 1 rfl) ?_
        refine lv_iload hx hb dL_law_550 (lv_at hl 5 rfl) ?_
        refine lv_iconst (v := 3) hx hb dL_law_552 (by decide) ?_
        refine lv_iadd hx hb dL_law_553  ?_
        refine lv_topi (fun x120 ex120 => ?_)
        obtain rfl : x120 = 3 := ex120.trans (by decide)
        refine va_sld hx hb hX hbl hbA hS (show vp_in 3 6 from by unfold vp_in; decide) dL_law_554 ?_
        refine lv_topi (fun x121 ex121 => ?_)
        obtain rfl : w3 = x121 := hw3.trans ex121.symm
        refine lv_aload_n hx hb dL_law_555 rfl (lv_at hl 1 rfl) ?_
        refine lv_iload hx hb dL_law_556 (lv_at hl 5 rfl) ?_
        refine lv_iconst (v := 4) hx hb dL_law_558 (by decide) ?_
        refine lv_iadd hx hb dL_law_559  ?_
        refine lv_topi (fun x122 ex122 => ?_)
        obtain rfl : x122 = 4 := ex122.trans (by decide)
        refine va_sld hx hb hX hbl hbA hS (show vp_in 4 6 from by unfold vp_in; decide) dL_law_560 ?_
        refine lv_topi (fun x123 ex123 => ?_)
        obtain rfl : w4 = x123 := hw4.trans ex123.symm
        refine lv_if_eq (tgt := 568) hx hb dL_law_561 (by decide) (fun c124 => ?_) (fun c124 => (by exfalso; have bd_w4 := i_bd w4; (try simp only [i_lt, i_le, i_eq, kc_0] at c109 c124); omega))
        refine lv_iconst (v := 0) hx hb dL_law_568 (by decide) ?_
        have hPc := hP.sub (ws' := [(aZ, .inr (15, fsZ))]) [0] rfl
        have hDc := hD.sub (ws' := [(aZ, .inr (15, fsZ))]) [0] (by decide) rfl
        have hKc := hK.sub (tys' := []) [] rfl
        have hFc := va_free (wc := [(aZ, .inr (15, fsZ))]) hD hS hA [0] rfl
        refine va_calli (va_runV (As := [.int w1, .int w2, .int w3, .int 0]) (rest := []) ⟨hx, hb, hml, hown, hts⟩ (z_X12_field l dC dI H.size aZ fsZ w1 w2 w3 (fh_sub o_fsZ.2 [0, 1] rfl) ) (cwV 4 hts g_lk_6_z_X12_field_155 rfl rfl rfl (by decide +kernel) ⟨Nat.le_of_ble_eq_true rfl, Nat.le_of_ble_eq_true rfl⟩) ⟨fun a U g mk q => by obtain ⟨q0, q1, qP, qK, qD⟩ := q; exact ⟨q0, q1, qP, va_K.moved (u := U) (U := U.calling g mk a) (Vm.Alike.refl U.vm) qK, qD⟩, va_recv hK hP (ci := 15) (q0 := 0) rfl rfl, fun U hU hW => ⟨rfl, by rw [hU], by rw [hU]; exact hPc, va_K.moved hW.alike hKc, hDc.weaken (fun _ _ _ _ => trivial)⟩⟩ rfl rfl hl.1 rfl (lv_room (Nat.le_of_ble_eq_true rfl)) dL_law_569 ⟨Nat.le_of_ble_eq_true rfl, Nat.le_of_ble_eq_true rfl⟩) hS (fun q _ h => hFc q h) hFc (fun r125 u t H1 locs ht hvm hw hB hz1 hk1 hS => ?_)
        obtain ⟨s126, rfl⟩ : ∃ z, z = u := ⟨_, rfl⟩
        obtain ⟨hP1, hK1, hD1⟩ := hB
        rw [ht] at hP1
        try dsimp only at hw
        obtain ⟨hP, hD⟩ := va_join (wr := []) (w1 := [(aZ, .inr (15, s126))]) hP hD [0] [] rfl rfl (by decide) (by decide) hk1 hFc hP1 hD1
        have hK := hK.sub (tys' := []) [] rfl
        generalize H1 = H at hP hS ⊢
        have hP : va_P (dC, dI) vwCl [(aZ, .inr (15, s126))] H := hP
        have hD : va_D A [(aZ, .inr (15, s126))] := hD
        rcases hw with ⟨c127, er128, o_s126⟩ | ⟨c129, c130, er131, o_s126⟩
        · skip
          subst er128
          have o_s126 := ow_on o_fsZ o_s126 (l' := [(0, .int 1), (20, .int 0), (20, .int 0)]) (w' := [0]) rfl rfl
          refine lv_istore (lv' := [(6, .int 0), (5, .int 1), (0, .ref b), (1, .ref aX), (2, .ref aZ), (3, .ref qO), (4, .int 0)]) hx hb dL_law_572 hl (by decide) rfl (fun ls hl => ?_)
          refine lv_aload_n hx hb dL_law_574 rfl (lv_at hl 4 rfl) ?_
          have hPc := hP.sub (ws' := [(aZ, .inr (15, s126))]) [0] rfl
          have hDc := hD.sub (ws' := [(aZ, .inr (15, s126))]) [0] (by decide) rfl
          have hKc := hK.sub (tys' := []) [] rfl
          have hFc := va_free (wc := [(aZ, .inr (15, s126))]) hD hS hA [0] rfl
          refine va_calli (va_runV (As := []) (rest := []) ⟨hx, hb, hml, hown, hts⟩ (z_X12_thrown l dC dI H.size aZ s126 (fh_sub o_s126.2 [0] rfl) ) (cwV 0 hts g_lk_6_z_X12_thrown_149 rfl rfl rfl (by decide +kernel) ⟨Nat.le_of_ble_eq_true rfl, Nat.le_of_ble_eq_true rfl⟩) ⟨fun a U g mk q => by obtain ⟨q0, q1, qP, qK, qD⟩ := q; exact ⟨q0, q1, qP, va_K.moved (u := U) (U := U.calling g mk a) (Vm.Alike.refl U.vm) qK, qD⟩, va_recv hK hP (ci := 15) (q0 := 0) rfl rfl, fun U hU hW => ⟨rfl, by rw [hU], by rw [hU]; exact hPc, va_K.moved hW.alike hKc, hDc.weaken (fun _ _ _ _ => trivial)⟩⟩ rfl rfl hl.1 rfl (lv_room (Nat.le_of_ble_eq_true rfl)) dL_law_575 ⟨Nat.le_of_ble_eq_true rfl, Nat.le_of_ble_eq_true rfl⟩) hS (fun q _ h => hFc q h) hFc (fun r132 u t H1 locs ht hvm hw hB hz1 hk1 hS => ?_)
          obtain ⟨hP1, hK1, hD1⟩ := hB
          rw [ht] at hP1
          try dsimp only at hw
          obtain ⟨hP, hD⟩ := va_join (wr := []) (w1 := [(aZ, .inr (15, s126))]) hP hD [0] [] rfl rfl (by decide) (by decide) hk1 hFc hP1 hD1
          have hK := hK.sub (tys' := []) [] rfl
          generalize H1 = H at hP hS ⊢
          have hP : va_P (dC, dI) vwCl [(aZ, .inr (15, s126))] H := hP
          have hD : va_D A [(aZ, .inr (15, s126))] := hD
          have er133 := hw
          subst er133
          refine lv_iload hx hb dL_law_578 (lv_at hl 1 rfl) ?_
          refine lv_icmp_eq (tgt := 585) hx hb dL_law_580 (by decide) (fun c134 => ?_) (fun c134 => absurd c134 (by decide))
          refine lv_iload hx hb dL_law_585 (lv_at hl 1 rfl) ?_
          refine lv_if_ne (tgt := 602) hx hb dL_law_587 (by decide) (fun c135 => ?_) (fun c135 => absurd c135 (by decide))
          refine lv_goto (tgt := 3111) hx hb dL_law_602 (by decide) ?_
          exact lw_end hst C0 hA hAf hZ hY (Nat.le_of_ble_eq_true rfl) (Nat.le_of_ble_eq_true rfl) dC dI P0k P0 D0 hS ls (lv_sub hl [2, 6] rfl)
        · exact (by exfalso; (try simp only [i_lt, i_le, i_eq, kc_0] at c111 c129 c130); omega)
      · skip
        subst er115
        refine lv_istore (lv' := [(5, .int 1), (0, .ref b), (1, .ref aX), (2, .ref aZ), (3, .ref qO), (4, .int 0)]) hx hb dL_law_534 hl (by decide) rfl (fun ls hl => ?_)
        refine lv_aload_n hx hb dL_law_536 rfl (lv_at hl 3 rfl) ?_
        refine lv_aload_n hx hb dL_law_537 rfl (lv_at hl 1 rfl) ?_
        refine lv_iload hx hb dL_law_538 (lv_at hl 5 rfl) ?_
        refine lv_iconst (v := 1) hx hb dL_law_540 (by decide) ?_
        refine lv_iadd hx hb dL_law_541  ?_
        refine lv_topi (fun x136 ex136 => ?_)
        obtain rfl : x136 = 1 := ex136.trans (by decide)
        refine va_sld hx hb hX hbl hbA hS (show vp_in 1 6 from by unfold vp_in; decide) dL_law_542 ?_
        refine lv_topi (fun x137 ex137 => ?_)
        obtain rfl : w1 = x137 := hw1.trans ex137.symm
        refine lv_aload_n hx hb dL_law_543 rfl (lv_at hl 1 rfl) ?_
        refine lv_iload hx hb dL_law_544 (lv_at hl 5 rfl) ?_
        refine lv_iconst (v := 2) hx hb dL_law_546 (by decide) ?_
        refine lv_iadd hx hb dL_law_547  ?_
        refine lv_topi (fun x138 ex138 => ?_)
        obtain rfl : x138 = 2 := ex138.trans (by decide)
        refine va_sld hx hb hX hbl hbA hS (show vp_in 2 6 from by unfold vp_in; decide) dL_law_548 ?_
        refine lv_topi (fun x139 ex139 => ?_)
        obtain rfl : w2 = x139 := hw2.trans ex139.symm
        refine lv_aload_n hx hb dL_law_549 rfl (lv_at hl 1 rfl) ?_
        refine lv_iload hx hb dL_law_550 (lv_at hl 5 rfl) ?_
        refine lv_iconst (v := 3) hx hb dL_law_552 (by decide) ?_
        refine lv_iadd hx hb dL_law_553  ?_
        refine lv_topi (fun x140 ex140 => ?_)
        obtain rfl : x140 = 3 := ex140.trans (by decide)
        refine va_sld hx hb hX hbl hbA hS (show vp_in 3 6 from by unfold vp_in; decide) dL_law_554 ?_
        refine lv_topi (fun x141 ex141 => ?_)
        obtain rfl : w3 = x141 := hw3.trans ex141.symm
        refine lv_aload_n hx hb dL_law_555 rfl (lv_at hl 1 rfl) ?_
        refine lv_iload hx hb dL_law_556 (lv_at hl 5 rfl) ?_
        refine lv_iconst (v := 4) hx hb dL_law_558 (by decide) ?_
        refine lv_iadd hx hb dL_law_559  ?_
        refine lv_topi (fun x142 ex142 => ?_)
        obtain rfl : x142 = 4 := ex142.trans (by decide)
        refine va_sld hx hb hX hbl hbA hS (show vp_in 4 6 from by unfold vp_in; decide) dL_law_560 ?_
        refine lv_topi (fun x143 ex143 => ?_)
        obtain rfl : w4 = x143 := hw4.trans ex143.symm
        refine lv_if_eq (tgt := 568) hx hb dL_law_561 (by decide) (fun c144 => ?_) (fun c144 => (by exfalso; have bd_w4 := i_bd w4; (try simp only [i_lt, i_le, i_eq, kc_0] at c109 c144); omega))
        refine lv_iconst (v := 0) hx hb dL_law_568 (by decide) ?_
        have hPc := hP.sub (ws' := [(aZ, .inr (15, fsZ))]) [0] rfl
        have hDc := hD.sub (ws' := [(aZ, .inr (15, fsZ))]) [0] (by decide) rfl
        have hKc := hK.sub (tys' := []) [] rfl
        have hFc := va_free (wc := [(aZ, .inr (15, fsZ))]) hD hS hA [0] rfl
        refine va_calli (va_runV (As := [.int w1, .int w2, .int w3, .int 0]) (rest := []) ⟨hx, hb, hml, hown, hts⟩ (z_X12_field l dC dI H.size aZ fsZ w1 w2 w3 (fh_sub o_fsZ.2 [0, 1] rfl) ) (cwV 4 hts g_lk_6_z_X12_field_155 rfl rfl rfl (by decide +kernel) ⟨Nat.le_of_ble_eq_true rfl, Nat.le_of_ble_eq_true rfl⟩) ⟨fun a U g mk q => by obtain ⟨q0, q1, qP, qK, qD⟩ := q; exact ⟨q0, q1, qP, va_K.moved (u := U) (U := U.calling g mk a) (Vm.Alike.refl U.vm) qK, qD⟩, va_recv hK hP (ci := 15) (q0 := 0) rfl rfl, fun U hU hW => ⟨rfl, by rw [hU], by rw [hU]; exact hPc, va_K.moved hW.alike hKc, hDc.weaken (fun _ _ _ _ => trivial)⟩⟩ rfl rfl hl.1 rfl (lv_room (Nat.le_of_ble_eq_true rfl)) dL_law_569 ⟨Nat.le_of_ble_eq_true rfl, Nat.le_of_ble_eq_true rfl⟩) hS (fun q _ h => hFc q h) hFc (fun r145 u t H1 locs ht hvm hw hB hz1 hk1 hS => ?_)
        obtain ⟨s146, rfl⟩ : ∃ z, z = u := ⟨_, rfl⟩
        obtain ⟨hP1, hK1, hD1⟩ := hB
        rw [ht] at hP1
        try dsimp only at hw
        obtain ⟨hP, hD⟩ := va_join (wr := []) (w1 := [(aZ, .inr (15, s146))]) hP hD [0] [] rfl rfl (by decide) (by decide) hk1 hFc hP1 hD1
        have hK := hK.sub (tys' := []) [] rfl
        generalize H1 = H at hP hS ⊢
        have hP : va_P (dC, dI) vwCl [(aZ, .inr (15, s146))] H := hP
        have hD : va_D A [(aZ, .inr (15, s146))] := hD
        rcases hw with ⟨c147, er148, o_s146⟩ | ⟨c149, c150, er151, o_s146⟩
        · exact (by exfalso; (try simp only [i_lt, i_le, i_eq, kc_0] at c113 c114 c147); omega)
        · skip
          subst er151
          have o_s146 := ow_on o_fsZ o_s146 (l' := [(0, .int 1), (20, .int 0), (20, .int 0)]) (w' := [0]) rfl rfl
          refine lv_istore (lv' := [(6, .int 0), (5, .int 1), (0, .ref b), (1, .ref aX), (2, .ref aZ), (3, .ref qO), (4, .int 0)]) hx hb dL_law_572 hl (by decide) rfl (fun ls hl => ?_)
          refine lv_aload_n hx hb dL_law_574 rfl (lv_at hl 4 rfl) ?_
          have hPc := hP.sub (ws' := [(aZ, .inr (15, s146))]) [0] rfl
          have hDc := hD.sub (ws' := [(aZ, .inr (15, s146))]) [0] (by decide) rfl
          have hKc := hK.sub (tys' := []) [] rfl
          have hFc := va_free (wc := [(aZ, .inr (15, s146))]) hD hS hA [0] rfl
          refine va_calli (va_runV (As := []) (rest := []) ⟨hx, hb, hml, hown, hts⟩ (z_X12_thrown l dC dI H.size aZ s146 (fh_sub o_s146.2 [0] rfl) ) (cwV 0 hts g_lk_6_z_X12_thrown_149 rfl rfl rfl (by decide +kernel) ⟨Nat.le_of_ble_eq_true rfl, Nat.le_of_ble_eq_true rfl⟩) ⟨fun a U g mk q => by obtain ⟨q0, q1, qP, qK, qD⟩ := q; exact ⟨q0, q1, qP, va_K.moved (u := U) (U := U.calling g mk a) (Vm.Alike.refl U.vm) qK, qD⟩, va_recv hK hP (ci := 15) (q0 := 0) rfl rfl, fun U hU hW => ⟨rfl, by rw [hU], by rw [hU]; exact hPc, va_K.moved hW.alike hKc, hDc.weaken (fun _ _ _ _ => trivial)⟩⟩ rfl rfl hl.1 rfl (lv_room (Nat.le_of_ble_eq_true rfl)) dL_law_575 ⟨Nat.le_of_ble_eq_true rfl, Nat.le_of_ble_eq_true rfl⟩) hS (fun q _ h => hFc q h) hFc (fun r152 u t H1 locs ht hvm hw hB hz1 hk1 hS => ?_)
          obtain ⟨hP1, hK1, hD1⟩ := hB
          rw [ht] at hP1
          try dsimp only at hw
          obtain ⟨hP, hD⟩ := va_join (wr := []) (w1 := [(aZ, .inr (15, s146))]) hP hD [0] [] rfl rfl (by decide) (by decide) hk1 hFc hP1 hD1
          have hK := hK.sub (tys' := []) [] rfl
          generalize H1 = H at hP hS ⊢
          have hP : va_P (dC, dI) vwCl [(aZ, .inr (15, s146))] H := hP
          have hD : va_D A [(aZ, .inr (15, s146))] := hD
          have er153 := hw
          subst er153
          refine lv_iload hx hb dL_law_578 (lv_at hl 1 rfl) ?_
          refine lv_icmp_eq (tgt := 585) hx hb dL_law_580 (by decide) (fun c154 => ?_) (fun c154 => absurd c154 (by decide))
          refine lv_iload hx hb dL_law_585 (lv_at hl 1 rfl) ?_
          refine lv_if_ne (tgt := 602) hx hb dL_law_587 (by decide) (fun c155 => ?_) (fun c155 => absurd c155 (by decide))
          refine lv_goto (tgt := 3111) hx hb dL_law_602 (by decide) ?_
          exact lw_end hst C0 hA hAf hZ hY (Nat.le_of_ble_eq_true rfl) (Nat.le_of_ble_eq_true rfl) dC dI P0k P0 D0 hS ls (lv_sub hl [2, 6] rfl)
  · skip
    refine lv_iconst (v := 1) hx hb dL_law_525 (by decide) ?_
    refine lv_goto (tgt := 530) hx hb dL_law_526 (by decide) ?_
    refine lv_aload_n hx hb dL_law_530 rfl (lv_at hl 3 rfl) ?_
    have hPc := hP.sub (ws' := [(aX, .inr (14, fsX)), (aY, .inr (13, fsY))]) [0, 1] rfl
    have hDc := hD.sub (ws' := [(aX, .inr (14, fsX)), (aY, .inr (13, fsY))]) [0, 1] (by decide) rfl
    have hKc := hK.sub (tys' := []) [] rfl
    have hFc := va_free (wc := [(aX, .inr (14, fsX)), (aY, .inr (13, fsY))]) hD hS hA [0, 1] rfl
    refine vx_calli (vx_runSX (As := [.ref aX, .int w1, .int w2, .int w3, .int 1, .ref qO]) (rest := []) ⟨hx, hb, hml, hown, hts⟩ (z_L_field_1 l dC dI H.size aX fsX aY fsY w1 w2 w3 qO (fh_sub o_fsX.2 [0] rfl) (fh_sub o_fsY.2 [0] rfl) hst ) (vx_cwSW 6 hts g_lk_6_z_L_field_1_152 rfl rfl rfl (by decide +kernel) ⟨Nat.le_of_ble_eq_true rfl, Nat.le_of_ble_eq_true rfl⟩) ⟨fun a U g mk q => by obtain ⟨q0, q1, qZ, qY, qP, qK, qD⟩ := q; exact ⟨q0, q1, Zz_call qZ, Yy_call qY, qP, va_K.moved (u := U) (U := U.calling g mk a) (Vm.Alike.refl U.vm) qK, qD⟩, fun U hU hW => ⟨rfl, by rw [hU], Zz_go hZ hS hFc hU hW, Yy_go hY hW, by rw [hU]; exact hPc, va_K.moved hW.alike hKc, hDc.weaken (fun _ _ _ _ => trivial)⟩⟩ rfl rfl hl.1 rfl (lv_room (Nat.le_of_ble_eq_true rfl)) dL_law_531 ⟨Nat.le_of_ble_eq_true rfl, Nat.le_of_ble_eq_true rfl⟩) hS (fun q _ h => hFc q h) hFc (fun q _ h => hFc q h) (fun E ce q9 u t H1 locs ht hvm hpx hBX hz1 hk1 hS hce hcv hcl => ?_) (fun r156 u t H1 locs ht hvm hw hB hz1 hk1 hS => ?_)
    · exact False.elim hBX
    · skip
      obtain ⟨hP1, hK1, hD1⟩ := hB
      rw [ht] at hP1
      try dsimp only at hw
      obtain ⟨hP, hD⟩ := va_join (wr := [(aZ, .inr (15, fsZ))]) (w1 := []) hP hD [0, 1] [2] rfl rfl (by decide) (by decide) hk1 hFc hP1 hD1
      have hK := hK.sub (tys' := []) [] rfl
      generalize H1 = H at hP hS ⊢
      refine W.widen (k := 391) (n := 571365) (by omega) (by omega) ?_
      have hP : va_P (dC, dI) vwCl [(aZ, .inr (15, fsZ))] H := hP
      have hD : va_D A [(aZ, .inr (15, fsZ))] := hD
      rcases hw with ⟨c157, er158⟩ | ⟨c159, c160, er161⟩
      · skip
        subst er158
        refine lv_istore (lv' := [(5, .int 1), (0, .ref b), (1, .ref aX), (2, .ref aZ), (3, .ref qO), (4, .int 0)]) hx hb dL_law_534 hl (by decide) rfl (fun ls hl => ?_)
        refine lv_aload_n hx hb dL_law_536 rfl (lv_at hl 3 rfl) ?_
        refine lv_aload_n hx hb dL_law_537 rfl (lv_at hl 1 rfl) ?_
        refine lv_iload hx hb dL_law_538 (lv_at hl 5 rfl) ?_
        refine lv_iconst (v := 1) hx hb dL_law_540 (by decide) ?_
        refine lv_iadd hx hb dL_law_541  ?_
        refine lv_topi (fun x162 ex162 => ?_)
        obtain rfl : x162 = 1 := ex162.trans (by decide)
        refine va_sld hx hb hX hbl hbA hS (show vp_in 1 6 from by unfold vp_in; decide) dL_law_542 ?_
        refine lv_topi (fun x163 ex163 => ?_)
        obtain rfl : w1 = x163 := hw1.trans ex163.symm
        refine lv_aload_n hx hb dL_law_543 rfl (lv_at hl 1 rfl) ?_
        refine lv_iload hx hb dL_law_544 (lv_at hl 5 rfl) ?_
        refine lv_iconst (v := 2) hx hb dL_law_546 (by decide) ?_
        refine lv_iadd hx hb dL_law_547  ?_
        refine lv_topi (fun x164 ex164 => ?_)
        obtain rfl : x164 = 2 := ex164.trans (by decide)
        refine va_sld hx hb hX hbl hbA hS (show vp_in 2 6 from by unfold vp_in; decide) dL_law_548 ?_
        refine lv_topi (fun x165 ex165 => ?_)
        obtain rfl : w2 = x165 := hw2.trans ex165.symm
        refine lv_aload_n hx hb dL_law_549 rfl (lv_at hl 1 rfl) ?_
        refine lv_iload hx hb dL_law_550 (lv_at hl 5 rfl) ?_
        refine lv_iconst (v := 3) hx hb dL_law_552 (by decide) ?_
        refine lv_iadd hx hb dL_law_553  ?_
        refine lv_topi (fun x166 ex166 => ?_)
        obtain rfl : x166 = 3 := ex166.trans (by decide)
        refine va_sld hx hb hX hbl hbA hS (show vp_in 3 6 from by unfold vp_in; decide) dL_law_554 ?_
        refine lv_topi (fun x167 ex167 => ?_)
        obtain rfl : w3 = x167 := hw3.trans ex167.symm
        refine lv_aload_n hx hb dL_law_555 rfl (lv_at hl 1 rfl) ?_
        refine lv_iload hx hb dL_law_556 (lv_at hl 5 rfl) ?_
        refine lv_iconst (v := 4) hx hb dL_law_558 (by decide) ?_
        refine lv_iadd hx hb dL_law_559  ?_
        refine lv_topi (fun x168 ex168 => ?_)
        obtain rfl : x168 = 4 := ex168.trans (by decide)
        refine va_sld hx hb hX hbl hbA hS (show vp_in 4 6 from by unfold vp_in; decide) dL_law_560 ?_
        refine lv_topi (fun x169 ex169 => ?_)
        obtain rfl : w4 = x169 := hw4.trans ex169.symm
        refine lv_if_eq (tgt := 568) hx hb dL_law_561 (by decide) (fun c170 => ?_) (fun c170 => ?_)
        · skip
          refine lv_iconst (v := 0) hx hb dL_law_568 (by decide) ?_
          have hPc := hP.sub (ws' := [(aZ, .inr (15, fsZ))]) [0] rfl
          have hDc := hD.sub (ws' := [(aZ, .inr (15, fsZ))]) [0] (by decide) rfl
          have hKc := hK.sub (tys' := []) [] rfl
          have hFc := va_free (wc := [(aZ, .inr (15, fsZ))]) hD hS hA [0] rfl
          refine va_calli (va_runV (As := [.int w1, .int w2, .int w3, .int 0]) (rest := []) ⟨hx, hb, hml, hown, hts⟩ (z_X12_field l dC dI H.size aZ fsZ w1 w2 w3 (fh_sub o_fsZ.2 [0, 1] rfl) ) (cwV 4 hts g_lk_6_z_X12_field_155 rfl rfl rfl (by decide +kernel) ⟨Nat.le_of_ble_eq_true rfl, Nat.le_of_ble_eq_true rfl⟩) ⟨fun a U g mk q => by obtain ⟨q0, q1, qP, qK, qD⟩ := q; exact ⟨q0, q1, qP, va_K.moved (u := U) (U := U.calling g mk a) (Vm.Alike.refl U.vm) qK, qD⟩, va_recv hK hP (ci := 15) (q0 := 0) rfl rfl, fun U hU hW => ⟨rfl, by rw [hU], by rw [hU]; exact hPc, va_K.moved hW.alike hKc, hDc.weaken (fun _ _ _ _ => trivial)⟩⟩ rfl rfl hl.1 rfl (lv_room (Nat.le_of_ble_eq_true rfl)) dL_law_569 ⟨Nat.le_of_ble_eq_true rfl, Nat.le_of_ble_eq_true rfl⟩) hS (fun q _ h => hFc q h) hFc (fun r171 u t H1 locs ht hvm hw hB hz1 hk1 hS => ?_)
          obtain ⟨s172, rfl⟩ : ∃ z, z = u := ⟨_, rfl⟩
          obtain ⟨hP1, hK1, hD1⟩ := hB
          rw [ht] at hP1
          try dsimp only at hw
          obtain ⟨hP, hD⟩ := va_join (wr := []) (w1 := [(aZ, .inr (15, s172))]) hP hD [0] [] rfl rfl (by decide) (by decide) hk1 hFc hP1 hD1
          have hK := hK.sub (tys' := []) [] rfl
          generalize H1 = H at hP hS ⊢
          have hP : va_P (dC, dI) vwCl [(aZ, .inr (15, s172))] H := hP
          have hD : va_D A [(aZ, .inr (15, s172))] := hD
          rcases hw with ⟨c173, er174, o_s172⟩ | ⟨c175, c176, er177, o_s172⟩
          · skip
            subst er174
            have o_s172 := ow_on o_fsZ o_s172 (l' := [(0, .int 1), (20, .int 0), (20, .int 0)]) (w' := [0]) rfl rfl
            refine lv_istore (lv' := [(6, .int 0), (5, .int 1), (0, .ref b), (1, .ref aX), (2, .ref aZ), (3, .ref qO), (4, .int 0)]) hx hb dL_law_572 hl (by decide) rfl (fun ls hl => ?_)
            refine lv_aload_n hx hb dL_law_574 rfl (lv_at hl 4 rfl) ?_
            have hPc := hP.sub (ws' := [(aZ, .inr (15, s172))]) [0] rfl
            have hDc := hD.sub (ws' := [(aZ, .inr (15, s172))]) [0] (by decide) rfl
            have hKc := hK.sub (tys' := []) [] rfl
            have hFc := va_free (wc := [(aZ, .inr (15, s172))]) hD hS hA [0] rfl
            refine va_calli (va_runV (As := []) (rest := []) ⟨hx, hb, hml, hown, hts⟩ (z_X12_thrown l dC dI H.size aZ s172 (fh_sub o_s172.2 [0] rfl) ) (cwV 0 hts g_lk_6_z_X12_thrown_149 rfl rfl rfl (by decide +kernel) ⟨Nat.le_of_ble_eq_true rfl, Nat.le_of_ble_eq_true rfl⟩) ⟨fun a U g mk q => by obtain ⟨q0, q1, qP, qK, qD⟩ := q; exact ⟨q0, q1, qP, va_K.moved (u := U) (U := U.calling g mk a) (Vm.Alike.refl U.vm) qK, qD⟩, va_recv hK hP (ci := 15) (q0 := 0) rfl rfl, fun U hU hW => ⟨rfl, by rw [hU], by rw [hU]; exact hPc, va_K.moved hW.alike hKc, hDc.weaken (fun _ _ _ _ => trivial)⟩⟩ rfl rfl hl.1 rfl (lv_room (Nat.le_of_ble_eq_true rfl)) dL_law_575 ⟨Nat.le_of_ble_eq_true rfl, Nat.le_of_ble_eq_true rfl⟩) hS (fun q _ h => hFc q h) hFc (fun r178 u t H1 locs ht hvm hw hB hz1 hk1 hS => ?_)
            obtain ⟨hP1, hK1, hD1⟩ := hB
            rw [ht] at hP1
            try dsimp only at hw
            obtain ⟨hP, hD⟩ := va_join (wr := []) (w1 := [(aZ, .inr (15, s172))]) hP hD [0] [] rfl rfl (by decide) (by decide) hk1 hFc hP1 hD1
            have hK := hK.sub (tys' := []) [] rfl
            generalize H1 = H at hP hS ⊢
            have hP : va_P (dC, dI) vwCl [(aZ, .inr (15, s172))] H := hP
            have hD : va_D A [(aZ, .inr (15, s172))] := hD
            have er179 := hw
            subst er179
            refine lv_iload hx hb dL_law_578 (lv_at hl 1 rfl) ?_
            refine lv_icmp_eq (tgt := 585) hx hb dL_law_580 (by decide) (fun c180 => ?_) (fun c180 => absurd c180 (by decide))
            refine lv_iload hx hb dL_law_585 (lv_at hl 1 rfl) ?_
            refine lv_if_ne (tgt := 602) hx hb dL_law_587 (by decide) (fun c181 => ?_) (fun c181 => absurd c181 (by decide))
            refine lv_goto (tgt := 3111) hx hb dL_law_602 (by decide) ?_
            exact lw_end hst C0 hA hAf hZ hY (Nat.le_of_ble_eq_true rfl) (Nat.le_of_ble_eq_true rfl) dC dI P0k P0 D0 hS ls (lv_sub hl [2, 6] rfl)
          · exact (by exfalso; (try simp only [i_lt, i_le, i_eq, kc_0] at c157 c175 c176); omega)
        · skip
          refine lv_iconst (v := 1) hx hb dL_law_564 (by decide) ?_
          refine lv_goto (tgt := 569) hx hb dL_law_565 (by decide) ?_
          have hPc := hP.sub (ws' := [(aZ, .inr (15, fsZ))]) [0] rfl
          have hDc := hD.sub (ws' := [(aZ, .inr (15, fsZ))]) [0] (by decide) rfl
          have hKc := hK.sub (tys' := []) [] rfl
          have hFc := va_free (wc := [(aZ, .inr (15, fsZ))]) hD hS hA [0] rfl
          refine va_calli (va_runV (As := [.int w1, .int w2, .int w3, .int 1]) (rest := []) ⟨hx, hb, hml, hown, hts⟩ (z_X12_field_1 l dC dI H.size aZ fsZ w1 w2 w3 (fh_sub o_fsZ.2 [0, 1] rfl) ) (cwV 4 hts g_lk_6_z_X12_field_1_155 rfl rfl rfl (by decide +kernel) ⟨Nat.le_of_ble_eq_true rfl, Nat.le_of_ble_eq_true rfl⟩) ⟨fun a U g mk q => by obtain ⟨q0, q1, qP, qK, qD⟩ := q; exact ⟨q0, q1, qP, va_K.moved (u := U) (U := U.calling g mk a) (Vm.Alike.refl U.vm) qK, qD⟩, va_recv hK hP (ci := 15) (q0 := 0) rfl rfl, fun U hU hW => ⟨rfl, by rw [hU], by rw [hU]; exact hPc, va_K.moved hW.alike hKc, hDc.weaken (fun _ _ _ _ => trivial)⟩⟩ rfl rfl hl.1 rfl (lv_room (Nat.le_of_ble_eq_true rfl)) dL_law_569 ⟨Nat.le_of_ble_eq_true rfl, Nat.le_of_ble_eq_true rfl⟩) hS (fun q _ h => hFc q h) hFc (fun r182 u t H1 locs ht hvm hw hB hz1 hk1 hS => ?_)
          obtain ⟨s183, rfl⟩ : ∃ z, z = u := ⟨_, rfl⟩
          obtain ⟨hP1, hK1, hD1⟩ := hB
          rw [ht] at hP1
          try dsimp only at hw
          obtain ⟨hP, hD⟩ := va_join (wr := []) (w1 := [(aZ, .inr (15, s183))]) hP hD [0] [] rfl rfl (by decide) (by decide) hk1 hFc hP1 hD1
          have hK := hK.sub (tys' := []) [] rfl
          generalize H1 = H at hP hS ⊢
          have hP : va_P (dC, dI) vwCl [(aZ, .inr (15, s183))] H := hP
          have hD : va_D A [(aZ, .inr (15, s183))] := hD
          rcases hw with ⟨c184, er185, o_s183⟩ | ⟨c186, c187, er188, o_s183⟩
          · skip
            subst er185
            have o_s183 := ow_on o_fsZ o_s183 (l' := [(0, .int 1), (20, .int 0), (20, .int 0)]) (w' := [0]) rfl rfl
            refine lv_istore (lv' := [(6, .int 0), (5, .int 1), (0, .ref b), (1, .ref aX), (2, .ref aZ), (3, .ref qO), (4, .int 0)]) hx hb dL_law_572 hl (by decide) rfl (fun ls hl => ?_)
            refine lv_aload_n hx hb dL_law_574 rfl (lv_at hl 4 rfl) ?_
            have hPc := hP.sub (ws' := [(aZ, .inr (15, s183))]) [0] rfl
            have hDc := hD.sub (ws' := [(aZ, .inr (15, s183))]) [0] (by decide) rfl
            have hKc := hK.sub (tys' := []) [] rfl
            have hFc := va_free (wc := [(aZ, .inr (15, s183))]) hD hS hA [0] rfl
            refine va_calli (va_runV (As := []) (rest := []) ⟨hx, hb, hml, hown, hts⟩ (z_X12_thrown l dC dI H.size aZ s183 (fh_sub o_s183.2 [0] rfl) ) (cwV 0 hts g_lk_6_z_X12_thrown_149 rfl rfl rfl (by decide +kernel) ⟨Nat.le_of_ble_eq_true rfl, Nat.le_of_ble_eq_true rfl⟩) ⟨fun a U g mk q => by obtain ⟨q0, q1, qP, qK, qD⟩ := q; exact ⟨q0, q1, qP, va_K.moved (u := U) (U := U.calling g mk a) (Vm.Alike.refl U.vm) qK, qD⟩, va_recv hK hP (ci := 15) (q0 := 0) rfl rfl, fun U hU hW => ⟨rfl, by rw [hU], by rw [hU]; exact hPc, va_K.moved hW.alike hKc, hDc.weaken (fun _ _ _ _ => trivial)⟩⟩ rfl rfl hl.1 rfl (lv_room (Nat.le_of_ble_eq_true rfl)) dL_law_575 ⟨Nat.le_of_ble_eq_true rfl, Nat.le_of_ble_eq_true rfl⟩) hS (fun q _ h => hFc q h) hFc (fun r189 u t H1 locs ht hvm hw hB hz1 hk1 hS => ?_)
            obtain ⟨hP1, hK1, hD1⟩ := hB
            rw [ht] at hP1
            try dsimp only at hw
            obtain ⟨hP, hD⟩ := va_join (wr := []) (w1 := [(aZ, .inr (15, s183))]) hP hD [0] [] rfl rfl (by decide) (by decide) hk1 hFc hP1 hD1
            have hK := hK.sub (tys' := []) [] rfl
            generalize H1 = H at hP hS ⊢
            have hP : va_P (dC, dI) vwCl [(aZ, .inr (15, s183))] H := hP
            have hD : va_D A [(aZ, .inr (15, s183))] := hD
            have er190 := hw
            subst er190
            refine lv_iload hx hb dL_law_578 (lv_at hl 1 rfl) ?_
            refine lv_icmp_eq (tgt := 585) hx hb dL_law_580 (by decide) (fun c191 => ?_) (fun c191 => absurd c191 (by decide))
            refine lv_iload hx hb dL_law_585 (lv_at hl 1 rfl) ?_
            refine lv_if_ne (tgt := 602) hx hb dL_law_587 (by decide) (fun c192 => ?_) (fun c192 => absurd c192 (by decide))
            refine lv_goto (tgt := 3111) hx hb dL_law_602 (by decide) ?_
            exact lw_end hst C0 hA hAf hZ hY (Nat.le_of_ble_eq_true rfl) (Nat.le_of_ble_eq_true rfl) dC dI P0k P0 D0 hS ls (lv_sub hl [2, 6] rfl)
          · exact (by exfalso; (try simp only [i_lt, i_le, i_eq, kc_0] at c157 c186 c187); omega)
      · skip
        subst er161
        refine lv_istore (lv' := [(5, .int 1), (0, .ref b), (1, .ref aX), (2, .ref aZ), (3, .ref qO), (4, .int 0)]) hx hb dL_law_534 hl (by decide) rfl (fun ls hl => ?_)
        refine lv_aload_n hx hb dL_law_536 rfl (lv_at hl 3 rfl) ?_
        refine lv_aload_n hx hb dL_law_537 rfl (lv_at hl 1 rfl) ?_
        refine lv_iload hx hb dL_law_538 (lv_at hl 5 rfl) ?_
        refine lv_iconst (v := 1) hx hb dL_law_540 (by decide) ?_
        refine lv_iadd hx hb dL_law_541  ?_
        refine lv_topi (fun x193 ex193 => ?_)
        obtain rfl : x193 = 1 := ex193.trans (by decide)
        refine va_sld hx hb hX hbl hbA hS (show vp_in 1 6 from by unfold vp_in; decide) dL_law_542 ?_
        refine lv_topi (fun x194 ex194 => ?_)
        obtain rfl : w1 = x194 := hw1.trans ex194.symm
        refine lv_aload_n hx hb dL_law_543 rfl (lv_at hl 1 rfl) ?_
        refine lv_iload hx hb dL_law_544 (lv_at hl 5 rfl) ?_
        refine lv_iconst (v := 2) hx hb dL_law_546 (by decide) ?_
        refine lv_iadd hx hb dL_law_547  ?_
        refine lv_topi (fun x195 ex195 => ?_)
        obtain rfl : x195 = 2 := ex195.trans (by decide)
        refine va_sld hx hb hX hbl hbA hS (show vp_in 2 6 from by unfold vp_in; decide) dL_law_548 ?_
        refine lv_topi (fun x196 ex196 => ?_)
        obtain rfl : w2 = x196 := hw2.trans ex196.symm
        refine lv_aload_n hx hb dL_law_549 rfl (lv_at hl 1 rfl) ?_
        refine lv_iload hx hb dL_law_550 (lv_at hl 5 rfl) ?_
        refine lv_iconst (v := 3) hx hb dL_law_552 (by decide) ?_
        refine lv_iadd hx hb dL_law_553  ?_
        refine lv_topi (fun x197 ex197 => ?_)
        obtain rfl : x197 = 3 := ex197.trans (by decide)
        refine va_sld hx hb hX hbl hbA hS (show vp_in 3 6 from by unfold vp_in; decide) dL_law_554 ?_
        refine lv_topi (fun x198 ex198 => ?_)
        obtain rfl : w3 = x198 := hw3.trans ex198.symm
        refine lv_aload_n hx hb dL_law_555 rfl (lv_at hl 1 rfl) ?_
        refine lv_iload hx hb dL_law_556 (lv_at hl 5 rfl) ?_
        refine lv_iconst (v := 4) hx hb dL_law_558 (by decide) ?_
        refine lv_iadd hx hb dL_law_559  ?_
        refine lv_topi (fun x199 ex199 => ?_)
        obtain rfl : x199 = 4 := ex199.trans (by decide)
        refine va_sld hx hb hX hbl hbA hS (show vp_in 4 6 from by unfold vp_in; decide) dL_law_560 ?_
        refine lv_topi (fun x200 ex200 => ?_)
        obtain rfl : w4 = x200 := hw4.trans ex200.symm
        refine lv_if_eq (tgt := 568) hx hb dL_law_561 (by decide) (fun c201 => ?_) (fun c201 => ?_)
        · skip
          refine lv_iconst (v := 0) hx hb dL_law_568 (by decide) ?_
          have hPc := hP.sub (ws' := [(aZ, .inr (15, fsZ))]) [0] rfl
          have hDc := hD.sub (ws' := [(aZ, .inr (15, fsZ))]) [0] (by decide) rfl
          have hKc := hK.sub (tys' := []) [] rfl
          have hFc := va_free (wc := [(aZ, .inr (15, fsZ))]) hD hS hA [0] rfl
          refine va_calli (va_runV (As := [.int w1, .int w2, .int w3, .int 0]) (rest := []) ⟨hx, hb, hml, hown, hts⟩ (z_X12_field l dC dI H.size aZ fsZ w1 w2 w3 (fh_sub o_fsZ.2 [0, 1] rfl) ) (cwV 4 hts g_lk_6_z_X12_field_155 rfl rfl rfl (by decide +kernel) ⟨Nat.le_of_ble_eq_true rfl, Nat.le_of_ble_eq_true rfl⟩) ⟨fun a U g mk q => by obtain ⟨q0, q1, qP, qK, qD⟩ := q; exact ⟨q0, q1, qP, va_K.moved (u := U) (U := U.calling g mk a) (Vm.Alike.refl U.vm) qK, qD⟩, va_recv hK hP (ci := 15) (q0 := 0) rfl rfl, fun U hU hW => ⟨rfl, by rw [hU], by rw [hU]; exact hPc, va_K.moved hW.alike hKc, hDc.weaken (fun _ _ _ _ => trivial)⟩⟩ rfl rfl hl.1 rfl (lv_room (Nat.le_of_ble_eq_true rfl)) dL_law_569 ⟨Nat.le_of_ble_eq_true rfl, Nat.le_of_ble_eq_true rfl⟩) hS (fun q _ h => hFc q h) hFc (fun r202 u t H1 locs ht hvm hw hB hz1 hk1 hS => ?_)
          obtain ⟨s203, rfl⟩ : ∃ z, z = u := ⟨_, rfl⟩
          obtain ⟨hP1, hK1, hD1⟩ := hB
          rw [ht] at hP1
          try dsimp only at hw
          obtain ⟨hP, hD⟩ := va_join (wr := []) (w1 := [(aZ, .inr (15, s203))]) hP hD [0] [] rfl rfl (by decide) (by decide) hk1 hFc hP1 hD1
          have hK := hK.sub (tys' := []) [] rfl
          generalize H1 = H at hP hS ⊢
          have hP : va_P (dC, dI) vwCl [(aZ, .inr (15, s203))] H := hP
          have hD : va_D A [(aZ, .inr (15, s203))] := hD
          rcases hw with ⟨c204, er205, o_s203⟩ | ⟨c206, c207, er208, o_s203⟩
          · exact (by exfalso; (try simp only [i_lt, i_le, i_eq, kc_0] at c159 c160 c204); omega)
          · skip
            subst er208
            have o_s203 := ow_on o_fsZ o_s203 (l' := [(0, .int 1), (20, .int 0), (20, .int 0)]) (w' := [0]) rfl rfl
            refine lv_istore (lv' := [(6, .int 0), (5, .int 1), (0, .ref b), (1, .ref aX), (2, .ref aZ), (3, .ref qO), (4, .int 0)]) hx hb dL_law_572 hl (by decide) rfl (fun ls hl => ?_)
            refine lv_aload_n hx hb dL_law_574 rfl (lv_at hl 4 rfl) ?_
            have hPc := hP.sub (ws' := [(aZ, .inr (15, s203))]) [0] rfl
            have hDc := hD.sub (ws' := [(aZ, .inr (15, s203))]) [0] (by decide) rfl
            have hKc := hK.sub (tys' := []) [] rfl
            have hFc := va_free (wc := [(aZ, .inr (15, s203))]) hD hS hA [0] rfl
            refine va_calli (va_runV (As := []) (rest := []) ⟨hx, hb, hml, hown, hts⟩ (z_X12_thrown l dC dI H.size aZ s203 (fh_sub o_s203.2 [0] rfl) ) (cwV 0 hts g_lk_6_z_X12_thrown_149 rfl rfl rfl (by decide +kernel) ⟨Nat.le_of_ble_eq_true rfl, Nat.le_of_ble_eq_true rfl⟩) ⟨fun a U g mk q => by obtain ⟨q0, q1, qP, qK, qD⟩ := q; exact ⟨q0, q1, qP, va_K.moved (u := U) (U := U.calling g mk a) (Vm.Alike.refl U.vm) qK, qD⟩, va_recv hK hP (ci := 15) (q0 := 0) rfl rfl, fun U hU hW => ⟨rfl, by rw [hU], by rw [hU]; exact hPc, va_K.moved hW.alike hKc, hDc.weaken (fun _ _ _ _ => trivial)⟩⟩ rfl rfl hl.1 rfl (lv_room (Nat.le_of_ble_eq_true rfl)) dL_law_575 ⟨Nat.le_of_ble_eq_true rfl, Nat.le_of_ble_eq_true rfl⟩) hS (fun q _ h => hFc q h) hFc (fun r209 u t H1 locs ht hvm hw hB hz1 hk1 hS => ?_)
            obtain ⟨hP1, hK1, hD1⟩ := hB
            rw [ht] at hP1
            try dsimp only at hw
            obtain ⟨hP, hD⟩ := va_join (wr := []) (w1 := [(aZ, .inr (15, s203))]) hP hD [0] [] rfl rfl (by decide) (by decide) hk1 hFc hP1 hD1
            have hK := hK.sub (tys' := []) [] rfl
            generalize H1 = H at hP hS ⊢
            have hP : va_P (dC, dI) vwCl [(aZ, .inr (15, s203))] H := hP
            have hD : va_D A [(aZ, .inr (15, s203))] := hD
            have er210 := hw
            subst er210
            refine lv_iload hx hb dL_law_578 (lv_at hl 1 rfl) ?_
            refine lv_icmp_eq (tgt := 585) hx hb dL_law_580 (by decide) (fun c211 => ?_) (fun c211 => absurd c211 (by decide))
            refine lv_iload hx hb dL_law_585 (lv_at hl 1 rfl) ?_
            refine lv_if_ne (tgt := 602) hx hb dL_law_587 (by decide) (fun c212 => ?_) (fun c212 => absurd c212 (by decide))
            refine lv_goto (tgt := 3111) hx hb dL_law_602 (by decide) ?_
            exact lw_end hst C0 hA hAf hZ hY (Nat.le_of_ble_eq_true rfl) (Nat.le_of_ble_eq_true rfl) dC dI P0k P0 D0 hS ls (lv_sub hl [2, 6] rfl)
        · skip
          refine lv_iconst (v := 1) hx hb dL_law_564 (by decide) ?_
          refine lv_goto (tgt := 569) hx hb dL_law_565 (by decide) ?_
          have hPc := hP.sub (ws' := [(aZ, .inr (15, fsZ))]) [0] rfl
          have hDc := hD.sub (ws' := [(aZ, .inr (15, fsZ))]) [0] (by decide) rfl
          have hKc := hK.sub (tys' := []) [] rfl
          have hFc := va_free (wc := [(aZ, .inr (15, fsZ))]) hD hS hA [0] rfl
          refine va_calli (va_runV (As := [.int w1, .int w2, .int w3, .int 1]) (rest := []) ⟨hx, hb, hml, hown, hts⟩ (z_X12_field_1 l dC dI H.size aZ fsZ w1 w2 w3 (fh_sub o_fsZ.2 [0, 1] rfl) ) (cwV 4 hts g_lk_6_z_X12_field_1_155 rfl rfl rfl (by decide +kernel) ⟨Nat.le_of_ble_eq_true rfl, Nat.le_of_ble_eq_true rfl⟩) ⟨fun a U g mk q => by obtain ⟨q0, q1, qP, qK, qD⟩ := q; exact ⟨q0, q1, qP, va_K.moved (u := U) (U := U.calling g mk a) (Vm.Alike.refl U.vm) qK, qD⟩, va_recv hK hP (ci := 15) (q0 := 0) rfl rfl, fun U hU hW => ⟨rfl, by rw [hU], by rw [hU]; exact hPc, va_K.moved hW.alike hKc, hDc.weaken (fun _ _ _ _ => trivial)⟩⟩ rfl rfl hl.1 rfl (lv_room (Nat.le_of_ble_eq_true rfl)) dL_law_569 ⟨Nat.le_of_ble_eq_true rfl, Nat.le_of_ble_eq_true rfl⟩) hS (fun q _ h => hFc q h) hFc (fun r213 u t H1 locs ht hvm hw hB hz1 hk1 hS => ?_)
          obtain ⟨s214, rfl⟩ : ∃ z, z = u := ⟨_, rfl⟩
          obtain ⟨hP1, hK1, hD1⟩ := hB
          rw [ht] at hP1
          try dsimp only at hw
          obtain ⟨hP, hD⟩ := va_join (wr := []) (w1 := [(aZ, .inr (15, s214))]) hP hD [0] [] rfl rfl (by decide) (by decide) hk1 hFc hP1 hD1
          have hK := hK.sub (tys' := []) [] rfl
          generalize H1 = H at hP hS ⊢
          have hP : va_P (dC, dI) vwCl [(aZ, .inr (15, s214))] H := hP
          have hD : va_D A [(aZ, .inr (15, s214))] := hD
          rcases hw with ⟨c215, er216, o_s214⟩ | ⟨c217, c218, er219, o_s214⟩
          · exact (by exfalso; (try simp only [i_lt, i_le, i_eq, kc_0] at c159 c160 c215); omega)
          · skip
            subst er219
            have o_s214 := ow_on o_fsZ o_s214 (l' := [(0, .int 1), (20, .int 0), (20, .int 0)]) (w' := [0]) rfl rfl
            refine lv_istore (lv' := [(6, .int 0), (5, .int 1), (0, .ref b), (1, .ref aX), (2, .ref aZ), (3, .ref qO), (4, .int 0)]) hx hb dL_law_572 hl (by decide) rfl (fun ls hl => ?_)
            refine lv_aload_n hx hb dL_law_574 rfl (lv_at hl 4 rfl) ?_
            have hPc := hP.sub (ws' := [(aZ, .inr (15, s214))]) [0] rfl
            have hDc := hD.sub (ws' := [(aZ, .inr (15, s214))]) [0] (by decide) rfl
            have hKc := hK.sub (tys' := []) [] rfl
            have hFc := va_free (wc := [(aZ, .inr (15, s214))]) hD hS hA [0] rfl
            refine va_calli (va_runV (As := []) (rest := []) ⟨hx, hb, hml, hown, hts⟩ (z_X12_thrown l dC dI H.size aZ s214 (fh_sub o_s214.2 [0] rfl) ) (cwV 0 hts g_lk_6_z_X12_thrown_149 rfl rfl rfl (by decide +kernel) ⟨Nat.le_of_ble_eq_true rfl, Nat.le_of_ble_eq_true rfl⟩) ⟨fun a U g mk q => by obtain ⟨q0, q1, qP, qK, qD⟩ := q; exact ⟨q0, q1, qP, va_K.moved (u := U) (U := U.calling g mk a) (Vm.Alike.refl U.vm) qK, qD⟩, va_recv hK hP (ci := 15) (q0 := 0) rfl rfl, fun U hU hW => ⟨rfl, by rw [hU], by rw [hU]; exact hPc, va_K.moved hW.alike hKc, hDc.weaken (fun _ _ _ _ => trivial)⟩⟩ rfl rfl hl.1 rfl (lv_room (Nat.le_of_ble_eq_true rfl)) dL_law_575 ⟨Nat.le_of_ble_eq_true rfl, Nat.le_of_ble_eq_true rfl⟩) hS (fun q _ h => hFc q h) hFc (fun r220 u t H1 locs ht hvm hw hB hz1 hk1 hS => ?_)
            obtain ⟨hP1, hK1, hD1⟩ := hB
            rw [ht] at hP1
            try dsimp only at hw
            obtain ⟨hP, hD⟩ := va_join (wr := []) (w1 := [(aZ, .inr (15, s214))]) hP hD [0] [] rfl rfl (by decide) (by decide) hk1 hFc hP1 hD1
            have hK := hK.sub (tys' := []) [] rfl
            generalize H1 = H at hP hS ⊢
            have hP : va_P (dC, dI) vwCl [(aZ, .inr (15, s214))] H := hP
            have hD : va_D A [(aZ, .inr (15, s214))] := hD
            have er221 := hw
            subst er221
            refine lv_iload hx hb dL_law_578 (lv_at hl 1 rfl) ?_
            refine lv_icmp_eq (tgt := 585) hx hb dL_law_580 (by decide) (fun c222 => ?_) (fun c222 => absurd c222 (by decide))
            refine lv_iload hx hb dL_law_585 (lv_at hl 1 rfl) ?_
            refine lv_if_ne (tgt := 602) hx hb dL_law_587 (by decide) (fun c223 => ?_) (fun c223 => absurd c223 (by decide))
            refine lv_goto (tgt := 3111) hx hb dL_law_602 (by decide) ?_
            exact lw_end hst C0 hA hAf hZ hY (Nat.le_of_ble_eq_true rfl) (Nat.le_of_ble_eq_true rfl) dC dI P0k P0 D0 hS ls (lv_sub hl [2, 6] rfl)

set_option maxRecDepth 20000 in
theorem g_lk_7_z_X11_typeLook_156 : GoodIn lwW (wsV RL 156 RX11 yX11_typeLook w_z_X11_typeLook) := goodIn_app (goodIn_sub (ws := ([.methodLink RL 156 yX11_typeLook, .instanceMethod yX11_typeLook, .selects RX11 yX11_typeLook yX11_typeLook, .initialized RX11] : List Cond)) (gm_c (gm_at lwV_10_in 9 rfl) (gm_c (gm_at lwV_10_in 10 rfl) (gm_c (gm_at lwV_10_in 11 rfl) (gm_c (gm_at lwV_0_in 3 rfl) gm_nil)))) (by decide +kernel)) (goodIn_ca (goodIn_sub (ws := .code yX11_typeLook cX11_typeLook 3 (some .int) :: l_z_X11_typeLook) (gm_c (gm_at lwV_11_in 3 rfl) (gm_c (gm_at lwV_7_in 7 rfl) (gm_c (gm_at lwV_7_in 8 rfl) (gm_c (gm_at lwV_7_in 9 rfl) (gm_c (gm_at lwV_7_in 10 rfl) (gm_c (gm_at lwV_7_in 11 rfl) (gm_c (gm_at lwV_8_in 9 rfl) (gm_c (gm_at lwV_8_in 10 rfl) gm_nil)))))))) (by decide +kernel)) (goodIn_app (goodIn_in il_X11 gd_X11) (goodIn_in il_X10 gd_X10)))
set_option maxRecDepth 20000 in
theorem g_lk_7_z_X12_typeLook_159 : GoodIn lwW (wsV RL 159 RX12 yX12_typeLook w_z_X12_typeLook) := goodIn_app (goodIn_sub (ws := ([.methodLink RL 159 yX12_typeLook, .instanceMethod yX12_typeLook, .selects RX12 yX12_typeLook yX12_typeLook, .initialized RX12] : List Cond)) (gm_c (gm_at lwV_11_in 0 rfl) (gm_c (gm_at lwV_11_in 1 rfl) (gm_c (gm_at lwV_11_in 2 rfl) (gm_c (gm_at lwV_0_in 7 rfl) gm_nil)))) (by decide +kernel)) (goodIn_ca (goodIn_sub (ws := .code yX12_typeLook cX12_typeLook 6 (some .int) :: l_z_X12_typeLook) (gm_c (gm_at lwV_11_in 4 rfl) (gm_c (gm_at lwV_1_in 5 rfl) (gm_c (gm_at lwV_9_in 3 rfl) (gm_c (gm_at lwV_9_in 4 rfl) (gm_c (gm_at lwV_9_in 5 rfl) (gm_c (gm_at lwV_0_in 7 rfl) (gm_c (gm_at lwV_9_in 7 rfl) (gm_c (gm_at lwV_9_in 8 rfl) gm_nil)))))))) (by decide +kernel)) (goodIn_in il_X12 gd_X12))
set_option maxHeartbeats 4000000 in
set_option maxRecDepth 100000 in
/-- the law, one call: typeLook -/
theorem lk_7 {p : Program} {l : Launch} {e : Env} {s : State} {m : MethodId} {below : List Frame} {meth : Method} {c : Code} {b : Nat} {xs : Nat → Int32} (hst : l.stackTraces = false) (C0 : lw_At p s m meth c b 6 xs) {A : Nat → Prop} (hA : ∀ q : Nat, s.heap.size ≤ q → A q) (hAf : ∀ q : Nat, A q → s.heap.size ≤ q) (hZ : Zz A s) (hY : Yy s) (dC : Nat → ClassId) (dI : Nat → Nat → Nat) (aX : Nat) (fsX : List Value) (aY : Nat) (fsY : List Value) (aZ : Nat) (fsZ : List Value) (qO : Nat) (w1 : Int32) (hw1 : w1 = xs (1 : Int32).toNatClampNeg) (w2 : Int32) (hw2 : w2 = xs (2 : Int32).toNatClampNeg) (w3 : Int32) (hw3 : w3 = xs (3 : Int32).toNatClampNeg) (w4 : Int32) (hw4 : w4 = xs (4 : Int32).toNatClampNeg) (w5 : Int32) (hw5 : w5 = xs (5 : Int32).toNatClampNeg) (k_fsX : fh fsX 18 [(1, .ref aY)]) (k_fsY : fh fsY 18 [(0, .int 0)]) (k_fsZ : fh fsZ 150 [(20, .int 0)])  {H : Heap} {locs : List Loc} (hK : va_K (dC, dI) vwCl [] s) (hP : va_P (dC, dI) vwCl [(aX, .inr (14, fsX)), (aY, .inr (13, fsY)), (aZ, .inr (15, fsZ))] H) (hD : va_D A [(aX, .inr (14, fsX)), (aY, .inr (13, fsY)), (aZ, .inr (15, fsZ))]) (hS : va_S A s.heap H locs) (ls : Array Slot) (hl : lv_has ls 8 [(0, .ref b), (1, .ref aX), (2, .ref aZ), (3, .ref qO), (4, .int 0)]) : W p l e room_1 s m #[Value.ref b] below meth c H locs 390 571359 (lw_Z below #[Value.ref b] s) (F0 m 605 ls []) := by
  obtain ⟨hx, hb, hr, hml, hown0, hts0, hX, hbl, hlocks, hgv⟩ := id C0
  have hown : s.vm.findClass RL = some m.cls := hown0
  have hts : ∀ w ∈ lwW, w.before #[Value.ref b] s = true := fun w h => hts0 w (lwW_in w h)
  have hbA : ¬ A b := fun h => absurd (hAf b h) (Nat.not_le.mpr hbl)
  have o_fsX := ow_0 k_fsX
  have o_fsY := ow_0 k_fsY
  have o_fsZ := ow_0 k_fsZ
  refine lv_aload_n hx hb dL_law_605 rfl (lv_at hl 1 rfl) ?_
  refine lv_aload_n hx hb dL_law_606 rfl (lv_at hl 0 rfl) ?_
  refine lv_iload hx hb dL_law_607 (lv_at hl 4 rfl) ?_
  refine lv_iconst (v := 1) hx hb dL_law_609 (by decide) ?_
  refine lv_iadd hx hb dL_law_610  ?_
  refine lv_topi (fun x101 ex101 => ?_)
  obtain rfl : x101 = 1 := ex101.trans (by decide)
  refine va_sld hx hb hX hbl hbA hS (show vp_in 1 6 from by unfold vp_in; decide) dL_law_611 ?_
  refine lv_topi (fun x102 ex102 => ?_)
  obtain rfl : w1 = x102 := hw1.trans ex102.symm
  refine lv_aload_n hx hb dL_law_612 rfl (lv_at hl 0 rfl) ?_
  refine lv_iload hx hb dL_law_613 (lv_at hl 4 rfl) ?_
  refine lv_iconst (v := 2) hx hb dL_law_615 (by decide) ?_
  refine lv_iadd hx hb dL_law_616  ?_
  refine lv_topi (fun x103 ex103 => ?_)
  obtain rfl : x103 = 2 := ex103.trans (by decide)
  refine va_sld hx hb hX hbl hbA hS (show vp_in 2 6 from by unfold vp_in; decide) dL_law_617 ?_
  refine lv_topi (fun x104 ex104 => ?_)
  obtain rfl : w2 = x104 := hw2.trans ex104.symm
  have hPc := hP.sub (ws' := [(aX, .inr (14, fsX)), (aY, .inr (13, fsY))]) [0, 1] rfl
  have hDc := hD.sub (ws' := [(aX, .inr (14, fsX)), (aY, .inr (13, fsY))]) [0, 1] (by decide) rfl
  have hKc := hK.sub (tys' := []) [] rfl
  have hFc := va_free (wc := [(aX, .inr (14, fsX)), (aY, .inr (13, fsY))]) hD hS hA [0, 1] rfl
  refine va_calli (va_runV (As := [.int w1, .int w2]) (rest := []) ⟨hx, hb, hml, hown, hts⟩ (z_X11_typeLook l dC dI H.size aX fsX aY fsY w1 w2 (fh_sub o_fsX.2 [0] rfl) (fh_sub o_fsY.2 [0] rfl) ) (cwV 2 hts g_lk_7_z_X11_typeLook_156 rfl rfl rfl (by decide +kernel) ⟨Nat.le_of_ble_eq_true rfl, Nat.le_of_ble_eq_true rfl⟩) ⟨fun a U g mk q => by obtain ⟨q0, q1, qP, qK, qD⟩ := q; exact ⟨q0, q1, qP, va_K.moved (u := U) (U := U.calling g mk a) (Vm.Alike.refl U.vm) qK, qD⟩, va_recv hK hP (ci := 14) (q0 := 0) rfl rfl, fun U hU hW => ⟨rfl, by rw [hU], by rw [hU]; exact hPc, va_K.moved hW.alike hKc, hDc.weaken (fun _ _ _ _ => trivial)⟩⟩ rfl rfl hl.1 rfl (lv_room (Nat.le_of_ble_eq_true rfl)) dL_law_618 ⟨Nat.le_of_ble_eq_true rfl, Nat.le_of_ble_eq_true rfl⟩) hS (fun q _ h => hFc q h) hFc (fun r105 u t H1 locs ht hvm hw hB hz1 hk1 hS => ?_)
  obtain ⟨hP1, hK1, hD1⟩ := hB
  rw [ht] at hP1
  try dsimp only at hw
  obtain ⟨hP, hD⟩ := va_join (wr := [(aZ, .inr (15, fsZ))]) (w1 := [(aX, .inr (14, fsX)), (aY, .inr (13, fsY))]) hP hD [0, 1] [2] rfl rfl (by decide) (by decide) hk1 hFc hP1 hD1
  have hK := hK.sub (tys' := []) [] rfl
  generalize H1 = H at hP hS ⊢
  have hP : va_P (dC, dI) vwCl [(aZ, .inr (15, fsZ)), (aX, .inr (14, fsX)), (aY, .inr (13, fsY))] H := hP
  have hD : va_D A [(aZ, .inr (15, fsZ)), (aX, .inr (14, fsX)), (aY, .inr (13, fsY))] := hD
  rcases hw with ⟨c106, er107⟩ | ⟨c108, c109, er110⟩
  · skip
    subst er107
    refine lv_aload_n hx hb dL_law_621 rfl (lv_at hl 2 rfl) ?_
    refine lv_aload_n hx hb dL_law_622 rfl (lv_at hl 0 rfl) ?_
    refine lv_iload hx hb dL_law_623 (lv_at hl 4 rfl) ?_
    refine lv_iconst (v := 1) hx hb dL_law_625 (by decide) ?_
    refine lv_iadd hx hb dL_law_626  ?_
    refine lv_topi (fun x111 ex111 => ?_)
    obtain rfl : x111 = 1 := ex111.trans (by decide)
    refine va_sld hx hb hX hbl hbA hS (show vp_in 1 6 from by unfold vp_in; decide) dL_law_627 ?_
    refine lv_topi (fun x112 ex112 => ?_)
    obtain rfl : w1 = x112 := hw1.trans ex112.symm
    refine lv_aload_n hx hb dL_law_628 rfl (lv_at hl 0 rfl) ?_
    refine lv_iload hx hb dL_law_629 (lv_at hl 4 rfl) ?_
    refine lv_iconst (v := 2) hx hb dL_law_631 (by decide) ?_
    refine lv_iadd hx hb dL_law_632  ?_
    refine lv_topi (fun x113 ex113 => ?_)
    obtain rfl : x113 = 2 := ex113.trans (by decide)
    refine va_sld hx hb hX hbl hbA hS (show vp_in 2 6 from by unfold vp_in; decide) dL_law_633 ?_
    refine lv_topi (fun x114 ex114 => ?_)
    obtain rfl : w2 = x114 := hw2.trans ex114.symm
    have hPc := hP.sub (ws' := [(aZ, .inr (15, fsZ))]) [0] rfl
    have hDc := hD.sub (ws' := [(aZ, .inr (15, fsZ))]) [0] (by decide) rfl
    have hKc := hK.sub (tys' := []) [] rfl
    have hFc := va_free (wc := [(aZ, .inr (15, fsZ))]) hD hS hA [0] rfl
    refine va_calli (va_runV (As := [.int w1, .int w2]) (rest := [.int (-1)]) ⟨hx, hb, hml, hown, hts⟩ (z_X12_typeLook l dC dI H.size aZ fsZ w1 w2 (fh_sub o_fsZ.2 [0] rfl) ) (cwV 2 hts g_lk_7_z_X12_typeLook_159 rfl rfl rfl (by decide +kernel) ⟨Nat.le_of_ble_eq_true rfl, Nat.le_of_ble_eq_true rfl⟩) ⟨fun a U g mk q => by obtain ⟨q0, q1, qP, qK, qD⟩ := q; exact ⟨q0, q1, qP, va_K.moved (u := U) (U := U.calling g mk a) (Vm.Alike.refl U.vm) qK, qD⟩, va_recv hK hP (ci := 15) (q0 := 0) rfl rfl, fun U hU hW => ⟨rfl, by rw [hU], by rw [hU]; exact hPc, va_K.moved hW.alike hKc, hDc.weaken (fun _ _ _ _ => trivial)⟩⟩ rfl rfl hl.1 rfl (lv_room (Nat.le_of_ble_eq_true rfl)) dL_law_634 ⟨Nat.le_of_ble_eq_true rfl, Nat.le_of_ble_eq_true rfl⟩) hS (fun q _ h => hFc q h) hFc (fun r115 u t H1 locs ht hvm hw hB hz1 hk1 hS => ?_)
    obtain ⟨s116, rfl⟩ : ∃ z, z = u := ⟨_, rfl⟩
    obtain ⟨hP1, hK1, hD1⟩ := hB
    rw [ht] at hP1
    try dsimp only at hw
    obtain ⟨hP, hD⟩ := va_join (wr := [(aX, .inr (14, fsX)), (aY, .inr (13, fsY))]) (w1 := [(aZ, .inr (15, s116))]) hP hD [0] [1, 2] rfl rfl (by decide) (by decide) hk1 hFc hP1 hD1
    have hK := hK.sub (tys' := []) [] rfl
    generalize H1 = H at hP hS ⊢
    have hP : va_P (dC, dI) vwCl [(aX, .inr (14, fsX)), (aY, .inr (13, fsY)), (aZ, .inr (15, s116))] H := hP
    have hD : va_D A [(aX, .inr (14, fsX)), (aY, .inr (13, fsY)), (aZ, .inr (15, s116))] := hD
    rcases hw with ⟨c117, er118, o_s116⟩ | ⟨c119, c120, er121, o_s116⟩
    · skip
      subst er118
      have o_s116 := ow_on o_fsZ o_s116 (l' := [(0, .int 0), (20, .int 0), (20, .int 0)]) (w' := [0]) rfl rfl
      refine lv_icmp_eq (tgt := 3111) hx hb dL_law_637 (by decide) (fun c122 => ?_) (fun c122 => absurd c122 (by decide))
      exact lw_end hst C0 hA hAf hZ hY (Nat.le_of_ble_eq_true rfl) (Nat.le_of_ble_eq_true rfl) dC dI P0k P0 D0 hS ls (lv_sub hl [0, 4] rfl)
    · exact (by exfalso; (try simp only [i_lt, i_le, i_eq, kc_0] at c106 c119 c120); omega)
  · skip
    subst er110
    refine lv_aload_n hx hb dL_law_621 rfl (lv_at hl 2 rfl) ?_
    refine lv_aload_n hx hb dL_law_622 rfl (lv_at hl 0 rfl) ?_
    refine lv_iload hx hb dL_law_623 (lv_at hl 4 rfl) ?_
    refine lv_iconst (v := 1) hx hb dL_law_625 (by decide) ?_
    refine lv_iadd hx hb dL_law_626  ?_
    refine lv_topi (fun x123 ex123 => ?_)
    obtain rfl : x123 = 1 := ex123.trans (by decide)
    refine va_sld hx hb hX hbl hbA hS (show vp_in 1 6 from by unfold vp_in; decide) dL_law_627 ?_
    refine lv_topi (fun x124 ex124 => ?_)
    obtain rfl : w1 = x124 := hw1.trans ex124.symm
    refine lv_aload_n hx hb dL_law_628 rfl (lv_at hl 0 rfl) ?_
    refine lv_iload hx hb dL_law_629 (lv_at hl 4 rfl) ?_
    refine lv_iconst (v := 2) hx hb dL_law_631 (by decide) ?_
    refine lv_iadd hx hb dL_law_632  ?_
    refine lv_topi (fun x125 ex125 => ?_)
    obtain rfl : x125 = 2 := ex125.trans (by decide)
    refine va_sld hx hb hX hbl hbA hS (show vp_in 2 6 from by unfold vp_in; decide) dL_law_633 ?_
    refine lv_topi (fun x126 ex126 => ?_)
    obtain rfl : w2 = x126 := hw2.trans ex126.symm
    have hPc := hP.sub (ws' := [(aZ, .inr (15, fsZ))]) [0] rfl
    have hDc := hD.sub (ws' := [(aZ, .inr (15, fsZ))]) [0] (by decide) rfl
    have hKc := hK.sub (tys' := []) [] rfl
    have hFc := va_free (wc := [(aZ, .inr (15, fsZ))]) hD hS hA [0] rfl
    refine va_calli (va_runV (As := [.int w1, .int w2]) (rest := [.int (-1)]) ⟨hx, hb, hml, hown, hts⟩ (z_X12_typeLook l dC dI H.size aZ fsZ w1 w2 (fh_sub o_fsZ.2 [0] rfl) ) (cwV 2 hts g_lk_7_z_X12_typeLook_159 rfl rfl rfl (by decide +kernel) ⟨Nat.le_of_ble_eq_true rfl, Nat.le_of_ble_eq_true rfl⟩) ⟨fun a U g mk q => by obtain ⟨q0, q1, qP, qK, qD⟩ := q; exact ⟨q0, q1, qP, va_K.moved (u := U) (U := U.calling g mk a) (Vm.Alike.refl U.vm) qK, qD⟩, va_recv hK hP (ci := 15) (q0 := 0) rfl rfl, fun U hU hW => ⟨rfl, by rw [hU], by rw [hU]; exact hPc, va_K.moved hW.alike hKc, hDc.weaken (fun _ _ _ _ => trivial)⟩⟩ rfl rfl hl.1 rfl (lv_room (Nat.le_of_ble_eq_true rfl)) dL_law_634 ⟨Nat.le_of_ble_eq_true rfl, Nat.le_of_ble_eq_true rfl⟩) hS (fun q _ h => hFc q h) hFc (fun r127 u t H1 locs ht hvm hw hB hz1 hk1 hS => ?_)
    obtain ⟨s128, rfl⟩ : ∃ z, z = u := ⟨_, rfl⟩
    obtain ⟨hP1, hK1, hD1⟩ := hB
    rw [ht] at hP1
    try dsimp only at hw
    obtain ⟨hP, hD⟩ := va_join (wr := [(aX, .inr (14, fsX)), (aY, .inr (13, fsY))]) (w1 := [(aZ, .inr (15, s128))]) hP hD [0] [1, 2] rfl rfl (by decide) (by decide) hk1 hFc hP1 hD1
    have hK := hK.sub (tys' := []) [] rfl
    generalize H1 = H at hP hS ⊢
    have hP : va_P (dC, dI) vwCl [(aX, .inr (14, fsX)), (aY, .inr (13, fsY)), (aZ, .inr (15, s128))] H := hP
    have hD : va_D A [(aX, .inr (14, fsX)), (aY, .inr (13, fsY)), (aZ, .inr (15, s128))] := hD
    rcases hw with ⟨c129, er130, o_s128⟩ | ⟨c131, c132, er133, o_s128⟩
    · exact (by exfalso; (try simp only [i_lt, i_le, i_eq, kc_0] at c108 c109 c129); omega)
    · skip
      subst er133
      have o_s128 := ow_on o_fsZ o_s128 (l' := [(0, .int 0), (20, .int 0), (20, .int 0)]) (w' := [0]) rfl rfl
      refine lv_icmp_eq (tgt := 3111) hx hb dL_law_637 (by decide) (fun c134 => ?_) (fun c134 => absurd c134 (by decide))
      exact lw_end hst C0 hA hAf hZ hY (Nat.le_of_ble_eq_true rfl) (Nat.le_of_ble_eq_true rfl) dC dI P0k P0 D0 hS ls (lv_sub hl [0, 4] rfl)

set_option maxRecDepth 20000 in
theorem g_lk_8_z_X11_fieldLook_160 : GoodIn lwW (wsV RL 160 RX11 yX11_fieldLook w_z_X11_fieldLook) := goodIn_app (goodIn_sub (ws := ([.methodLink RL 160 yX11_fieldLook, .instanceMethod yX11_fieldLook, .selects RX11 yX11_fieldLook yX11_fieldLook, .initialized RX11] : List Cond)) (gm_c (gm_at lwV_11_in 5 rfl) (gm_c (gm_at lwV_11_in 6 rfl) (gm_c (gm_at lwV_11_in 7 rfl) (gm_c (gm_at lwV_0_in 3 rfl) gm_nil)))) (by decide +kernel)) (goodIn_ca (goodIn_sub (ws := .code yX11_fieldLook cX11_fieldLook 5 (some .int) :: l_z_X11_fieldLook) (gm_c (gm_at lwV_11_in 11 rfl) (gm_c (gm_at lwV_7_in 7 rfl) (gm_c (gm_at lwV_12_in 0 rfl) (gm_c (gm_at lwV_12_in 1 rfl) (gm_c (gm_at lwV_12_in 2 rfl) (gm_c (gm_at lwV_7_in 11 rfl) (gm_c (gm_at lwV_12_in 3 rfl) (gm_c (gm_at lwV_12_in 4 rfl) (gm_c (gm_at lwV_7_in 9 rfl) (gm_c (gm_at lwV_7_in 10 rfl) (gm_c (gm_at lwV_8_in 9 rfl) (gm_c (gm_at lwV_8_in 10 rfl) gm_nil)))))))))))) (by decide +kernel)) (goodIn_app (goodIn_in il_X11 gd_X11) (goodIn_in il_X10 gd_X10)))
set_option maxRecDepth 20000 in
theorem g_lk_8_z_X12_fieldLook_163 : GoodIn lwW (wsV RL 163 RX12 yX12_fieldLook w_z_X12_fieldLook) := goodIn_app (goodIn_sub (ws := ([.methodLink RL 163 yX12_fieldLook, .instanceMethod yX12_fieldLook, .selects RX12 yX12_fieldLook yX12_fieldLook, .initialized RX12] : List Cond)) (gm_c (gm_at lwV_11_in 8 rfl) (gm_c (gm_at lwV_11_in 9 rfl) (gm_c (gm_at lwV_11_in 10 rfl) (gm_c (gm_at lwV_0_in 7 rfl) gm_nil)))) (by decide +kernel)) (goodIn_ca (goodIn_sub (ws := .code yX12_fieldLook cX12_fieldLook 5 (some .int) :: l_z_X12_fieldLook) (gm_c (gm_at lwV_12_in 5 rfl) (gm_c (gm_at lwV_1_in 5 rfl) (gm_c (gm_at lwV_9_in 3 rfl) (gm_c (gm_at lwV_9_in 4 rfl) (gm_c (gm_at lwV_9_in 5 rfl) (gm_c (gm_at lwV_0_in 7 rfl) (gm_c (gm_at lwV_9_in 7 rfl) (gm_c (gm_at lwV_9_in 8 rfl) gm_nil)))))))) (by decide +kernel)) (goodIn_in il_X12 gd_X12))
set_option maxHeartbeats 4000000 in
set_option maxRecDepth 100000 in
/-- the law, one call: fieldLook -/
theorem lk_8 {p : Program} {l : Launch} {e : Env} {s : State} {m : MethodId} {below : List Frame} {meth : Method} {c : Code} {b : Nat} {xs : Nat → Int32} (hst : l.stackTraces = false) (C0 : lw_At p s m meth c b 6 xs) {A : Nat → Prop} (hA : ∀ q : Nat, s.heap.size ≤ q → A q) (hAf : ∀ q : Nat, A q → s.heap.size ≤ q) (hZ : Zz A s) (hY : Yy s) (dC : Nat → ClassId) (dI : Nat → Nat → Nat) (aX : Nat) (fsX : List Value) (aY : Nat) (fsY : List Value) (aZ : Nat) (fsZ : List Value) (qO : Nat) (w1 : Int32) (hw1 : w1 = xs (1 : Int32).toNatClampNeg) (w2 : Int32) (hw2 : w2 = xs (2 : Int32).toNatClampNeg) (w3 : Int32) (hw3 : w3 = xs (3 : Int32).toNatClampNeg) (w4 : Int32) (hw4 : w4 = xs (4 : Int32).toNatClampNeg) (w5 : Int32) (hw5 : w5 = xs (5 : Int32).toNatClampNeg) (k_fsX : fh fsX 18 [(1, .ref aY)]) (k_fsY : fh fsY 18 [(0, .int 0)]) (k_fsZ : fh fsZ 150 [(20, .int 0)])  {H : Heap} {locs : List Loc} (hK : va_K (dC, dI) vwCl [] s) (hP : va_P (dC, dI) vwCl [(aX, .inr (14, fsX)), (aY, .inr (13, fsY)), (aZ, .inr (15, fsZ))] H) (hD : va_D A [(aX, .inr (14, fsX)), (aY, .inr (13, fsY)), (aZ, .inr (15, fsZ))]) (hS : va_S A s.heap H locs) (ls : Array Slot) (hl : lv_has ls 8 [(0, .ref b), (1, .ref aX), (2, .ref aZ), (3, .ref qO), (4, .int 0)]) : W p l e room_1 s m #[Value.ref b] below meth c H locs 390 571359 (lw_Z below #[Value.ref b] s) (F0 m 642 ls []) := by
  obtain ⟨hx, hb, hr, hml, hown0, hts0, hX, hbl, hlocks, hgv⟩ := id C0
  have hown : s.vm.findClass RL = some m.cls := hown0
  have hts : ∀ w ∈ lwW, w.before #[Value.ref b] s = true := fun w h => hts0 w (lwW_in w h)
  have hbA : ¬ A b := fun h => absurd (hAf b h) (Nat.not_le.mpr hbl)
  have o_fsX := ow_0 k_fsX
  have o_fsY := ow_0 k_fsY
  have o_fsZ := ow_0 k_fsZ
  refine lv_aload_n hx hb dL_law_642 rfl (lv_at hl 1 rfl) ?_
  refine lv_aload_n hx hb dL_law_643 rfl (lv_at hl 0 rfl) ?_
  refine lv_iload hx hb dL_law_644 (lv_at hl 4 rfl) ?_
  refine lv_iconst (v := 1) hx hb dL_law_646 (by decide) ?_
  refine lv_iadd hx hb dL_law_647  ?_
  refine lv_topi (fun x101 ex101 => ?_)
  obtain rfl : x101 = 1 := ex101.trans (by decide)
  refine va_sld hx hb hX hbl hbA hS (show vp_in 1 6 from by unfold vp_in; decide) dL_law_648 ?_
  refine lv_topi (fun x102 ex102 => ?_)
  obtain rfl : w1 = x102 := hw1.trans ex102.symm
  refine lv_aload_n hx hb dL_law_649 rfl (lv_at hl 0 rfl) ?_
  refine lv_iload hx hb dL_law_650 (lv_at hl 4 rfl) ?_
  refine lv_iconst (v := 2) hx hb dL_law_652 (by decide) ?_
  refine lv_iadd hx hb dL_law_653  ?_
  refine lv_topi (fun x103 ex103 => ?_)
  obtain rfl : x103 = 2 := ex103.trans (by decide)
  refine va_sld hx hb hX hbl hbA hS (show vp_in 2 6 from by unfold vp_in; decide) dL_law_654 ?_
  refine lv_topi (fun x104 ex104 => ?_)
  obtain rfl : w2 = x104 := hw2.trans ex104.symm
  refine lv_aload_n hx hb dL_law_655 rfl (lv_at hl 0 rfl) ?_
  refine lv_iload hx hb dL_law_656 (lv_at hl 4 rfl) ?_
  refine lv_iconst (v := 3) hx hb dL_law_658 (by decide) ?_
  refine lv_iadd hx hb dL_law_659  ?_
  refine lv_topi (fun x105 ex105 => ?_)
  obtain rfl : x105 = 3 := ex105.trans (by decide)
  refine va_sld hx hb hX hbl hbA hS (show vp_in 3 6 from by unfold vp_in; decide) dL_law_660 ?_
  refine lv_topi (fun x106 ex106 => ?_)
  obtain rfl : w3 = x106 := hw3.trans ex106.symm
  have hPc := hP.sub (ws' := [(aX, .inr (14, fsX)), (aY, .inr (13, fsY))]) [0, 1] rfl
  have hDc := hD.sub (ws' := [(aX, .inr (14, fsX)), (aY, .inr (13, fsY))]) [0, 1] (by decide) rfl
  have hKc := hK.sub (tys' := []) [] rfl
  have hFc := va_free (wc := [(aX, .inr (14, fsX)), (aY, .inr (13, fsY))]) hD hS hA [0, 1] rfl
  refine va_calli (va_runV (As := [.int w1, .int w2, .int w3]) (rest := []) ⟨hx, hb, hml, hown, hts⟩ (z_X11_fieldLook l dC dI H.size aX fsX aY fsY w1 w2 w3 (fh_sub o_fsX.2 [0] rfl) (fh_sub o_fsY.2 [0] rfl) ) (cwV 3 hts g_lk_8_z_X11_fieldLook_160 rfl rfl rfl (by decide +kernel) ⟨Nat.le_of_ble_eq_true rfl, Nat.le_of_ble_eq_true rfl⟩) ⟨fun a U g mk q => by obtain ⟨q0, q1, qP, qK, qD⟩ := q; exact ⟨q0, q1, qP, va_K.moved (u := U) (U := U.calling g mk a) (Vm.Alike.refl U.vm) qK, qD⟩, va_recv hK hP (ci := 14) (q0 := 0) rfl rfl, fun U hU hW => ⟨rfl, by rw [hU], by rw [hU]; exact hPc, va_K.moved hW.alike hKc, hDc.weaken (fun _ _ _ _ => trivial)⟩⟩ rfl rfl hl.1 rfl (lv_room (Nat.le_of_ble_eq_true rfl)) dL_law_661 ⟨Nat.le_of_ble_eq_true rfl, Nat.le_of_ble_eq_true rfl⟩) hS (fun q _ h => hFc q h) hFc (fun r107 u t H1 locs ht hvm hw hB hz1 hk1 hS => ?_)
  obtain ⟨hP1, hK1, hD1⟩ := hB
  rw [ht] at hP1
  try dsimp only at hw
  obtain ⟨hP, hD⟩ := va_join (wr := [(aZ, .inr (15, fsZ))]) (w1 := [(aX, .inr (14, fsX)), (aY, .inr (13, fsY))]) hP hD [0, 1] [2] rfl rfl (by decide) (by decide) hk1 hFc hP1 hD1
  have hK := hK.sub (tys' := []) [] rfl
  generalize H1 = H at hP hS ⊢
  have hP : va_P (dC, dI) vwCl [(aZ, .inr (15, fsZ)), (aX, .inr (14, fsX)), (aY, .inr (13, fsY))] H := hP
  have hD : va_D A [(aZ, .inr (15, fsZ)), (aX, .inr (14, fsX)), (aY, .inr (13, fsY))] := hD
  rcases hw with ⟨c108, er109⟩ | ⟨c110, c111, er112⟩
  · skip
    subst er109
    refine lv_aload_n hx hb dL_law_664 rfl (lv_at hl 2 rfl) ?_
    refine lv_aload_n hx hb dL_law_665 rfl (lv_at hl 0 rfl) ?_
    refine lv_iload hx hb dL_law_666 (lv_at hl 4 rfl) ?_
    refine lv_iconst (v := 1) hx hb dL_law_668 (by decide) ?_
    refine lv_iadd hx hb dL_law_669  ?_
    refine lv_topi (fun x113 ex113 => ?_)
    obtain rfl : x113 = 1 := ex113.trans (by decide)
    refine va_sld hx hb hX hbl hbA hS (show vp_in 1 6 from by unfold vp_in; decide) dL_law_670 ?_
    refine lv_topi (fun x114 ex114 => ?_)
    obtain rfl : w1 = x114 := hw1.trans ex114.symm
    refine lv_aload_n hx hb dL_law_671 rfl (lv_at hl 0 rfl) ?_
    refine lv_iload hx hb dL_law_672 (lv_at hl 4 rfl) ?_
    refine lv_iconst (v := 2) hx hb dL_law_674 (by decide) ?_
    refine lv_iadd hx hb dL_law_675  ?_
    refine lv_topi (fun x115 ex115 => ?_)
    obtain rfl : x115 = 2 := ex115.trans (by decide)
    refine va_sld hx hb hX hbl hbA hS (show vp_in 2 6 from by unfold vp_in; decide) dL_law_676 ?_
    refine lv_topi (fun x116 ex116 => ?_)
    obtain rfl : w2 = x116 := hw2.trans ex116.symm
    refine lv_aload_n hx hb dL_law_677 rfl (lv_at hl 0 rfl) ?_
    refine lv_iload hx hb dL_law_678 (lv_at hl 4 rfl) ?_
    refine lv_iconst (v := 3) hx hb dL_law_680 (by decide) ?_
    refine lv_iadd hx hb dL_law_681  ?_
    refine lv_topi (fun x117 ex117 => ?_)
    obtain rfl : x117 = 3 := ex117.trans (by decide)
    refine va_sld hx hb hX hbl hbA hS (show vp_in 3 6 from by unfold vp_in; decide) dL_law_682 ?_
    refine lv_topi (fun x118 ex118 => ?_)
    obtain rfl : w3 = x118 := hw3.trans ex118.symm
    have hPc := hP.sub (ws' := [(aZ, .inr (15, fsZ))]) [0] rfl
    have hDc := hD.sub (ws' := [(aZ, .inr (15, fsZ))]) [0] (by decide) rfl
    have hKc := hK.sub (tys' := []) [] rfl
    have hFc := va_free (wc := [(aZ, .inr (15, fsZ))]) hD hS hA [0] rfl
    refine va_calli (va_runV (As := [.int w1, .int w2, .int w3]) (rest := [.int (-1)]) ⟨hx, hb, hml, hown, hts⟩ (z_X12_fieldLook l dC dI H.size aZ fsZ w1 w2 w3 (fh_sub o_fsZ.2 [0] rfl) ) (cwV 3 hts g_lk_8_z_X12_fieldLook_163 rfl rfl rfl (by decide +kernel) ⟨Nat.le_of_ble_eq_true rfl, Nat.le_of_ble_eq_true rfl⟩) ⟨fun a U g mk q => by obtain ⟨q0, q1, qP, qK, qD⟩ := q; exact ⟨q0, q1, qP, va_K.moved (u := U) (U := U.calling g mk a) (Vm.Alike.refl U.vm) qK, qD⟩, va_recv hK hP (ci := 15) (q0 := 0) rfl rfl, fun U hU hW => ⟨rfl, by rw [hU], by rw [hU]; exact hPc, va_K.moved hW.alike hKc, hDc.weaken (fun _ _ _ _ => trivial)⟩⟩ rfl rfl hl.1 rfl (lv_room (Nat.le_of_ble_eq_true rfl)) dL_law_683 ⟨Nat.le_of_ble_eq_true rfl, Nat.le_of_ble_eq_true rfl⟩) hS (fun q _ h => hFc q h) hFc (fun r119 u t H1 locs ht hvm hw hB hz1 hk1 hS => ?_)
    obtain ⟨s120, rfl⟩ : ∃ z, z = u := ⟨_, rfl⟩
    obtain ⟨hP1, hK1, hD1⟩ := hB
    rw [ht] at hP1
    try dsimp only at hw
    obtain ⟨hP, hD⟩ := va_join (wr := [(aX, .inr (14, fsX)), (aY, .inr (13, fsY))]) (w1 := [(aZ, .inr (15, s120))]) hP hD [0] [1, 2] rfl rfl (by decide) (by decide) hk1 hFc hP1 hD1
    have hK := hK.sub (tys' := []) [] rfl
    generalize H1 = H at hP hS ⊢
    have hP : va_P (dC, dI) vwCl [(aX, .inr (14, fsX)), (aY, .inr (13, fsY)), (aZ, .inr (15, s120))] H := hP
    have hD : va_D A [(aX, .inr (14, fsX)), (aY, .inr (13, fsY)), (aZ, .inr (15, s120))] := hD
    rcases hw with ⟨c121, er122, o_s120⟩ | ⟨c123, c124, er125, o_s120⟩
    · skip
      subst er122
      have o_s120 := ow_on o_fsZ o_s120 (l' := [(0, .int 0), (20, .int 0), (20, .int 0)]) (w' := [0]) rfl rfl
      refine lv_icmp_eq (tgt := 3111) hx hb dL_law_686 (by decide) (fun c126 => ?_) (fun c126 => absurd c126 (by decide))
      exact lw_end hst C0 hA hAf hZ hY (Nat.le_of_ble_eq_true rfl) (Nat.le_of_ble_eq_true rfl) dC dI P0k P0 D0 hS ls (lv_sub hl [0, 4] rfl)
    · exact (by exfalso; (try simp only [i_lt, i_le, i_eq, kc_0] at c108 c123 c124); omega)
  · skip
    subst er112
    refine lv_aload_n hx hb dL_law_664 rfl (lv_at hl 2 rfl) ?_
    refine lv_aload_n hx hb dL_law_665 rfl (lv_at hl 0 rfl) ?_
    refine lv_iload hx hb dL_law_666 (lv_at hl 4 rfl) ?_
    refine lv_iconst (v := 1) hx hb dL_law_668 (by decide) ?_
    refine lv_iadd hx hb dL_law_669  ?_
    refine lv_topi (fun x127 ex127 => ?_)
    obtain rfl : x127 = 1 := ex127.trans (by decide)
    refine va_sld hx hb hX hbl hbA hS (show vp_in 1 6 from by unfold vp_in; decide) dL_law_670 ?_
    refine lv_topi (fun x128 ex128 => ?_)
    obtain rfl : w1 = x128 := hw1.trans ex128.symm
    refine lv_aload_n hx hb dL_law_671 rfl (lv_at hl 0 rfl) ?_
    refine lv_iload hx hb dL_law_672 (lv_at hl 4 rfl) ?_
    refine lv_iconst (v := 2) hx hb dL_law_674 (by decide) ?_
    refine lv_iadd hx hb dL_law_675  ?_
    refine lv_topi (fun x129 ex129 => ?_)
    obtain rfl : x129 = 2 := ex129.trans (by decide)
    refine va_sld hx hb hX hbl hbA hS (show vp_in 2 6 from by unfold vp_in; decide) dL_law_676 ?_
    refine lv_topi (fun x130 ex130 => ?_)
    obtain rfl : w2 = x130 := hw2.trans ex130.symm
    refine lv_aload_n hx hb dL_law_677 rfl (lv_at hl 0 rfl) ?_
    refine lv_iload hx hb dL_law_678 (lv_at hl 4 rfl) ?_
    refine lv_iconst (v := 3) hx hb dL_law_680 (by decide) ?_
    refine lv_iadd hx hb dL_law_681  ?_
    refine lv_topi (fun x131 ex131 => ?_)
    obtain rfl : x131 = 3 := ex131.trans (by decide)
    refine va_sld hx hb hX hbl hbA hS (show vp_in 3 6 from by unfold vp_in; decide) dL_law_682 ?_
    refine lv_topi (fun x132 ex132 => ?_)
    obtain rfl : w3 = x132 := hw3.trans ex132.symm
    have hPc := hP.sub (ws' := [(aZ, .inr (15, fsZ))]) [0] rfl
    have hDc := hD.sub (ws' := [(aZ, .inr (15, fsZ))]) [0] (by decide) rfl
    have hKc := hK.sub (tys' := []) [] rfl
    have hFc := va_free (wc := [(aZ, .inr (15, fsZ))]) hD hS hA [0] rfl
    refine va_calli (va_runV (As := [.int w1, .int w2, .int w3]) (rest := [.int (-1)]) ⟨hx, hb, hml, hown, hts⟩ (z_X12_fieldLook l dC dI H.size aZ fsZ w1 w2 w3 (fh_sub o_fsZ.2 [0] rfl) ) (cwV 3 hts g_lk_8_z_X12_fieldLook_163 rfl rfl rfl (by decide +kernel) ⟨Nat.le_of_ble_eq_true rfl, Nat.le_of_ble_eq_true rfl⟩) ⟨fun a U g mk q => by obtain ⟨q0, q1, qP, qK, qD⟩ := q; exact ⟨q0, q1, qP, va_K.moved (u := U) (U := U.calling g mk a) (Vm.Alike.refl U.vm) qK, qD⟩, va_recv hK hP (ci := 15) (q0 := 0) rfl rfl, fun U hU hW => ⟨rfl, by rw [hU], by rw [hU]; exact hPc, va_K.moved hW.alike hKc, hDc.weaken (fun _ _ _ _ => trivial)⟩⟩ rfl rfl hl.1 rfl (lv_room (Nat.le_of_ble_eq_true rfl)) dL_law_683 ⟨Nat.le_of_ble_eq_true rfl, Nat.le_of_ble_eq_true rfl⟩) hS (fun q _ h => hFc q h) hFc (fun r133 u t H1 locs ht hvm hw hB hz1 hk1 hS => ?_)
    obtain ⟨s134, rfl⟩ : ∃ z, z = u := ⟨_, rfl⟩
    obtain ⟨hP1, hK1, hD1⟩ := hB
    rw [ht] at hP1
    try dsimp only at hw
    obtain ⟨hP, hD⟩ := va_join (wr := [(aX, .inr (14, fsX)), (aY, .inr (13, fsY))]) (w1 := [(aZ, .inr (15, s134))]) hP hD [0] [1, 2] rfl rfl (by decide) (by decide) hk1 hFc hP1 hD1
    have hK := hK.sub (tys' := []) [] rfl
    generalize H1 = H at hP hS ⊢
    have hP : va_P (dC, dI) vwCl [(aX, .inr (14, fsX)), (aY, .inr (13, fsY)), (aZ, .inr (15, s134))] H := hP
    have hD : va_D A [(aX, .inr (14, fsX)), (aY, .inr (13, fsY)), (aZ, .inr (15, s134))] := hD
    rcases hw with ⟨c135, er136, o_s134⟩ | ⟨c137, c138, er139, o_s134⟩
    · exact (by exfalso; (try simp only [i_lt, i_le, i_eq, kc_0] at c110 c111 c135); omega)
    · skip
      subst er139
      have o_s134 := ow_on o_fsZ o_s134 (l' := [(0, .int 0), (20, .int 0), (20, .int 0)]) (w' := [0]) rfl rfl
      refine lv_icmp_eq (tgt := 3111) hx hb dL_law_686 (by decide) (fun c140 => ?_) (fun c140 => absurd c140 (by decide))
      exact lw_end hst C0 hA hAf hZ hY (Nat.le_of_ble_eq_true rfl) (Nat.le_of_ble_eq_true rfl) dC dI P0k P0 D0 hS ls (lv_sub hl [0, 4] rfl)

