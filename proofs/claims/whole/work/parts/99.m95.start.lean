set_option maxHeartbeats 4000000 in
set_option maxRecDepth 100000 in
theorem whole_start {p : Program} {e : Env} {s : State} {m : MethodId} {below : List Frame} {meth : Method} {c : Code} (l : Launch) (hst : l.stackTraces = false) {b L : Nat} {xs : Nat → Int32} (hL : L ≤ 3072) (C0 : lw_At p s m meth c b L xs) : W p l e room_1 s m #[Value.ref b] below meth c s.heap [] 0 0 (lw_Z below #[Value.ref b] s) (entryFrame m ([Value.ref b] : List Value).toArray 8) := by
  obtain ⟨hx, hb, hr, hml, hown, hts, hX, hbl, hlocks, hgv⟩ := id C0
  have hA0 : ∀ a : Nat, a < s.heap.size → ¬ (fun q : Nat => s.heap.size ≤ q) a := fun a h => Nat.not_le.mpr h
  have hfl := flat_of_before _ hgv
  obtain ⟨c0, iS0, hKn0⟩ := u_known (C := RJ0) (T := TJ0) (N := 4) (n := 4) hts it_J0 (hts (.instantiable RJ0 4) (gm_at tb_6 47 rfl))
  obtain ⟨c1, iS1, hKn1⟩ := u_known (C := RJ4) (T := TJ4) (N := 4) (n := 4) hts it_J4 (hts (.instantiable RJ4 4) (gm_at tb_5 126 rfl))
  obtain ⟨c2, iS2, hKn2⟩ := u_known (C := RJx00060) (T := TJx00060) (N := 6) (n := 6) hts it_Jx00060 (hts (.instantiable RJx00060 6) (gm_at tb_6 126 rfl))
  obtain ⟨c3, iS3, hKn3⟩ := u_known (C := RX0) (T := TX0) (N := 15) (n := 15) hts it_X0 (hts (.instantiable RX0 15) (gm_at tb_4 107 rfl))
  obtain ⟨c4, iS4, hKn4⟩ := u_known (C := RX1) (T := TX1) (N := 10) (n := 10) hts it_X1 (hts (.instantiable RX1 10) (gm_at tb_4 70 rfl))
  obtain ⟨c5, iS5, hKn5⟩ := u_known (C := RX2) (T := TX2) (N := 14) (n := 14) hts it_X2 (hts (.instantiable RX2 14) (gm_at tb_1 234 rfl))
  obtain ⟨c6, iS6, hKn6⟩ := u_known (C := RX3) (T := TX3) (N := 13) (n := 13) hts it_X3 (hts (.instantiable RX3 13) (gm_at tb_2 67 rfl))
  obtain ⟨c7, iS7, hKn7⟩ := u_known (C := RX4) (T := TX4) (N := 21) (n := 21) hts it_X4 (hts (.instantiable RX4 21) (gm_at tb_3 146 rfl))
  obtain ⟨c8, iS8, hKn8⟩ := u_known (C := RX5) (T := TX5) (N := 21) (n := 21) hts it_X5 (hts (.instantiable RX5 21) (gm_at tb_2 118 rfl))
  obtain ⟨c9, iS9, hKn9⟩ := u_known (C := RX6) (T := TX6) (N := 19) (n := 19) hts it_X6 (hts (.instantiable RX6 19) (gm_at tb_3 73 rfl))
  obtain ⟨c10, iS10, hKn10⟩ := u_known (C := RX7) (T := TX7) (N := 21) (n := 21) hts it_X7 (hts (.instantiable RX7 21) (gm_at tb_3 221 rfl))
  obtain ⟨c11, iS11, hKn11⟩ := u_known (C := RX8) (T := TX8) (N := 18) (n := 18) hts it_X8 (hts (.instantiable RX8 18) (gm_at tb_2 127 rfl))
  obtain ⟨c12, iS12, hKn12⟩ := u_known (C := RX9) (T := TX9) (N := 12) (n := 12) hts it_X9 (hts (.instantiable RX9 12) (gm_at tb_1 44 rfl))
  obtain ⟨c13, iS13, hKn13⟩ := u_known (C := RX10) (T := TX10) (N := 18) (n := 18) hts it_X10 (hts (.instantiable RX10 18) (gm_at tb_1 154 rfl))
  obtain ⟨c14, iS14, hKn14⟩ := u_known (C := RX11) (T := TX11) (N := 18) (n := 18) hts it_X11 (hts (.instantiable RX11 18) (gm_at tb_1 36 rfl))
  obtain ⟨c15, iS15, hKn15⟩ := u_known (C := RX12) (T := TX12) (N := 150) (n := 150) hts it_X12 (hts (.instantiable RX12 150) (gm_at tb_11 208 rfl))
  obtain ⟨dC, dI, hKc⟩ : ∃ (dC : Nat → ClassId) (dI : Nat → Nat → Nat), ∀ (k : Nat) (q : vw_C), vwCl[k]? = some q → u_Kn s q.1 q.2.1 q.2.2 (dC k) (dI k) := by
    refine ⟨fun k => match k with | 0 => c0 | 1 => c1 | 2 => c2 | 3 => c3 | 4 => c4 | 5 => c5 | 6 => c6 | 7 => c7 | 8 => c8 | 9 => c9 | 10 => c10 | 11 => c11 | 12 => c12 | 13 => c13 | 14 => c14 | _ => c15, fun k => match k with | 0 => iS0 | 1 => iS1 | 2 => iS2 | 3 => iS3 | 4 => iS4 | 5 => iS5 | 6 => iS6 | 7 => iS7 | 8 => iS8 | 9 => iS9 | 10 => iS10 | 11 => iS11 | 12 => iS12 | 13 => iS13 | 14 => iS14 | _ => iS15, ?_⟩
    intro k q hq
    match k, hq with
    | 0, hq => cases hq; exact hKn0
    | 1, hq => cases hq; exact hKn1
    | 2, hq => cases hq; exact hKn2
    | 3, hq => cases hq; exact hKn3
    | 4, hq => cases hq; exact hKn4
    | 5, hq => cases hq; exact hKn5
    | 6, hq => cases hq; exact hKn6
    | 7, hq => cases hq; exact hKn7
    | 8, hq => cases hq; exact hKn8
    | 9, hq => cases hq; exact hKn9
    | 10, hq => cases hq; exact hKn10
    | 11, hq => cases hq; exact hKn11
    | 12, hq => cases hq; exact hKn12
    | 13, hq => cases hq; exact hKn13
    | 14, hq => cases hq; exact hKn14
    | 15, hq => cases hq; exact hKn15
    | k + 16, hq => simp at hq
  have hZ : Zz (fun q : Nat => s.heap.size ≤ q) s := ⟨vx_Zqof (hts (.laysStatic Bundle.tN "UNASSIGNED_STACK" Bundle.steD) (by decide +kernel)) (hts (.initialized Bundle.tN) (by decide +kernel)) (hfl (.isRef (.static Bundle.tN "UNASSIGNED_STACK" Bundle.steD)) (by decide +kernel)) hA0, vx_Zqof (hts (.laysStatic Bundle.tN "SUPPRESSED_SENTINEL" Bundle.listD) (by decide +kernel)) (hts (.initialized Bundle.tN) (by decide +kernel)) (hfl (.isRef (.static Bundle.tN "SUPPRESSED_SENTINEL" Bundle.listD)) (by decide +kernel)) hA0, fun E hE => va_Nw.of rfl (hts _ (st_ct E hE)), fun Y hY => va_Nw.of rfl (hts _ (st_dc Y hY))⟩
  have hY : Yy s := fun E hE G hG hn => va_Nc.of (hfl _ (st_nc E hE G hG hn))
  obtain ⟨adK, adV, hvS, hvR⟩ := vk_Sof (args := #[Value.ref b]) (s := s) (N := 4) (tm := tmS) (len := sLen) (byt := sByt) (A := fun q : Nat => s.heap.size ≤ q) (by decide) (fun i hi => hfl _ (st_ex i hi)) (fun i hi => hfl _ (st_co i hi)) (fun i hi => hfl _ (st_ar i hi)) (fun i hi => hfl _ (st_le i hi)) (fun i hi j hj => hfl _ (st_el i hi j hj)) (fun i j hi hj hn => (st_ne i hi j hj hn).elim (fun h => Or.inl (hfl _ h)) (fun h => Or.inr (hfl _ h))) hA0
  obtain ⟨tW, hW1, hW2⟩ := va_Tof (args := #[Value.ref b]) (s := s) (tm := .static "HeapWorks$Types" "WIDTH" "[I") (ty := .int) (N := 6) (f := fun j => .int (Ii (wdt j))) (A := fun q : Nat => s.heap.size ≤ q) (by decide) (hfl _ st_wa) (va_eqt (hfl _ st_wl)) (fun j hj => by
    have h9 := va_eqt (hfl _ (elW_0 _ (List.mem_map.mpr ⟨j, List.mem_range.mpr hj, rfl⟩)))
    have h8 : ∀ k, k < 6 → ([1, 1, 2, 4, 8, 4] : List Int32).getD k 0 = Ii (wdt k) := by decide
    rw [h8 j hj] at h9; exact h9) hA0
  have hWZ : va_Z "HeapWorks$Types" "WIDTH" "[I" (.ref tW) (fun q : Nat => s.heap.size ≤ q) s s.heap := va_Zof (hts (.laysStatic "HeapWorks$Types" "WIDTH" "[I") (gm_at tb_5 30 rfl)) (hts (.initialized RX10) (gm_at tb_1 7 rfl)) hW1 hA0
  have hCS : va_Z "java/lang/String" "COMPACT_STRINGS" "Z" (.int (Ii 1)) (fun q : Nat => s.heap.size ≤ q) s s.heap := va_Zof (hts (.laysStatic "java/lang/String" "COMPACT_STRINGS" "Z") (by decide +kernel)) (hts (.initialized "java/lang/String") (by decide +kernel)) (va_eqt (hfl (.eq (.static "java/lang/String" "COMPACT_STRINGS" "Z") (.int 1)) (by decide +kernel))) hA0
  have hFm : va_Zq "jdk/internal/util/Preconditions" "SIOOBE_FORMATTER" "Ljava/util/function/BiFunction;" (fun q : Nat => s.heap.size ≤ q) s s.heap := va_Zqof (hts (.laysStatic "jdk/internal/util/Preconditions" "SIOOBE_FORMATTER" "Ljava/util/function/BiFunction;") (by decide +kernel)) (hts (.initialized "jdk/internal/util/Preconditions") (by decide +kernel)) (hfl (.isRef (.static "jdk/internal/util/Preconditions" "SIOOBE_FORMATTER" "Ljava/util/function/BiFunction;")) (by decide +kernel)) hA0
  have hAP : va_AO "HeapWorks$Picture" s := va_AO.of (hts (.arrayOver (.object "HeapWorks$Picture")) (by decide +kernel))
  have hAG : va_AO "HeapWorks$Program" s := va_AO.of (hts (.arrayOver (.object "HeapWorks$Program")) (by decide +kernel))
  obtain ⟨cB, aB, nB⟩ := arr_K rfl (hts (.arrayClass .byte) (gm_at tb_1 152 rfl))
  obtain ⟨cI, aI, nI⟩ := arr_K rfl (hts (.arrayClass .int) (gm_at tb_1 150 rfl))
  obtain ⟨cJ, aJ, nJ⟩ := arr_K rfl (hts (.arrayClass .long) (gm_at tb_1 151 rfl))
  obtain ⟨cZ, aZ, nZ⟩ := arr_K rfl (hts (.arrayClass .boolean) (gm_at tb_1 232 rfl))
  obtain ⟨cP, aP, nP⟩ := arr_O hAP
  obtain ⟨cG, aG, nG⟩ := arr_O hAG
  obtain ⟨cy, e0, e1, e2, e3, e4, e5⟩ : ∃ cy : Nat → ClassId, cy 0 = cB ∧ cy 1 = cI ∧ cy 2 = cJ ∧ cy 3 = cZ ∧ cy 4 = cP ∧ cy 5 = cG := ⟨fun k => match k with | 0 => cB | 1 => cI | 2 => cJ | 3 => cZ | 4 => cP | _ => cG, rfl, rfl, rfl, rfl, rfl, rfl⟩
  subst e0; subst e1; subst e2; subst e3; subst e4; subst e5
  have hK : va_K (dC, dI) vwCl (tyC cy) s := by
    refine ⟨hKc, fun k q hq => ?_⟩
    match k, hq with
    | 0, hq => cases hq; exact ⟨aB, nB⟩
    | 1, hq => cases hq; exact ⟨aI, nI⟩
    | 2, hq => cases hq; exact ⟨aJ, nJ⟩
    | 3, hq => cases hq; exact ⟨aZ, nZ⟩
    | 4, hq => cases hq; exact ⟨aP, nP⟩
    | 5, hq => cases hq; exact ⟨aG, nG⟩
    | k + 6, hq => simp [tyC] at hq
  obtain ⟨ad, had, a0, a1, a2, a3, a4, a5, a6, a7, a8, a9⟩ : ∃ ad : Nat → Nat, (∀ k, k < 390 → ad k = s.heap.size + k) ∧ ad 900 = tW ∧ ad 901 = adK 3 ∧ ad 902 = adV 3 ∧ ad 903 = adK 0 ∧ ad 904 = adV 0 ∧ ad 905 = adK 1 ∧ ad 906 = adV 1 ∧ ad 907 = adK 2 ∧ ad 908 = adV 2 ∧ ad 910 = b := ⟨fun k => if k < 390 then s.heap.size + k else if k = 900 then tW else if k = 901 then adK 3 else if k = 902 then adV 3 else if k = 903 then adK 0 else if k = 904 then adV 0 else if k = 905 then adK 1 else if k = 906 then adV 1 else if k = 907 then adK 2 else if k = 908 then adV 2 else b, fun k hk => if_pos hk, rfl, rfl, rfl, rfl, rfl, rfl, rfl, rfl, rfl, rfl⟩
  have hsc : va_T .int b L (fun j => .int (Ii ((xs j).toInt))) (fun q : Nat => s.heap.size ≤ q) s s.heap := by
    obtain ⟨scr, h1, h2, h3, h4, h5⟩ := hX
    exact ⟨scr, h1, h2, h3, by omega, by rw [h4], fun j hj => (by show scr.slots[j]? = some (Value.int (Ii (xs j).toInt)); rw [Ii_of]; exact h5 j hj), hA0 b hbl⟩
  have k0 := hvS.1 0 (by decide)
  have k1 := hvS.1 1 (by decide)
  have k2 := hvS.1 2 (by decide)
  have k3 := hvS.1 3 (by decide)
  have hXt : XtB ad (fun j => (xs j).toInt) L (fun q : Nat => s.heap.size ≤ q) s := by
    refine ⟨⟨hZ, by rw [a0]; exact hWZ, by rw [a0]; exact hW2, ?_, by rw [a1]; exact k3.1, by rw [a1]; exact k3.2.1, by rw [a1, a2]; exact k3.2.2.1, by rw [a2, ← sby_3]; exact k3.2.2.2, hCS⟩, hY, ⟨?_, by rw [a3]; exact k0.1, by rw [a3]; exact k0.2.1, by rw [a3, a4]; exact k0.2.2.1, by rw [a4, ← sby_0]; exact k0.2.2.2⟩, ⟨?_, by rw [a5]; exact k1.1, by rw [a5]; exact k1.2.1, by rw [a5, a6]; exact k1.2.2.1, by rw [a6, ← sby_1]; exact k1.2.2.2⟩, ⟨?_, by rw [a7]; exact k2.1, by rw [a7]; exact k2.2.1, by rw [a7, a8]; exact k2.2.2.1, by rw [a8, ← sby_2]; exact k2.2.2.2⟩, hFm, hAP, hAG, by rw [a9]; exact hsc⟩
    · rw [a1]; exact vk_R.of (hts (.stringRef RX9 111 "()[],:;.=<>+-*/%") (by decide +kernel)) (hvR 3 (by decide))
    · rw [a3]; exact vk_R.of (hts (.stringRef RX9 31 "all own things thing where get and or not null true false is in count sum most least some each size kept depth length class slots held from it ") (by decide +kernel)) (hvR 0 (by decide))
    · rw [a5]; exact vk_R.of (hts (.stringRef RX7 15 "if") (by decide +kernel)) (hvR 1 (by decide))
    · rw [a7]; exact vk_R.of (hts (.stringRef RX7 27 "link") (by decide +kernel)) (hvR 2 (by decide))
  have hd9 : ∀ k, k < ksK.length → ad k = s.heap.size + k := fun k hk => had k (by rw [lnK] at hk; exact hk)
  have hownL : s.vm.findClass RL = some m.cls := hown
  have hOm : ∀ w ∈ Om, w.before #[Value.ref b] s = true := fun w h => hts w (Om_in w h)
  have hs0 : s.heap.size = s.heap.size + 0 := rfl
  have hb : c.code = cL_law := hb
  have hc : jKc p l e s m #[Value.ref b] below meth c (dC, dI) vwCl (tyC cy) cy ad ksK (XtB ad (fun j => (xs j).toInt) L) Om RL cL_law 8 s.heap.size 0 := ⟨hx, hb, hml, hownL, hOm, hK, tyC_ok cy, hd9, Om_good, XtB_ok ad _ L, hXt, rfl⟩
  have hty := tyC_ok cy
  have hl := lv_entry ([.ref b]) (n := 8) (Nat.le_of_ble_eq_true rfl)
  rw [lg_entry_eq]
  generalize (lg_sl ([.ref b]) ++ List.replicate (8 - (lg_sl ([.ref b])).length) Slot.unset).toArray = ls at hl ⊢
  have hl : lv_has ls 8 [(0, .ref (ad 910))] := by rw [a9]; exact hl
  have hf := M00_fr
  have hgo : jJ p l e s m #[Value.ref b] below meth c room_1 (dC, dI) vwCl cy ad ftB ksK 8 s.heap.size 0 (lw_Z below #[Value.ref b] s) 0 0 [(0, .ref (ad 910))] [] M00 := by
    have hO := kj_ok (rm := room_1) (ft := ftB) (Qs := lw_Z below #[Value.ref b] s) (i := 0) (rk := 5) (post := fun _ _ => True) hc (by rw [lnK]; decide) (Nat.le_of_ble_eq_true rfl) (jSl_b (by decide)) (Or.inl rfl)
    refine kj_new hx hb hOm hK hd9 hs0 hownL (n0 := 0) (i := 0) (n := 0) (i1 := 1) rfl rfl kK_0 nc_L_8 dL_law_0 (Nat.le_of_ble_eq_true rfl) (jSl_b (by decide)) hf ?_
    have hf := jFr_w (n' := 1) hf (by decide)
    have hO := kj_ok (rm := room_1) (ft := ftB) (Qs := lw_Z below #[Value.ref b] s) (i := 1) (rk := 5) (post := fun _ _ => True) hc (by rw [lnK]; decide) (Nat.le_of_ble_eq_true rfl) (jSl_b (by decide)) (Or.inl rfl)
    refine j_dup hO dL_law_3 rfl ?_
    refine kj_call hx hb hOm hK hd9 hs0 hml hownL Om_good (XtB_ok ad _ L) hXt (n0 := 0) (i := 1) (nn := 1) (i2 := 286) (c0 := 0) rfl rfl (c_X11_init_0 (l := l) (D := (dC, dI)) (cy := cy) (L := L) hd9) rfl om_2484 ⟨rfl, rfl, Nat.le_of_ble_eq_true rfl, Nat.le_of_ble_eq_true rfl⟩ [] ⟨om_2485, om_2486, om_854⟩ rfl hd_X11_init rfl (Nat.le_of_ble_eq_true rfl) dL_law_4 (by rw [lnK]; decide) (Nat.le_of_ble_eq_true rfl) (jSl_b (by decide)) (P := fun M1 => M1 = T_X11_init_0 _) ⟨rfl, hf, rfl⟩ (fun M1 e1 => ?_)
    subst e1
    have hf := fr_X11_init_0 (n := 286) (by decide) (jFr_w (n' := 286) hf (by decide))
    have hO := kj_ok (rm := room_1) (ft := ftB) (Qs := lw_Z below #[Value.ref b] s) (i := 286) (rk := 5) (post := fun _ _ => True) hc (by rw [lnK]; decide) (Nat.le_of_ble_eq_true rfl) (jSl_b (by decide)) (Or.inl rfl)
    refine j_astore_n (lv' := [(1, .ref (ad 0)), (0, .ref (ad 910))]) hO dL_law_7 rfl (by decide) rfl ?_
    refine kj_new hx hb hOm hK hd9 hs0 hownL (n0 := 0) (i := 286) (n := 286) (i1 := 287) rfl rfl kK_286 nc_L_117 dL_law_8 (Nat.le_of_ble_eq_true rfl) (jSl_b (by decide)) hf ?_
    have hf := jFr_w (n' := 287) hf (by decide)
    have hO := kj_ok (rm := room_1) (ft := ftB) (Qs := lw_Z below #[Value.ref b] s) (i := 287) (rk := 5) (post := fun _ _ => True) hc (by rw [lnK]; decide) (Nat.le_of_ble_eq_true rfl) (jSl_b (by decide)) (Or.inl rfl)
    refine j_dup hO dL_law_11 rfl ?_
    refine kj_call hx hb hOm hK hd9 hs0 hml hownL Om_good (XtB_ok ad _ L) hXt (n0 := 0) (i := 287) (nn := 287) (i2 := 389) (c0 := 286) rfl rfl (c_X12_init_286 (l := l) (D := (dC, dI)) (cy := cy) (L := L) hd9) rfl om_2487 ⟨rfl, rfl, Nat.le_of_ble_eq_true rfl, Nat.le_of_ble_eq_true rfl⟩ [] ⟨om_2488, om_2489, om_1040⟩ rfl hd_X12_init rfl (Nat.le_of_ble_eq_true rfl) dL_law_12 (by rw [lnK]; decide) (Nat.le_of_ble_eq_true rfl) (jSl_b (by decide)) (P := fun M1 => M1 = T_X12_init_286 _) ⟨rfl, hf, rfl⟩ (fun M1 e1 => ?_)
    subst e1
    have hf := fr_X12_init_286 (n := 389) (by decide) (jFr_w (n' := 389) hf (by decide))
    have hO := kj_ok (rm := room_1) (ft := ftB) (Qs := lw_Z below #[Value.ref b] s) (i := 389) (rk := 5) (post := fun _ _ => True) hc (by rw [lnK]; decide) (Nat.le_of_ble_eq_true rfl) (jSl_b (by decide)) (Or.inl rfl)
    refine j_astore_n (lv' := [(2, .ref (ad 286)), (1, .ref (ad 0)), (0, .ref (ad 910))]) hO dL_law_15 rfl (by decide) rfl ?_
    refine j_iconst hO dL_law_16 ?_
    refine kj_al hx hb hOm hK hd9 hs0 hty.2.2.1 (n0 := 0) (i := 389) (N := 1) (n := 389) (i1 := 390) rfl rfl kK_389 rfl (by decide) om_1622 dL_law_17 (Nat.le_of_ble_eq_true rfl) (jSl_b (by decide)) hf ?_
    have hO := kj_ok (rm := room_1) (ft := ftB) (Qs := lw_Z below #[Value.ref b] s) (i := 390) (rk := 5) (post := fun _ _ => True) hc (by rw [lnK]; decide) (Nat.le_of_ble_eq_true rfl) (jSl_b (by decide)) (Or.inl rfl)
    refine j_astore_n (lv' := [(3, .ref (ad 389)), (2, .ref (ad 286)), (1, .ref (ad 0)), (0, .ref (ad 910))]) hO dL_law_19 rfl (by decide) rfl ?_
    refine j_iconst hO dL_law_20 ?_
    refine j_istore (lv' := [(4, .int (Ii 0)), (3, .ref (ad 389)), (2, .ref (ad 286)), (1, .ref (ad 0)), (0, .ref (ad 910))]) hO dL_law_21 (by decide) rfl ?_
    intro hR H locs ls hP hS hl
    have eT : ksK.take (0 + 390) = ksK := List.take_of_length_le (by rw [lnK]; decide)
    rw [eT] at hR hP
    have hR9 : jRg ftJ ksK Mf := jRg_l hR
    have hE := LwE_ok (Qs := lw_Z below #[Value.ref b] s) hc
    have hin : jIn ad ksK.length := jIn_b hd9
    have eA : jA ad ksK.length s.heap.size = fun q => s.heap.size ≤ q := jA_b hd9 (Nat.le_refl _) (by omega)
    have hJ := lw_loop hst hin hE (fun j => Ii_rg (xs j)) hL (fun c0 s0 lv M h1 h2 hR H locs ls hP hS hl => ?_) 513 0 rfl Mf (InvL_0 hR9)
    · refine W.widen (k := 390 + 3 * 0) (n := 571600 + 18 * 0) (by omega) (by rw [jSl_390]; decide) ?_
      exact hJ hR9 H locs ls (by rw [jcs_l]; exact hP) (by rw [eA]; exact hS) (lv_sub hl [4, 3, 2, 1, 0] rfl)
    · rw [eA] at hS
      refine lv_iconst (v := 1) hx hb dL_law_3117 (by decide) ?_
      refine va_forget (fun q hq => hS.2.2 q hq) ?_
      refine W.widen (k := 601024) (n := 7293034) (by omega) (by omega) ?_
      exact lw_ret hx hb hr hlocks dL_law_3118
  have h9 := hgo M00_rg s.heap [] ls (fun k q h => by simp [jcs] at h) va_S.rf hl
  rw [show jSl ftB ksK (0 + 0) - jSl ftB ksK 0 = 0 from by simp] at h9
  exact h9
