set_option maxHeartbeats 4000000 in
set_option maxRecDepth 100000 in
theorem lc_20 {l : Launch} {D : va_G} {cy : Nat → ClassId} {ad : Nat → Nat} {xs : Nat → Int} {L : Nat} {J : Nat → Nat → Nat → List (Nat × Value) → List Value → MM → Prop} (hst : l.stackTraces = false) (hin : jIn ad ksK.length) (hE : LwE l D cy ad xs L J) (hxs : ∀ j, ri_ (xs j)) {n : Nat} (hn : n < 512) (hL : 6 * n + 6 ≤ L) {M : MM} (hI : InvL n M) (hnext : ∀ M1, InvL (n + 1) M1 → J (390 + 3 * (n + 1)) (571600 + 18 * (n + 1)) 3111 [(0, .ref (ad 910)), (1, .ref (ad 0)), (2, .ref (ad 286)), (3, .ref (ad 389)), (4, .int (Ii (6 * (n : Int))))] [] M1) : J (390 + 3 * n) (571600 + 18 * n) 1380 [(0, .ref (ad 910)), (1, .ref (ad 0)), (2, .ref (ad 286)), (3, .ref (ad 389)), (4, .int (Ii (6 * (n : Int))))] [] M := by
  have gi : ri_ (6 * (n : Int)) := by unfold ri_; omega
  obtain ⟨C, R, hR, hRC, hRR, hC, hRm⟩ := hI
  have hO := hE.1 (390 + 3 * n) (571600 + 18 * n) (by omega) (by omega)
  refine j_aload_n hO dL_law_1380 rfl 1 rfl ?_
  refine j_aload_n hO dL_law_1381 rfl 0 rfl ?_
  refine j_iload hO dL_law_1382 4 rfl ?_
  refine j_iconst hO dL_law_1384 ?_
  refine j_iadd hO dL_law_1385 ?_
  refine j_ti hO XtB_sc (by unfold ri_; omega) (by omega) (by omega) dL_law_1386 ?_
  refine j_aload_n hO dL_law_1387 rfl 0 rfl ?_
  refine j_iload hO dL_law_1388 4 rfl ?_
  refine j_iconst hO dL_law_1390 ?_
  refine j_iadd hO dL_law_1391 ?_
  refine j_ti hO XtB_sc (by unfold ri_; omega) (by omega) (by omega) dL_law_1392 ?_
  by_cases zz : (xs ((6 * (n : Int)) + 2).toNat) = 0
  · refine j_if_eq hO 1400 (hxs _) dL_law_1393 (by decide) (fun _ => ?_) (fun z => absurd zz z)
    refine j_iconst hO dL_law_1400 ?_
    obtain ⟨Q1, hw1, h2⟩ := v_apart (p1 := (xs ((6 * (n : Int)) + 1).toNat)) (p2 := 0) (by omega) (by omega) hR
    refine j_callVz hO (lfC hin (c_X11_apart (l := l) (D := D) (cy := cy) (ad := ad) (jIn_w hin))) rfl om_2254 ⟨rfl, rfl, Nat.le_of_ble_eq_true rfl, Nat.le_of_ble_eq_true rfl⟩ [.int (Ii (xs ((6 * (n : Int)) + 1).toNat)), .int (Ii 0)] mv_L_204 hd_X11_apartv kK_0 rfl rfl rfl (Nat.le_of_ble_eq_true rfl) dL_law_1401 (P := fun r M1 => ∃ C', jRg ftC ksC C' ∧ Q1 r C' ∧ M1 = jUp 286 C' M) ⟨C, Q1, hC, hRC, ⟨(xs ((6 * (n : Int)) + 1).toNat), 0, rfl, (hxs _), (by decide), hw1⟩, fun r C' a b => ⟨C', a, b, rfl⟩⟩ (fun ra M1 gra q => ?_)
    obtain ⟨C', hRC', hq, rfl⟩ := q
    obtain ⟨Q0, hw2, h3⟩ := h2 _ C' hq
    refine j_aload_n hO dL_law_1404 rfl 2 rfl ?_
    refine j_aload_n hO dL_law_1405 rfl 0 rfl ?_
    refine j_iload hO dL_law_1406 4 rfl ?_
    refine j_iconst hO dL_law_1408 ?_
    refine j_iadd hO dL_law_1409 ?_
    refine j_ti hO XtB_sc (by unfold ri_; omega) (by omega) (by omega) dL_law_1410 ?_
    refine j_aload_n hO dL_law_1411 rfl 0 rfl ?_
    refine j_iload hO dL_law_1412 4 rfl ?_
    refine j_iconst hO dL_law_1414 ?_
    refine j_iadd hO dL_law_1415 ?_
    refine j_ti hO XtB_sc (by unfold ri_; omega) (by omega) (by omega) dL_law_1416 ?_
    refine j_if_eq hO 1424 (hxs _) dL_law_1417 (by decide) (fun _ => ?_) (fun z => absurd zz z)
    refine j_iconst hO dL_law_1424 ?_
    refine j_callVz hO (lfR hin (c_X12_apart (l := l) (D := D) (cy := cy) (ad := fun c => ad (286 + c)) (jIn_R hin))) rfl om_2258 ⟨rfl, rfl, Nat.le_of_ble_eq_true rfl, Nat.le_of_ble_eq_true rfl⟩ [.int (Ii (xs ((6 * (n : Int)) + 1).toNat)), .int (Ii 0)] mv_L_208 hd_X12_apartv kK_286 rfl rfl rfl (Nat.le_of_ble_eq_true rfl) dL_law_1425 (P := fun r M1 => ∃ R', jRg ftR ksR R' ∧ Q0 r R' ∧ M1 = jUpO 286 103 R' (jUp 286 C' M)) ⟨R, Q0, (jUp_R hRm), hRR, ⟨(xs ((6 * (n : Int)) + 1).toNat), 0, rfl, (hxs _), (by decide), hw2⟩, fun r R' a b => ⟨R', a, b, rfl⟩⟩ (fun rb M2 grb q => ?_)
    obtain ⟨R', hRR', hq, rfl⟩ := q
    obtain ⟨q1, hRal⟩ := h3 _ R' hq
    refine j_icmp_eq hO 3111 (jz_ri gra) (jz_ri grb) dL_law_1428 (by decide) (fun _ => ?_) (fun z => absurd (by exact q1) z)
    exact j_sub hO [0, 1, 2, 3, 4] rfl (hE.2.2 _ _ _ _ _ _ _ _ (by omega) (by omega) (hnext _ (InvL_n hRal hRC' hRR' (fun c hc => jUpO_lo hc) (fun c hc => jUpO_R hc))))
  · refine j_if_eq hO 1400 (hxs _) dL_law_1393 (by decide) (fun z => absurd z zz) (fun _ => ?_)
    refine j_iconst hO dL_law_1396 ?_
    refine j_goto hO 1401 dL_law_1397 (by decide) ?_
    obtain ⟨Q1, hw1, h2⟩ := v_apart (p1 := (xs ((6 * (n : Int)) + 1).toNat)) (p2 := 1) (by omega) (by omega) hR
    refine j_callVz hO (lfC hin (c_X11_apart (l := l) (D := D) (cy := cy) (ad := ad) (jIn_w hin))) rfl om_2254 ⟨rfl, rfl, Nat.le_of_ble_eq_true rfl, Nat.le_of_ble_eq_true rfl⟩ [.int (Ii (xs ((6 * (n : Int)) + 1).toNat)), .int (Ii 1)] mv_L_204 hd_X11_apartv kK_0 rfl rfl rfl (Nat.le_of_ble_eq_true rfl) dL_law_1401 (P := fun r M1 => ∃ C', jRg ftC ksC C' ∧ Q1 r C' ∧ M1 = jUp 286 C' M) ⟨C, Q1, hC, hRC, ⟨(xs ((6 * (n : Int)) + 1).toNat), 1, rfl, (hxs _), (by decide), hw1⟩, fun r C' a b => ⟨C', a, b, rfl⟩⟩ (fun ra M1 gra q => ?_)
    obtain ⟨C', hRC', hq, rfl⟩ := q
    obtain ⟨Q0, hw2, h3⟩ := h2 _ C' hq
    refine j_aload_n hO dL_law_1404 rfl 2 rfl ?_
    refine j_aload_n hO dL_law_1405 rfl 0 rfl ?_
    refine j_iload hO dL_law_1406 4 rfl ?_
    refine j_iconst hO dL_law_1408 ?_
    refine j_iadd hO dL_law_1409 ?_
    refine j_ti hO XtB_sc (by unfold ri_; omega) (by omega) (by omega) dL_law_1410 ?_
    refine j_aload_n hO dL_law_1411 rfl 0 rfl ?_
    refine j_iload hO dL_law_1412 4 rfl ?_
    refine j_iconst hO dL_law_1414 ?_
    refine j_iadd hO dL_law_1415 ?_
    refine j_ti hO XtB_sc (by unfold ri_; omega) (by omega) (by omega) dL_law_1416 ?_
    refine j_if_eq hO 1424 (hxs _) dL_law_1417 (by decide) (fun z => absurd z zz) (fun _ => ?_)
    refine j_iconst hO dL_law_1420 ?_
    refine j_goto hO 1425 dL_law_1421 (by decide) ?_
    refine j_callVz hO (lfR hin (c_X12_apart (l := l) (D := D) (cy := cy) (ad := fun c => ad (286 + c)) (jIn_R hin))) rfl om_2258 ⟨rfl, rfl, Nat.le_of_ble_eq_true rfl, Nat.le_of_ble_eq_true rfl⟩ [.int (Ii (xs ((6 * (n : Int)) + 1).toNat)), .int (Ii 1)] mv_L_208 hd_X12_apartv kK_286 rfl rfl rfl (Nat.le_of_ble_eq_true rfl) dL_law_1425 (P := fun r M1 => ∃ R', jRg ftR ksR R' ∧ Q0 r R' ∧ M1 = jUpO 286 103 R' (jUp 286 C' M)) ⟨R, Q0, (jUp_R hRm), hRR, ⟨(xs ((6 * (n : Int)) + 1).toNat), 1, rfl, (hxs _), (by decide), hw2⟩, fun r R' a b => ⟨R', a, b, rfl⟩⟩ (fun rb M2 grb q => ?_)
    obtain ⟨R', hRR', hq, rfl⟩ := q
    obtain ⟨q1, hRal⟩ := h3 _ R' hq
    refine j_icmp_eq hO 3111 (jz_ri gra) (jz_ri grb) dL_law_1428 (by decide) (fun _ => ?_) (fun z => absurd (by exact q1) z)
    exact j_sub hO [0, 1, 2, 3, 4] rfl (hE.2.2 _ _ _ _ _ _ _ _ (by omega) (by omega) (hnext _ (InvL_n hRal hRC' hRR' (fun c hc => jUpO_lo hc) (fun c hc => jUpO_R hc))))
set_option maxHeartbeats 4000000 in
set_option maxRecDepth 100000 in
theorem lc_21 {l : Launch} {D : va_G} {cy : Nat → ClassId} {ad : Nat → Nat} {xs : Nat → Int} {L : Nat} {J : Nat → Nat → Nat → List (Nat × Value) → List Value → MM → Prop} (hst : l.stackTraces = false) (hin : jIn ad ksK.length) (hE : LwE l D cy ad xs L J) (hxs : ∀ j, ri_ (xs j)) {n : Nat} (hn : n < 512) (hL : 6 * n + 6 ≤ L) {M : MM} (hI : InvL n M) (hnext : ∀ M1, InvL (n + 1) M1 → J (390 + 3 * (n + 1)) (571600 + 18 * (n + 1)) 3111 [(0, .ref (ad 910)), (1, .ref (ad 0)), (2, .ref (ad 286)), (3, .ref (ad 389)), (4, .int (Ii (6 * (n : Int))))] [] M1) : J (390 + 3 * n) (571600 + 18 * n) 1433 [(0, .ref (ad 910)), (1, .ref (ad 0)), (2, .ref (ad 286)), (3, .ref (ad 389)), (4, .int (Ii (6 * (n : Int))))] [] M := by
  have gi : ri_ (6 * (n : Int)) := by unfold ri_; omega
  obtain ⟨C, R, hR, hRC, hRR, hC, hRm⟩ := hI
  have hO := hE.1 (390 + 3 * n) (571600 + 18 * n) (by omega) (by omega)
  refine j_aload_n hO dL_law_1433 rfl 1 rfl ?_
  refine j_aload_n hO dL_law_1434 rfl 0 rfl ?_
  refine j_iload hO dL_law_1435 4 rfl ?_
  refine j_iconst hO dL_law_1437 ?_
  refine j_iadd hO dL_law_1438 ?_
  refine j_ti hO XtB_sc (by unfold ri_; omega) (by omega) (by omega) dL_law_1439 ?_
  refine j_aload_n hO dL_law_1440 rfl 0 rfl ?_
  refine j_iload hO dL_law_1441 4 rfl ?_
  refine j_iconst hO dL_law_1443 ?_
  refine j_iadd hO dL_law_1444 ?_
  refine j_ti hO XtB_sc (by unfold ri_; omega) (by omega) (by omega) dL_law_1445 ?_
  refine j_aload_n hO dL_law_1446 rfl 0 rfl ?_
  refine j_iload hO dL_law_1447 4 rfl ?_
  refine j_iconst hO dL_law_1449 ?_
  refine j_iadd hO dL_law_1450 ?_
  refine j_ti hO XtB_sc (by unfold ri_; omega) (by omega) (by omega) dL_law_1451 ?_
  refine j_aload_n hO dL_law_1452 rfl 3 rfl ?_
  obtain ⟨Q1, X1, hw1, h2, h4⟩ := v_watch (p1 := (xs ((6 * (n : Int)) + 1).toNat)) (p2 := (xs ((6 * (n : Int)) + 2).toNat)) (p3 := (xs ((6 * (n : Int)) + 3).toNat)) (by omega) (by omega) hR
  have hWL : WL_watch ad (fun r M1 => ∃ C', jRg ftC ksC C' ∧ ((∃ r1, r = 0 ∧ Q1 r1 C' ∧ M1 = (ux_ (jUp 286 C' M) 389 0 r1)) ∨ (r = 1 ∧ X1 "java/util/NoSuchElementException" C' ∧ M1 = jUp 286 C' M) ∨ (r = 2 ∧ X1 "java/lang/IllegalArgumentException" C' ∧ M1 = jUp 286 C' M) ∨ (r = 3 ∧ X1 "java/lang/IllegalStateException" C' ∧ M1 = jUp 286 C' M))) [.ref (ad 0), .int (Ii (xs ((6 * (n : Int)) + 1).toNat)), .int (Ii (xs ((6 * (n : Int)) + 2).toNat)), .int (Ii (xs ((6 * (n : Int)) + 3).toNat)), .ref (ad 389)] M := by
    refine ⟨(xs ((6 * (n : Int)) + 1).toNat), (xs ((6 * (n : Int)) + 2).toNat), (xs ((6 * (n : Int)) + 3).toNat), rfl, (hxs _), (hxs _), (hxs _), ⟨C, Q1, X1, hC, hRC, hw1, fun r1 C' a b => ⟨C', a, Or.inl ⟨r1, rfl, b, rfl⟩⟩, fun E C' a m b => ?_⟩⟩
    simp only [List.mem_cons, List.not_mem_nil, or_false] at m
    rcases m with rfl | rfl | rfl
    · exact Or.inr (Or.inl ⟨rfl, C', a, Or.inr (Or.inr (Or.inl ⟨rfl, b, rfl⟩))⟩)
    · exact Or.inr (Or.inr (⟨rfl, C', a, Or.inr (Or.inr (Or.inr (⟨rfl, b, rfl⟩)))⟩))
    · exact Or.inl ⟨rfl, C', a, Or.inr (Or.inl ⟨rfl, b, rfl⟩)⟩
  refine hE.2.1 _ _ 1 6 (by omega) (by omega) _ _ _ _ _ _ _ _ _ _ _ [.ref (ad 0), .int (Ii (xs ((6 * (n : Int)) + 1).toNat)), .int (Ii (xs ((6 * (n : Int)) + 2).toNat)), .int (Ii (xs ((6 * (n : Int)) + 3).toNat)), .ref (ad 389)] _ _ _ (cl_watch (l := l) (D := D) (cy := cy) (xs := xs) (L := L) hst hin) rfl om_2262 ⟨rfl, rfl, Nat.le_of_ble_eq_true rfl, Nat.le_of_ble_eq_true rfl⟩ mv_L_209 hd_L_watch rfl (Nat.le_of_ble_eq_true rfl) dL_law_1453 hWL (fun rk1 M1 grk q => ?_)
  have hO := hE.1 (390 + 3 * n + 1) (571600 + 18 * n + 6) (by omega) (by omega)
  obtain ⟨C', hRC', q⟩ := q
  rcases q with ⟨r1, rfl, hq, rfl⟩ | ⟨rfl, hq, rfl⟩ | ⟨rfl, hq, rfl⟩ | ⟨rfl, hq, rfl⟩
  · obtain ⟨Q0, hw2, h3⟩ := h2 _ C' hq
    refine j_istore (lv' := [(5, .int (Ii 0)), (0, .ref (ad 910)), (1, .ref (ad 0)), (2, .ref (ad 286)), (3, .ref (ad 389)), (4, .int (Ii (6 * (n : Int))))]) hO dL_law_1456 (by decide) rfl ?_
    refine j_aload_n hO dL_law_1458 rfl 3 rfl ?_
    refine j_aload_n hO dL_law_1459 rfl 1 rfl ?_
    refine j_iload hO dL_law_1460 5 rfl ?_
    refine j_iconst hO dL_law_1462 ?_
    refine j_iadd hO dL_law_1463 ?_
    refine j_ti hO XtB_sc (by unfold ri_; omega) (by omega) (by omega) dL_law_1464 ?_
    refine j_aload_n hO dL_law_1465 rfl 1 rfl ?_
    refine j_iload hO dL_law_1466 5 rfl ?_
    refine j_iconst hO dL_law_1468 ?_
    refine j_iadd hO dL_law_1469 ?_
    refine j_ti hO XtB_sc (by unfold ri_; omega) (by omega) (by omega) dL_law_1470 ?_
    refine j_aload_n hO dL_law_1471 rfl 1 rfl ?_
    refine j_iload hO dL_law_1472 5 rfl ?_
    refine j_iconst hO dL_law_1474 ?_
    refine j_iadd hO dL_law_1475 ?_
    refine j_ti hO XtB_sc (by unfold ri_; omega) (by omega) (by omega) dL_law_1476 ?_
    refine j_callVi hO (lfR hin (c_X12_watch (l := l) (D := D) (cy := cy) (ad := fun c => ad (286 + c)) (jIn_R hin))) rfl om_2265 ⟨rfl, rfl, Nat.le_of_ble_eq_true rfl, Nat.le_of_ble_eq_true rfl⟩ [.int (Ii (xs ((6 * (n : Int)) + 1).toNat)), .int (Ii (xs ((6 * (n : Int)) + 2).toNat)), .int (Ii (xs ((6 * (n : Int)) + 3).toNat))] mv_L_212 hd_X12_watchv kK_286 rfl rfl rfl (Nat.le_of_ble_eq_true rfl) dL_law_1477 (P := fun r M1 => ∃ R', jRg ftR ksR R' ∧ Q0 r R' ∧ M1 = jUpO 286 103 R' (ux_ (jUp 286 C' M) 389 0 r1)) ⟨R, Q0, (jUp_U hRm), hRR, ⟨(xs ((6 * (n : Int)) + 1).toNat), (xs ((6 * (n : Int)) + 2).toNat), (xs ((6 * (n : Int)) + 3).toNat), rfl, (hxs _), (hxs _), (hxs _), hw2⟩, fun r R' a b => ⟨R', a, b, rfl⟩⟩ (fun rb M2 grb q => ?_)
    obtain ⟨R', hRR', hq, rfl⟩ := q
    obtain ⟨q1, q0, hRal⟩ := h3 _ R' hq
    refine j_istore (lv' := [(6, .int (Ii rb)), (5, .int (Ii 0)), (0, .ref (ad 910)), (1, .ref (ad 0)), (2, .ref (ad 286)), (3, .ref (ad 389)), (4, .int (Ii (6 * (n : Int))))]) hO dL_law_1480 (by decide) rfl ?_
    refine j_aload_n hO dL_law_1482 rfl 4 rfl ?_
    refine j_callVi hO (lfR hin (c_X12_thrown (l := l) (D := D) (cy := cy) (ad := fun c => ad (286 + c)) (jIn_R hin))) rfl om_2146 ⟨rfl, rfl, Nat.le_of_ble_eq_true rfl, Nat.le_of_ble_eq_true rfl⟩ [] mv_L_149 hd_X12_thrownv kK_286 rfl rfl rfl (Nat.le_of_ble_eq_true rfl) dL_law_1483 (P := fun r M1 => r = R' 0 0 ∧ M1 = jUpO 286 103 R' (ux_ (jUp 286 C' M) 389 0 r1)) ⟨R', fun v M' => v = R' 0 0 ∧ M' = R', fun c hc => jUpO_R hc, hRR', ⟨rfl, fun v e1 _ => ⟨e1, rfl⟩⟩, fun r C9 _ b => ⟨b.1, by rw [b.2]; exact jUpO_i⟩⟩ (fun rt M3 grt q => ?_)
    obtain ⟨ert, rfl⟩ := q
    refine j_iload hO dL_law_1486 1 rfl ?_
    refine j_icmp_eq hO 1493 grt rk_0 dL_law_1488 (by decide) (fun _ => ?_) (fun z => absurd (by exact (ert.trans q0)) z)
    refine j_iload hO dL_law_1493 1 rfl ?_
    refine j_if_ne hO 1510 rk_0 dL_law_1495 (by decide) (fun z => absurd z (by decide)) (fun _ => ?_)
    refine j_aload_n hO dL_law_1498 rfl 5 rfl ?_
    refine j_iconst hO dL_law_1499 ?_
    refine j_lald hO rk_0 kK_389 (by decide) (by decide) dL_law_1500 (fun v1500 ev1500 gv1500 => ?_)
    refine j_iload hO dL_law_1501 0 rfl ?_
    refine j_i2l hO grb dL_law_1503 ?_
    refine j_lcmp_eq hO 1510 gv1500 (rl_ri grb) dL_law_1504 dL_law_1505 (by decide) (fun _ => ?_) (fun z => absurd (by rw [ev1500]; exact (jUpO_o 389 (by decide)).trans ((ux_s _ _ _ _).trans q1)) z)
    refine j_goto hO 3111 dL_law_1510 (by decide) ?_
    exact j_sub hO [2, 3, 4, 5, 6] rfl (hE.2.2 _ _ _ _ _ _ _ _ (by omega) (by omega) (hnext _ (InvL_n hRal hRC' hRR' (fun c hc => jUpO_lu hc) (fun c hc => jUpO_R hc))))
  · obtain ⟨Q0, hw2, h3⟩ := h4 _ C' hq
    refine j_istore (lv' := [(5, .int (Ii 1)), (0, .ref (ad 910)), (1, .ref (ad 0)), (2, .ref (ad 286)), (3, .ref (ad 389)), (4, .int (Ii (6 * (n : Int))))]) hO dL_law_1456 (by decide) rfl ?_
    refine j_aload_n hO dL_law_1458 rfl 3 rfl ?_
    refine j_aload_n hO dL_law_1459 rfl 1 rfl ?_
    refine j_iload hO dL_law_1460 5 rfl ?_
    refine j_iconst hO dL_law_1462 ?_
    refine j_iadd hO dL_law_1463 ?_
    refine j_ti hO XtB_sc (by unfold ri_; omega) (by omega) (by omega) dL_law_1464 ?_
    refine j_aload_n hO dL_law_1465 rfl 1 rfl ?_
    refine j_iload hO dL_law_1466 5 rfl ?_
    refine j_iconst hO dL_law_1468 ?_
    refine j_iadd hO dL_law_1469 ?_
    refine j_ti hO XtB_sc (by unfold ri_; omega) (by omega) (by omega) dL_law_1470 ?_
    refine j_aload_n hO dL_law_1471 rfl 1 rfl ?_
    refine j_iload hO dL_law_1472 5 rfl ?_
    refine j_iconst hO dL_law_1474 ?_
    refine j_iadd hO dL_law_1475 ?_
    refine j_ti hO XtB_sc (by unfold ri_; omega) (by omega) (by omega) dL_law_1476 ?_
    refine j_callVi hO (lfR hin (c_X12_watch (l := l) (D := D) (cy := cy) (ad := fun c => ad (286 + c)) (jIn_R hin))) rfl om_2265 ⟨rfl, rfl, Nat.le_of_ble_eq_true rfl, Nat.le_of_ble_eq_true rfl⟩ [.int (Ii (xs ((6 * (n : Int)) + 1).toNat)), .int (Ii (xs ((6 * (n : Int)) + 2).toNat)), .int (Ii (xs ((6 * (n : Int)) + 3).toNat))] mv_L_212 hd_X12_watchv kK_286 rfl rfl rfl (Nat.le_of_ble_eq_true rfl) dL_law_1477 (P := fun r M1 => ∃ R', jRg ftR ksR R' ∧ Q0 r R' ∧ M1 = jUpO 286 103 R' (jUp 286 C' M)) ⟨R, Q0, (jUp_R hRm), hRR, ⟨(xs ((6 * (n : Int)) + 1).toNat), (xs ((6 * (n : Int)) + 2).toNat), (xs ((6 * (n : Int)) + 3).toNat), rfl, (hxs _), (hxs _), (hxs _), hw2⟩, fun r R' a b => ⟨R', a, b, rfl⟩⟩ (fun rb M2 grb q => ?_)
    obtain ⟨R', hRR', hq, rfl⟩ := q
    obtain ⟨q0, hRal⟩ := h3 _ R' hq
    refine j_istore (lv' := [(6, .int (Ii rb)), (5, .int (Ii 1)), (0, .ref (ad 910)), (1, .ref (ad 0)), (2, .ref (ad 286)), (3, .ref (ad 389)), (4, .int (Ii (6 * (n : Int))))]) hO dL_law_1480 (by decide) rfl ?_
    refine j_aload_n hO dL_law_1482 rfl 4 rfl ?_
    refine j_callVi hO (lfR hin (c_X12_thrown (l := l) (D := D) (cy := cy) (ad := fun c => ad (286 + c)) (jIn_R hin))) rfl om_2146 ⟨rfl, rfl, Nat.le_of_ble_eq_true rfl, Nat.le_of_ble_eq_true rfl⟩ [] mv_L_149 hd_X12_thrownv kK_286 rfl rfl rfl (Nat.le_of_ble_eq_true rfl) dL_law_1483 (P := fun r M1 => r = R' 0 0 ∧ M1 = jUpO 286 103 R' (jUp 286 C' M)) ⟨R', fun v M' => v = R' 0 0 ∧ M' = R', fun c hc => jUpO_R hc, hRR', ⟨rfl, fun v e1 _ => ⟨e1, rfl⟩⟩, fun r C9 _ b => ⟨b.1, by rw [b.2]; exact jUpO_i⟩⟩ (fun rt M3 grt q => ?_)
    obtain ⟨ert, rfl⟩ := q
    refine j_iload hO dL_law_1486 1 rfl ?_
    refine j_icmp_eq hO 1493 grt rk_1 dL_law_1488 (by decide) (fun _ => ?_) (fun z => absurd (by exact (ert.trans (by simpa using q0))) z)
    refine j_iload hO dL_law_1493 1 rfl ?_
    refine j_if_ne hO 1510 rk_1 dL_law_1495 (by decide) (fun _ => ?_) (fun z => absurd z (by decide))
    refine j_goto hO 3111 dL_law_1510 (by decide) ?_
    exact j_sub hO [2, 3, 4, 5, 6] rfl (hE.2.2 _ _ _ _ _ _ _ _ (by omega) (by omega) (hnext _ (InvL_n hRal hRC' hRR' (fun c hc => jUpO_lo hc) (fun c hc => jUpO_R hc))))
  · obtain ⟨Q0, hw2, h3⟩ := h4 _ C' hq
    refine j_istore (lv' := [(5, .int (Ii 2)), (0, .ref (ad 910)), (1, .ref (ad 0)), (2, .ref (ad 286)), (3, .ref (ad 389)), (4, .int (Ii (6 * (n : Int))))]) hO dL_law_1456 (by decide) rfl ?_
    refine j_aload_n hO dL_law_1458 rfl 3 rfl ?_
    refine j_aload_n hO dL_law_1459 rfl 1 rfl ?_
    refine j_iload hO dL_law_1460 5 rfl ?_
    refine j_iconst hO dL_law_1462 ?_
    refine j_iadd hO dL_law_1463 ?_
    refine j_ti hO XtB_sc (by unfold ri_; omega) (by omega) (by omega) dL_law_1464 ?_
    refine j_aload_n hO dL_law_1465 rfl 1 rfl ?_
    refine j_iload hO dL_law_1466 5 rfl ?_
    refine j_iconst hO dL_law_1468 ?_
    refine j_iadd hO dL_law_1469 ?_
    refine j_ti hO XtB_sc (by unfold ri_; omega) (by omega) (by omega) dL_law_1470 ?_
    refine j_aload_n hO dL_law_1471 rfl 1 rfl ?_
    refine j_iload hO dL_law_1472 5 rfl ?_
    refine j_iconst hO dL_law_1474 ?_
    refine j_iadd hO dL_law_1475 ?_
    refine j_ti hO XtB_sc (by unfold ri_; omega) (by omega) (by omega) dL_law_1476 ?_
    refine j_callVi hO (lfR hin (c_X12_watch (l := l) (D := D) (cy := cy) (ad := fun c => ad (286 + c)) (jIn_R hin))) rfl om_2265 ⟨rfl, rfl, Nat.le_of_ble_eq_true rfl, Nat.le_of_ble_eq_true rfl⟩ [.int (Ii (xs ((6 * (n : Int)) + 1).toNat)), .int (Ii (xs ((6 * (n : Int)) + 2).toNat)), .int (Ii (xs ((6 * (n : Int)) + 3).toNat))] mv_L_212 hd_X12_watchv kK_286 rfl rfl rfl (Nat.le_of_ble_eq_true rfl) dL_law_1477 (P := fun r M1 => ∃ R', jRg ftR ksR R' ∧ Q0 r R' ∧ M1 = jUpO 286 103 R' (jUp 286 C' M)) ⟨R, Q0, (jUp_R hRm), hRR, ⟨(xs ((6 * (n : Int)) + 1).toNat), (xs ((6 * (n : Int)) + 2).toNat), (xs ((6 * (n : Int)) + 3).toNat), rfl, (hxs _), (hxs _), (hxs _), hw2⟩, fun r R' a b => ⟨R', a, b, rfl⟩⟩ (fun rb M2 grb q => ?_)
    obtain ⟨R', hRR', hq, rfl⟩ := q
    obtain ⟨q0, hRal⟩ := h3 _ R' hq
    refine j_istore (lv' := [(6, .int (Ii rb)), (5, .int (Ii 2)), (0, .ref (ad 910)), (1, .ref (ad 0)), (2, .ref (ad 286)), (3, .ref (ad 389)), (4, .int (Ii (6 * (n : Int))))]) hO dL_law_1480 (by decide) rfl ?_
    refine j_aload_n hO dL_law_1482 rfl 4 rfl ?_
    refine j_callVi hO (lfR hin (c_X12_thrown (l := l) (D := D) (cy := cy) (ad := fun c => ad (286 + c)) (jIn_R hin))) rfl om_2146 ⟨rfl, rfl, Nat.le_of_ble_eq_true rfl, Nat.le_of_ble_eq_true rfl⟩ [] mv_L_149 hd_X12_thrownv kK_286 rfl rfl rfl (Nat.le_of_ble_eq_true rfl) dL_law_1483 (P := fun r M1 => r = R' 0 0 ∧ M1 = jUpO 286 103 R' (jUp 286 C' M)) ⟨R', fun v M' => v = R' 0 0 ∧ M' = R', fun c hc => jUpO_R hc, hRR', ⟨rfl, fun v e1 _ => ⟨e1, rfl⟩⟩, fun r C9 _ b => ⟨b.1, by rw [b.2]; exact jUpO_i⟩⟩ (fun rt M3 grt q => ?_)
    obtain ⟨ert, rfl⟩ := q
    refine j_iload hO dL_law_1486 1 rfl ?_
    refine j_icmp_eq hO 1493 grt rk_2 dL_law_1488 (by decide) (fun _ => ?_) (fun z => absurd (by exact (ert.trans (by simpa using q0))) z)
    refine j_iload hO dL_law_1493 1 rfl ?_
    refine j_if_ne hO 1510 rk_2 dL_law_1495 (by decide) (fun _ => ?_) (fun z => absurd z (by decide))
    refine j_goto hO 3111 dL_law_1510 (by decide) ?_
    exact j_sub hO [2, 3, 4, 5, 6] rfl (hE.2.2 _ _ _ _ _ _ _ _ (by omega) (by omega) (hnext _ (InvL_n hRal hRC' hRR' (fun c hc => jUpO_lo hc) (fun c hc => jUpO_R hc))))
  · obtain ⟨Q0, hw2, h3⟩ := h4 _ C' hq
    refine j_istore (lv' := [(5, .int (Ii 3)), (0, .ref (ad 910)), (1, .ref (ad 0)), (2, .ref (ad 286)), (3, .ref (ad 389)), (4, .int (Ii (6 * (n : Int))))]) hO dL_law_1456 (by decide) rfl ?_
    refine j_aload_n hO dL_law_1458 rfl 3 rfl ?_
    refine j_aload_n hO dL_law_1459 rfl 1 rfl ?_
    refine j_iload hO dL_law_1460 5 rfl ?_
    refine j_iconst hO dL_law_1462 ?_
    refine j_iadd hO dL_law_1463 ?_
    refine j_ti hO XtB_sc (by unfold ri_; omega) (by omega) (by omega) dL_law_1464 ?_
    refine j_aload_n hO dL_law_1465 rfl 1 rfl ?_
    refine j_iload hO dL_law_1466 5 rfl ?_
    refine j_iconst hO dL_law_1468 ?_
    refine j_iadd hO dL_law_1469 ?_
    refine j_ti hO XtB_sc (by unfold ri_; omega) (by omega) (by omega) dL_law_1470 ?_
    refine j_aload_n hO dL_law_1471 rfl 1 rfl ?_
    refine j_iload hO dL_law_1472 5 rfl ?_
    refine j_iconst hO dL_law_1474 ?_
    refine j_iadd hO dL_law_1475 ?_
    refine j_ti hO XtB_sc (by unfold ri_; omega) (by omega) (by omega) dL_law_1476 ?_
    refine j_callVi hO (lfR hin (c_X12_watch (l := l) (D := D) (cy := cy) (ad := fun c => ad (286 + c)) (jIn_R hin))) rfl om_2265 ⟨rfl, rfl, Nat.le_of_ble_eq_true rfl, Nat.le_of_ble_eq_true rfl⟩ [.int (Ii (xs ((6 * (n : Int)) + 1).toNat)), .int (Ii (xs ((6 * (n : Int)) + 2).toNat)), .int (Ii (xs ((6 * (n : Int)) + 3).toNat))] mv_L_212 hd_X12_watchv kK_286 rfl rfl rfl (Nat.le_of_ble_eq_true rfl) dL_law_1477 (P := fun r M1 => ∃ R', jRg ftR ksR R' ∧ Q0 r R' ∧ M1 = jUpO 286 103 R' (jUp 286 C' M)) ⟨R, Q0, (jUp_R hRm), hRR, ⟨(xs ((6 * (n : Int)) + 1).toNat), (xs ((6 * (n : Int)) + 2).toNat), (xs ((6 * (n : Int)) + 3).toNat), rfl, (hxs _), (hxs _), (hxs _), hw2⟩, fun r R' a b => ⟨R', a, b, rfl⟩⟩ (fun rb M2 grb q => ?_)
    obtain ⟨R', hRR', hq, rfl⟩ := q
    obtain ⟨q0, hRal⟩ := h3 _ R' hq
    refine j_istore (lv' := [(6, .int (Ii rb)), (5, .int (Ii 3)), (0, .ref (ad 910)), (1, .ref (ad 0)), (2, .ref (ad 286)), (3, .ref (ad 389)), (4, .int (Ii (6 * (n : Int))))]) hO dL_law_1480 (by decide) rfl ?_
    refine j_aload_n hO dL_law_1482 rfl 4 rfl ?_
    refine j_callVi hO (lfR hin (c_X12_thrown (l := l) (D := D) (cy := cy) (ad := fun c => ad (286 + c)) (jIn_R hin))) rfl om_2146 ⟨rfl, rfl, Nat.le_of_ble_eq_true rfl, Nat.le_of_ble_eq_true rfl⟩ [] mv_L_149 hd_X12_thrownv kK_286 rfl rfl rfl (Nat.le_of_ble_eq_true rfl) dL_law_1483 (P := fun r M1 => r = R' 0 0 ∧ M1 = jUpO 286 103 R' (jUp 286 C' M)) ⟨R', fun v M' => v = R' 0 0 ∧ M' = R', fun c hc => jUpO_R hc, hRR', ⟨rfl, fun v e1 _ => ⟨e1, rfl⟩⟩, fun r C9 _ b => ⟨b.1, by rw [b.2]; exact jUpO_i⟩⟩ (fun rt M3 grt q => ?_)
    obtain ⟨ert, rfl⟩ := q
    refine j_iload hO dL_law_1486 1 rfl ?_
    refine j_icmp_eq hO 1493 grt rk_3 dL_law_1488 (by decide) (fun _ => ?_) (fun z => absurd (by exact (ert.trans (by simpa using q0))) z)
    refine j_iload hO dL_law_1493 1 rfl ?_
    refine j_if_ne hO 1510 rk_3 dL_law_1495 (by decide) (fun _ => ?_) (fun z => absurd z (by decide))
    refine j_goto hO 3111 dL_law_1510 (by decide) ?_
    exact j_sub hO [2, 3, 4, 5, 6] rfl (hE.2.2 _ _ _ _ _ _ _ _ (by omega) (by omega) (hnext _ (InvL_n hRal hRC' hRR' (fun c hc => jUpO_lo hc) (fun c hc => jUpO_R hc))))
set_option maxHeartbeats 4000000 in
set_option maxRecDepth 100000 in
theorem lc_22 {l : Launch} {D : va_G} {cy : Nat → ClassId} {ad : Nat → Nat} {xs : Nat → Int} {L : Nat} {J : Nat → Nat → Nat → List (Nat × Value) → List Value → MM → Prop} (hst : l.stackTraces = false) (hin : jIn ad ksK.length) (hE : LwE l D cy ad xs L J) (hxs : ∀ j, ri_ (xs j)) {n : Nat} (hn : n < 512) (hL : 6 * n + 6 ≤ L) {M : MM} (hI : InvL n M) (hnext : ∀ M1, InvL (n + 1) M1 → J (390 + 3 * (n + 1)) (571600 + 18 * (n + 1)) 3111 [(0, .ref (ad 910)), (1, .ref (ad 0)), (2, .ref (ad 286)), (3, .ref (ad 389)), (4, .int (Ii (6 * (n : Int))))] [] M1) : J (390 + 3 * n) (571600 + 18 * n) 1513 [(0, .ref (ad 910)), (1, .ref (ad 0)), (2, .ref (ad 286)), (3, .ref (ad 389)), (4, .int (Ii (6 * (n : Int))))] [] M := by
  have gi : ri_ (6 * (n : Int)) := by unfold ri_; omega
  obtain ⟨C, R, hR, hRC, hRR, hC, hRm⟩ := hI
  have hO := hE.1 (390 + 3 * n) (571600 + 18 * n) (by omega) (by omega)
  refine j_aload_n hO dL_law_1513 rfl 1 rfl ?_
  refine j_aload_n hO dL_law_1514 rfl 0 rfl ?_
  refine j_iload hO dL_law_1515 4 rfl ?_
  refine j_iconst hO dL_law_1517 ?_
  refine j_iadd hO dL_law_1518 ?_
  refine j_ti hO XtB_sc (by unfold ri_; omega) (by omega) (by omega) dL_law_1519 ?_
  obtain ⟨Q1, hw1, h2⟩ := v_rows (p1 := (xs ((6 * (n : Int)) + 1).toNat)) (by omega) (by omega) hR
  refine j_callVi hO (lfC hin (c_X11_rows (l := l) (D := D) (cy := cy) (ad := ad) (jIn_w hin))) rfl om_896 ⟨rfl, rfl, Nat.le_of_ble_eq_true rfl, Nat.le_of_ble_eq_true rfl⟩ [.int (Ii (xs ((6 * (n : Int)) + 1).toNat))] mv_L_213 hd_X11_rowsv kK_0 rfl rfl rfl (Nat.le_of_ble_eq_true rfl) dL_law_1520 (P := fun r M1 => ∃ C', jRg ftC ksC C' ∧ Q1 r C' ∧ M1 = jUp 286 C' M) ⟨C, Q1, hC, hRC, ⟨(xs ((6 * (n : Int)) + 1).toNat), rfl, (hxs _), hw1⟩, fun r C' a b => ⟨C', a, b, rfl⟩⟩ (fun ra M1 gra q => ?_)
  obtain ⟨C', hRC', hq, rfl⟩ := q
  obtain ⟨Q0, hw2, h3⟩ := h2 _ C' hq
  refine j_aload_n hO dL_law_1523 rfl 2 rfl ?_
  refine j_aload_n hO dL_law_1524 rfl 0 rfl ?_
  refine j_iload hO dL_law_1525 4 rfl ?_
  refine j_iconst hO dL_law_1527 ?_
  refine j_iadd hO dL_law_1528 ?_
  refine j_ti hO XtB_sc (by unfold ri_; omega) (by omega) (by omega) dL_law_1529 ?_
  refine j_callVi hO (lfR hin (c_X12_rows (l := l) (D := D) (cy := cy) (ad := fun c => ad (286 + c)) (jIn_R hin))) rfl om_2270 ⟨rfl, rfl, Nat.le_of_ble_eq_true rfl, Nat.le_of_ble_eq_true rfl⟩ [.int (Ii (xs ((6 * (n : Int)) + 1).toNat))] mv_L_216 hd_X12_rowsv kK_286 rfl rfl rfl (Nat.le_of_ble_eq_true rfl) dL_law_1530 (P := fun r M1 => ∃ R', jRg ftR ksR R' ∧ Q0 r R' ∧ M1 = jUpO 286 103 R' (jUp 286 C' M)) ⟨R, Q0, (jUp_R hRm), hRR, ⟨(xs ((6 * (n : Int)) + 1).toNat), rfl, (hxs _), hw2⟩, fun r R' a b => ⟨R', a, b, rfl⟩⟩ (fun rb M2 grb q => ?_)
  obtain ⟨R', hRR', hq, rfl⟩ := q
  obtain ⟨q1, hRal⟩ := h3 _ R' hq
  refine j_icmp_eq hO 3111 gra grb dL_law_1533 (by decide) (fun _ => ?_) (fun z => absurd (by exact q1) z)
  exact j_sub hO [0, 1, 2, 3, 4] rfl (hE.2.2 _ _ _ _ _ _ _ _ (by omega) (by omega) (hnext _ (InvL_n hRal hRC' hRR' (fun c hc => jUpO_lo hc) (fun c hc => jUpO_R hc))))
set_option maxHeartbeats 4000000 in
set_option maxRecDepth 100000 in
theorem lc_23 {l : Launch} {D : va_G} {cy : Nat → ClassId} {ad : Nat → Nat} {xs : Nat → Int} {L : Nat} {J : Nat → Nat → Nat → List (Nat × Value) → List Value → MM → Prop} (hst : l.stackTraces = false) (hin : jIn ad ksK.length) (hE : LwE l D cy ad xs L J) (hxs : ∀ j, ri_ (xs j)) {n : Nat} (hn : n < 512) (hL : 6 * n + 6 ≤ L) {M : MM} (hI : InvL n M) (hnext : ∀ M1, InvL (n + 1) M1 → J (390 + 3 * (n + 1)) (571600 + 18 * (n + 1)) 3111 [(0, .ref (ad 910)), (1, .ref (ad 0)), (2, .ref (ad 286)), (3, .ref (ad 389)), (4, .int (Ii (6 * (n : Int))))] [] M1) : J (390 + 3 * n) (571600 + 18 * n) 1538 [(0, .ref (ad 910)), (1, .ref (ad 0)), (2, .ref (ad 286)), (3, .ref (ad 389)), (4, .int (Ii (6 * (n : Int))))] [] M := by
  have gi : ri_ (6 * (n : Int)) := by unfold ri_; omega
  obtain ⟨C, R, hR, hRC, hRR, hC, hRm⟩ := hI
  have hO := hE.1 (390 + 3 * n) (571600 + 18 * n) (by omega) (by omega)
  refine j_aload_n hO dL_law_1538 rfl 1 rfl ?_
  refine j_aload_n hO dL_law_1539 rfl 0 rfl ?_
  refine j_iload hO dL_law_1540 4 rfl ?_
  refine j_iconst hO dL_law_1542 ?_
  refine j_iadd hO dL_law_1543 ?_
  refine j_ti hO XtB_sc (by unfold ri_; omega) (by omega) (by omega) dL_law_1544 ?_
  refine j_aload_n hO dL_law_1545 rfl 0 rfl ?_
  refine j_iload hO dL_law_1546 4 rfl ?_
  refine j_iconst hO dL_law_1548 ?_
  refine j_iadd hO dL_law_1549 ?_
  refine j_ti hO XtB_sc (by unfold ri_; omega) (by omega) (by omega) dL_law_1550 ?_
  refine j_aload_n hO dL_law_1551 rfl 0 rfl ?_
  refine j_iload hO dL_law_1552 4 rfl ?_
  refine j_iconst hO dL_law_1554 ?_
  refine j_iadd hO dL_law_1555 ?_
  refine j_ti hO XtB_sc (by unfold ri_; omega) (by omega) (by omega) dL_law_1556 ?_
  refine j_aload_n hO dL_law_1557 rfl 3 rfl ?_
  obtain ⟨Q1, X1, hw1, h2, h4⟩ := v_row (p1 := (xs ((6 * (n : Int)) + 1).toNat)) (p2 := (xs ((6 * (n : Int)) + 2).toNat)) (p3 := (xs ((6 * (n : Int)) + 3).toNat)) (by omega) (by omega) hR
  have hWL : WL_row ad (fun r M1 => ∃ C', jRg ftC ksC C' ∧ ((∃ r1, r = 0 ∧ Q1 r1 C' ∧ M1 = (ux_ (jUp 286 C' M) 389 0 r1)) ∨ (r = 1 ∧ X1 "java/util/NoSuchElementException" C' ∧ M1 = jUp 286 C' M))) [.ref (ad 0), .int (Ii (xs ((6 * (n : Int)) + 1).toNat)), .int (Ii (xs ((6 * (n : Int)) + 2).toNat)), .int (Ii (xs ((6 * (n : Int)) + 3).toNat)), .ref (ad 389)] M := by
    refine ⟨(xs ((6 * (n : Int)) + 1).toNat), (xs ((6 * (n : Int)) + 2).toNat), (xs ((6 * (n : Int)) + 3).toNat), rfl, (hxs _), (hxs _), (hxs _), ⟨C, Q1, X1, hC, hRC, hw1, fun r1 C' a b => ⟨C', a, Or.inl ⟨r1, rfl, b, rfl⟩⟩, fun E C' a m b => ?_⟩⟩
    simp only [List.mem_cons, List.not_mem_nil, or_false] at m
    rcases m with rfl
    · exact ⟨rfl, C', a, Or.inr (⟨rfl, b, rfl⟩)⟩
  refine hE.2.1 _ _ 1 6 (by omega) (by omega) _ _ _ _ _ _ _ _ _ _ _ [.ref (ad 0), .int (Ii (xs ((6 * (n : Int)) + 1).toNat)), .int (Ii (xs ((6 * (n : Int)) + 2).toNat)), .int (Ii (xs ((6 * (n : Int)) + 3).toNat)), .ref (ad 389)] _ _ _ (cl_row (l := l) (D := D) (cy := cy) (xs := xs) (L := L) hst hin) rfl om_2274 ⟨rfl, rfl, Nat.le_of_ble_eq_true rfl, Nat.le_of_ble_eq_true rfl⟩ mv_L_217 hd_L_row rfl (Nat.le_of_ble_eq_true rfl) dL_law_1558 hWL (fun rk1 M1 grk q => ?_)
  have hO := hE.1 (390 + 3 * n + 1) (571600 + 18 * n + 6) (by omega) (by omega)
  obtain ⟨C', hRC', q⟩ := q
  rcases q with ⟨r1, rfl, hq, rfl⟩ | ⟨rfl, hq, rfl⟩
  · obtain ⟨Q0, hw2, h3⟩ := h2 _ C' hq
    refine j_istore (lv' := [(5, .int (Ii 0)), (0, .ref (ad 910)), (1, .ref (ad 0)), (2, .ref (ad 286)), (3, .ref (ad 389)), (4, .int (Ii (6 * (n : Int))))]) hO dL_law_1561 (by decide) rfl ?_
    refine j_aload_n hO dL_law_1563 rfl 3 rfl ?_
    refine j_aload_n hO dL_law_1564 rfl 1 rfl ?_
    refine j_iload hO dL_law_1565 5 rfl ?_
    refine j_iconst hO dL_law_1567 ?_
    refine j_iadd hO dL_law_1568 ?_
    refine j_ti hO XtB_sc (by unfold ri_; omega) (by omega) (by omega) dL_law_1569 ?_
    refine j_aload_n hO dL_law_1570 rfl 1 rfl ?_
    refine j_iload hO dL_law_1571 5 rfl ?_
    refine j_iconst hO dL_law_1573 ?_
    refine j_iadd hO dL_law_1574 ?_
    refine j_ti hO XtB_sc (by unfold ri_; omega) (by omega) (by omega) dL_law_1575 ?_
    refine j_aload_n hO dL_law_1576 rfl 1 rfl ?_
    refine j_iload hO dL_law_1577 5 rfl ?_
    refine j_iconst hO dL_law_1579 ?_
    refine j_iadd hO dL_law_1580 ?_
    refine j_ti hO XtB_sc (by unfold ri_; omega) (by omega) (by omega) dL_law_1581 ?_
    refine j_callVl hO (lfR hin (c_X12_row (l := l) (D := D) (cy := cy) (ad := fun c => ad (286 + c)) (jIn_R hin))) rfl om_2277 ⟨rfl, rfl, Nat.le_of_ble_eq_true rfl, Nat.le_of_ble_eq_true rfl⟩ [.int (Ii (xs ((6 * (n : Int)) + 1).toNat)), .int (Ii (xs ((6 * (n : Int)) + 2).toNat)), .int (Ii (xs ((6 * (n : Int)) + 3).toNat))] mv_L_219 hd_X12_rowv kK_286 rfl rfl rfl (Nat.le_of_ble_eq_true rfl) dL_law_1582 (P := fun r M1 => ∃ R', jRg ftR ksR R' ∧ Q0 r R' ∧ M1 = jUpO 286 103 R' (ux_ (jUp 286 C' M) 389 0 r1)) ⟨R, Q0, (jUp_U hRm), hRR, ⟨(xs ((6 * (n : Int)) + 1).toNat), (xs ((6 * (n : Int)) + 2).toNat), (xs ((6 * (n : Int)) + 3).toNat), rfl, (hxs _), (hxs _), (hxs _), hw2⟩, fun r R' a b => ⟨R', a, b, rfl⟩⟩ (fun rb M2 grb q => ?_)
    obtain ⟨R', hRR', hq, rfl⟩ := q
    obtain ⟨q1, q0, hRal⟩ := h3 _ R' hq
    refine j_lstore (lv' := [(6, .long (Ll rb)), (5, .int (Ii 0)), (0, .ref (ad 910)), (1, .ref (ad 0)), (2, .ref (ad 286)), (3, .ref (ad 389)), (4, .int (Ii (6 * (n : Int))))]) hO dL_law_1585 (by decide) rfl ?_
    refine j_aload_n hO dL_law_1587 rfl 4 rfl ?_
    refine j_callVi hO (lfR hin (c_X12_thrown (l := l) (D := D) (cy := cy) (ad := fun c => ad (286 + c)) (jIn_R hin))) rfl om_2146 ⟨rfl, rfl, Nat.le_of_ble_eq_true rfl, Nat.le_of_ble_eq_true rfl⟩ [] mv_L_149 hd_X12_thrownv kK_286 rfl rfl rfl (Nat.le_of_ble_eq_true rfl) dL_law_1588 (P := fun r M1 => r = R' 0 0 ∧ M1 = jUpO 286 103 R' (ux_ (jUp 286 C' M) 389 0 r1)) ⟨R', fun v M' => v = R' 0 0 ∧ M' = R', fun c hc => jUpO_R hc, hRR', ⟨rfl, fun v e1 _ => ⟨e1, rfl⟩⟩, fun r C9 _ b => ⟨b.1, by rw [b.2]; exact jUpO_i⟩⟩ (fun rt M3 grt q => ?_)
    obtain ⟨ert, rfl⟩ := q
    refine j_iload hO dL_law_1591 1 rfl ?_
    refine j_icmp_eq hO 1598 grt rk_0 dL_law_1593 (by decide) (fun _ => ?_) (fun z => absurd (by exact (ert.trans q0)) z)
    refine j_iload hO dL_law_1598 1 rfl ?_
    refine j_if_ne hO 1614 rk_0 dL_law_1600 (by decide) (fun z => absurd z (by decide)) (fun _ => ?_)
    refine j_aload_n hO dL_law_1603 rfl 5 rfl ?_
    refine j_iconst hO dL_law_1604 ?_
    refine j_lald hO rk_0 kK_389 (by decide) (by decide) dL_law_1605 (fun v1605 ev1605 gv1605 => ?_)
    refine j_lload hO dL_law_1606 0 rfl ?_
    refine j_lcmp_eq hO 1614 gv1605 grb dL_law_1608 dL_law_1609 (by decide) (fun _ => ?_) (fun z => absurd (by rw [ev1605]; exact (jUpO_o 389 (by decide)).trans ((ux_s _ _ _ _).trans q1)) z)
    refine j_goto hO 3111 dL_law_1614 (by decide) ?_
    exact j_sub hO [2, 3, 4, 5, 6] rfl (hE.2.2 _ _ _ _ _ _ _ _ (by omega) (by omega) (hnext _ (InvL_n hRal hRC' hRR' (fun c hc => jUpO_lu hc) (fun c hc => jUpO_R hc))))
  · obtain ⟨Q0, hw2, h3⟩ := h4 _ C' hq
    refine j_istore (lv' := [(5, .int (Ii 1)), (0, .ref (ad 910)), (1, .ref (ad 0)), (2, .ref (ad 286)), (3, .ref (ad 389)), (4, .int (Ii (6 * (n : Int))))]) hO dL_law_1561 (by decide) rfl ?_
    refine j_aload_n hO dL_law_1563 rfl 3 rfl ?_
    refine j_aload_n hO dL_law_1564 rfl 1 rfl ?_
    refine j_iload hO dL_law_1565 5 rfl ?_
    refine j_iconst hO dL_law_1567 ?_
    refine j_iadd hO dL_law_1568 ?_
    refine j_ti hO XtB_sc (by unfold ri_; omega) (by omega) (by omega) dL_law_1569 ?_
    refine j_aload_n hO dL_law_1570 rfl 1 rfl ?_
    refine j_iload hO dL_law_1571 5 rfl ?_
    refine j_iconst hO dL_law_1573 ?_
    refine j_iadd hO dL_law_1574 ?_
    refine j_ti hO XtB_sc (by unfold ri_; omega) (by omega) (by omega) dL_law_1575 ?_
    refine j_aload_n hO dL_law_1576 rfl 1 rfl ?_
    refine j_iload hO dL_law_1577 5 rfl ?_
    refine j_iconst hO dL_law_1579 ?_
    refine j_iadd hO dL_law_1580 ?_
    refine j_ti hO XtB_sc (by unfold ri_; omega) (by omega) (by omega) dL_law_1581 ?_
    refine j_callVl hO (lfR hin (c_X12_row (l := l) (D := D) (cy := cy) (ad := fun c => ad (286 + c)) (jIn_R hin))) rfl om_2277 ⟨rfl, rfl, Nat.le_of_ble_eq_true rfl, Nat.le_of_ble_eq_true rfl⟩ [.int (Ii (xs ((6 * (n : Int)) + 1).toNat)), .int (Ii (xs ((6 * (n : Int)) + 2).toNat)), .int (Ii (xs ((6 * (n : Int)) + 3).toNat))] mv_L_219 hd_X12_rowv kK_286 rfl rfl rfl (Nat.le_of_ble_eq_true rfl) dL_law_1582 (P := fun r M1 => ∃ R', jRg ftR ksR R' ∧ Q0 r R' ∧ M1 = jUpO 286 103 R' (jUp 286 C' M)) ⟨R, Q0, (jUp_R hRm), hRR, ⟨(xs ((6 * (n : Int)) + 1).toNat), (xs ((6 * (n : Int)) + 2).toNat), (xs ((6 * (n : Int)) + 3).toNat), rfl, (hxs _), (hxs _), (hxs _), hw2⟩, fun r R' a b => ⟨R', a, b, rfl⟩⟩ (fun rb M2 grb q => ?_)
    obtain ⟨R', hRR', hq, rfl⟩ := q
    obtain ⟨q0, hRal⟩ := h3 _ R' hq
    refine j_lstore (lv' := [(6, .long (Ll rb)), (5, .int (Ii 1)), (0, .ref (ad 910)), (1, .ref (ad 0)), (2, .ref (ad 286)), (3, .ref (ad 389)), (4, .int (Ii (6 * (n : Int))))]) hO dL_law_1585 (by decide) rfl ?_
    refine j_aload_n hO dL_law_1587 rfl 4 rfl ?_
    refine j_callVi hO (lfR hin (c_X12_thrown (l := l) (D := D) (cy := cy) (ad := fun c => ad (286 + c)) (jIn_R hin))) rfl om_2146 ⟨rfl, rfl, Nat.le_of_ble_eq_true rfl, Nat.le_of_ble_eq_true rfl⟩ [] mv_L_149 hd_X12_thrownv kK_286 rfl rfl rfl (Nat.le_of_ble_eq_true rfl) dL_law_1588 (P := fun r M1 => r = R' 0 0 ∧ M1 = jUpO 286 103 R' (jUp 286 C' M)) ⟨R', fun v M' => v = R' 0 0 ∧ M' = R', fun c hc => jUpO_R hc, hRR', ⟨rfl, fun v e1 _ => ⟨e1, rfl⟩⟩, fun r C9 _ b => ⟨b.1, by rw [b.2]; exact jUpO_i⟩⟩ (fun rt M3 grt q => ?_)
    obtain ⟨ert, rfl⟩ := q
    refine j_iload hO dL_law_1591 1 rfl ?_
    refine j_icmp_eq hO 1598 grt rk_1 dL_law_1593 (by decide) (fun _ => ?_) (fun z => absurd (by exact (ert.trans (by simpa using q0))) z)
    refine j_iload hO dL_law_1598 1 rfl ?_
    refine j_if_ne hO 1614 rk_1 dL_law_1600 (by decide) (fun _ => ?_) (fun z => absurd z (by decide))
    refine j_goto hO 3111 dL_law_1614 (by decide) ?_
    exact j_sub hO [2, 3, 4, 5, 6] rfl (hE.2.2 _ _ _ _ _ _ _ _ (by omega) (by omega) (hnext _ (InvL_n hRal hRC' hRR' (fun c hc => jUpO_lo hc) (fun c hc => jUpO_R hc))))
set_option maxHeartbeats 4000000 in
set_option maxRecDepth 100000 in
theorem lc_24 {l : Launch} {D : va_G} {cy : Nat → ClassId} {ad : Nat → Nat} {xs : Nat → Int} {L : Nat} {J : Nat → Nat → Nat → List (Nat × Value) → List Value → MM → Prop} (hst : l.stackTraces = false) (hin : jIn ad ksK.length) (hE : LwE l D cy ad xs L J) (hxs : ∀ j, ri_ (xs j)) {n : Nat} (hn : n < 512) (hL : 6 * n + 6 ≤ L) {M : MM} (hI : InvL n M) (hnext : ∀ M1, InvL (n + 1) M1 → J (390 + 3 * (n + 1)) (571600 + 18 * (n + 1)) 3111 [(0, .ref (ad 910)), (1, .ref (ad 0)), (2, .ref (ad 286)), (3, .ref (ad 389)), (4, .int (Ii (6 * (n : Int))))] [] M1) : J (390 + 3 * n) (571600 + 18 * n) 1617 [(0, .ref (ad 910)), (1, .ref (ad 0)), (2, .ref (ad 286)), (3, .ref (ad 389)), (4, .int (Ii (6 * (n : Int))))] [] M := by
  have gi : ri_ (6 * (n : Int)) := by unfold ri_; omega
  obtain ⟨C, R, hR, hRC, hRR, hC, hRm⟩ := hI
  have hO := hE.1 (390 + 3 * n) (571600 + 18 * n) (by omega) (by omega)
  refine j_aload_n hO dL_law_1617 rfl 1 rfl ?_
  refine j_aload_n hO dL_law_1618 rfl 3 rfl ?_
  obtain ⟨Q1, X1, hw1, h2, h4⟩ := v_promise  (by omega) (by omega) hR
  have hWL : WL_promise ad (fun r M1 => ∃ C', jRg ftC ksC C' ∧ ((∃ r1, r = 0 ∧ Q1 r1 C' ∧ M1 = (ux_ (jUp 286 C' M) 389 0 r1)) ∨ (r = 1 ∧ X1 "java/lang/IllegalStateException" C' ∧ M1 = jUp 286 C' M) ∨ (r = 2 ∧ X1 "java/lang/IllegalArgumentException" C' ∧ M1 = jUp 286 C' M))) [.ref (ad 0), .ref (ad 389)] M := by
    refine ⟨rfl, ⟨C, Q1, X1, hC, hRC, hw1, fun r1 C' a b => ⟨C', a, Or.inl ⟨r1, rfl, b, rfl⟩⟩, fun E C' a m b => ?_⟩⟩
    simp only [List.mem_cons, List.not_mem_nil, or_false] at m
    rcases m with rfl | rfl
    · exact Or.inr (⟨rfl, C', a, Or.inr (Or.inr (⟨rfl, b, rfl⟩))⟩)
    · exact Or.inl ⟨rfl, C', a, Or.inr (Or.inl ⟨rfl, b, rfl⟩)⟩
  refine hE.2.1 _ _ 1 6 (by omega) (by omega) _ _ _ _ _ _ _ _ _ _ _ [.ref (ad 0), .ref (ad 389)] _ _ _ (cl_promise (l := l) (D := D) (cy := cy) (xs := xs) (L := L) hst hin) rfl om_2281 ⟨rfl, rfl, Nat.le_of_ble_eq_true rfl, Nat.le_of_ble_eq_true rfl⟩ mv_L_220 hd_L_promise rfl (Nat.le_of_ble_eq_true rfl) dL_law_1619 hWL (fun rk1 M1 grk q => ?_)
  have hO := hE.1 (390 + 3 * n + 1) (571600 + 18 * n + 6) (by omega) (by omega)
  obtain ⟨C', hRC', q⟩ := q
  rcases q with ⟨r1, rfl, hq, rfl⟩ | ⟨rfl, hq, rfl⟩ | ⟨rfl, hq, rfl⟩
  · obtain ⟨Q0, hw2, h3⟩ := h2 _ C' hq
    refine j_istore (lv' := [(5, .int (Ii 0)), (0, .ref (ad 910)), (1, .ref (ad 0)), (2, .ref (ad 286)), (3, .ref (ad 389)), (4, .int (Ii (6 * (n : Int))))]) hO dL_law_1622 (by decide) rfl ?_
    refine j_aload_n hO dL_law_1624 rfl 3 rfl ?_
    refine j_callVi hO (lfR hin (c_X12_promise (l := l) (D := D) (cy := cy) (ad := fun c => ad (286 + c)) (jIn_R hin))) rfl om_2284 ⟨rfl, rfl, Nat.le_of_ble_eq_true rfl, Nat.le_of_ble_eq_true rfl⟩ [] mv_L_223 hd_X12_promisev kK_286 rfl rfl rfl (Nat.le_of_ble_eq_true rfl) dL_law_1625 (P := fun r M1 => ∃ R', jRg ftR ksR R' ∧ Q0 r R' ∧ M1 = jUpO 286 103 R' (ux_ (jUp 286 C' M) 389 0 r1)) ⟨R, Q0, (jUp_U hRm), hRR, ⟨rfl, hw2⟩, fun r R' a b => ⟨R', a, b, rfl⟩⟩ (fun rb M2 grb q => ?_)
    obtain ⟨R', hRR', hq, rfl⟩ := q
    obtain ⟨q1, q0, hRal⟩ := h3 _ R' hq
    refine j_istore (lv' := [(6, .int (Ii rb)), (5, .int (Ii 0)), (0, .ref (ad 910)), (1, .ref (ad 0)), (2, .ref (ad 286)), (3, .ref (ad 389)), (4, .int (Ii (6 * (n : Int))))]) hO dL_law_1628 (by decide) rfl ?_
    refine j_aload_n hO dL_law_1630 rfl 4 rfl ?_
    refine j_callVi hO (lfR hin (c_X12_thrown (l := l) (D := D) (cy := cy) (ad := fun c => ad (286 + c)) (jIn_R hin))) rfl om_2146 ⟨rfl, rfl, Nat.le_of_ble_eq_true rfl, Nat.le_of_ble_eq_true rfl⟩ [] mv_L_149 hd_X12_thrownv kK_286 rfl rfl rfl (Nat.le_of_ble_eq_true rfl) dL_law_1631 (P := fun r M1 => r = R' 0 0 ∧ M1 = jUpO 286 103 R' (ux_ (jUp 286 C' M) 389 0 r1)) ⟨R', fun v M' => v = R' 0 0 ∧ M' = R', fun c hc => jUpO_R hc, hRR', ⟨rfl, fun v e1 _ => ⟨e1, rfl⟩⟩, fun r C9 _ b => ⟨b.1, by rw [b.2]; exact jUpO_i⟩⟩ (fun rt M3 grt q => ?_)
    obtain ⟨ert, rfl⟩ := q
    refine j_iload hO dL_law_1634 1 rfl ?_
    refine j_icmp_eq hO 1641 grt rk_0 dL_law_1636 (by decide) (fun _ => ?_) (fun z => absurd (by exact (ert.trans q0)) z)
    refine j_iload hO dL_law_1641 1 rfl ?_
    refine j_if_ne hO 1658 rk_0 dL_law_1643 (by decide) (fun z => absurd z (by decide)) (fun _ => ?_)
    refine j_aload_n hO dL_law_1646 rfl 5 rfl ?_
    refine j_iconst hO dL_law_1647 ?_
    refine j_lald hO rk_0 kK_389 (by decide) (by decide) dL_law_1648 (fun v1648 ev1648 gv1648 => ?_)
    refine j_iload hO dL_law_1649 0 rfl ?_
    refine j_i2l hO grb dL_law_1651 ?_
    refine j_lcmp_eq hO 1658 gv1648 (rl_ri grb) dL_law_1652 dL_law_1653 (by decide) (fun _ => ?_) (fun z => absurd (by rw [ev1648]; exact (jUpO_o 389 (by decide)).trans ((ux_s _ _ _ _).trans q1)) z)
    refine j_goto hO 3111 dL_law_1658 (by decide) ?_
    exact j_sub hO [2, 3, 4, 5, 6] rfl (hE.2.2 _ _ _ _ _ _ _ _ (by omega) (by omega) (hnext _ (InvL_n hRal hRC' hRR' (fun c hc => jUpO_lu hc) (fun c hc => jUpO_R hc))))
  · obtain ⟨Q0, hw2, h3⟩ := h4 _ C' hq
    refine j_istore (lv' := [(5, .int (Ii 1)), (0, .ref (ad 910)), (1, .ref (ad 0)), (2, .ref (ad 286)), (3, .ref (ad 389)), (4, .int (Ii (6 * (n : Int))))]) hO dL_law_1622 (by decide) rfl ?_
    refine j_aload_n hO dL_law_1624 rfl 3 rfl ?_
    refine j_callVi hO (lfR hin (c_X12_promise (l := l) (D := D) (cy := cy) (ad := fun c => ad (286 + c)) (jIn_R hin))) rfl om_2284 ⟨rfl, rfl, Nat.le_of_ble_eq_true rfl, Nat.le_of_ble_eq_true rfl⟩ [] mv_L_223 hd_X12_promisev kK_286 rfl rfl rfl (Nat.le_of_ble_eq_true rfl) dL_law_1625 (P := fun r M1 => ∃ R', jRg ftR ksR R' ∧ Q0 r R' ∧ M1 = jUpO 286 103 R' (jUp 286 C' M)) ⟨R, Q0, (jUp_R hRm), hRR, ⟨rfl, hw2⟩, fun r R' a b => ⟨R', a, b, rfl⟩⟩ (fun rb M2 grb q => ?_)
    obtain ⟨R', hRR', hq, rfl⟩ := q
    obtain ⟨q0, hRal⟩ := h3 _ R' hq
    refine j_istore (lv' := [(6, .int (Ii rb)), (5, .int (Ii 1)), (0, .ref (ad 910)), (1, .ref (ad 0)), (2, .ref (ad 286)), (3, .ref (ad 389)), (4, .int (Ii (6 * (n : Int))))]) hO dL_law_1628 (by decide) rfl ?_
    refine j_aload_n hO dL_law_1630 rfl 4 rfl ?_
    refine j_callVi hO (lfR hin (c_X12_thrown (l := l) (D := D) (cy := cy) (ad := fun c => ad (286 + c)) (jIn_R hin))) rfl om_2146 ⟨rfl, rfl, Nat.le_of_ble_eq_true rfl, Nat.le_of_ble_eq_true rfl⟩ [] mv_L_149 hd_X12_thrownv kK_286 rfl rfl rfl (Nat.le_of_ble_eq_true rfl) dL_law_1631 (P := fun r M1 => r = R' 0 0 ∧ M1 = jUpO 286 103 R' (jUp 286 C' M)) ⟨R', fun v M' => v = R' 0 0 ∧ M' = R', fun c hc => jUpO_R hc, hRR', ⟨rfl, fun v e1 _ => ⟨e1, rfl⟩⟩, fun r C9 _ b => ⟨b.1, by rw [b.2]; exact jUpO_i⟩⟩ (fun rt M3 grt q => ?_)
    obtain ⟨ert, rfl⟩ := q
    refine j_iload hO dL_law_1634 1 rfl ?_
    refine j_icmp_eq hO 1641 grt rk_1 dL_law_1636 (by decide) (fun _ => ?_) (fun z => absurd (by exact (ert.trans (by simpa using q0))) z)
    refine j_iload hO dL_law_1641 1 rfl ?_
    refine j_if_ne hO 1658 rk_1 dL_law_1643 (by decide) (fun _ => ?_) (fun z => absurd z (by decide))
    refine j_goto hO 3111 dL_law_1658 (by decide) ?_
    exact j_sub hO [2, 3, 4, 5, 6] rfl (hE.2.2 _ _ _ _ _ _ _ _ (by omega) (by omega) (hnext _ (InvL_n hRal hRC' hRR' (fun c hc => jUpO_lo hc) (fun c hc => jUpO_R hc))))
  · obtain ⟨Q0, hw2, h3⟩ := h4 _ C' hq
    refine j_istore (lv' := [(5, .int (Ii 2)), (0, .ref (ad 910)), (1, .ref (ad 0)), (2, .ref (ad 286)), (3, .ref (ad 389)), (4, .int (Ii (6 * (n : Int))))]) hO dL_law_1622 (by decide) rfl ?_
    refine j_aload_n hO dL_law_1624 rfl 3 rfl ?_
    refine j_callVi hO (lfR hin (c_X12_promise (l := l) (D := D) (cy := cy) (ad := fun c => ad (286 + c)) (jIn_R hin))) rfl om_2284 ⟨rfl, rfl, Nat.le_of_ble_eq_true rfl, Nat.le_of_ble_eq_true rfl⟩ [] mv_L_223 hd_X12_promisev kK_286 rfl rfl rfl (Nat.le_of_ble_eq_true rfl) dL_law_1625 (P := fun r M1 => ∃ R', jRg ftR ksR R' ∧ Q0 r R' ∧ M1 = jUpO 286 103 R' (jUp 286 C' M)) ⟨R, Q0, (jUp_R hRm), hRR, ⟨rfl, hw2⟩, fun r R' a b => ⟨R', a, b, rfl⟩⟩ (fun rb M2 grb q => ?_)
    obtain ⟨R', hRR', hq, rfl⟩ := q
    obtain ⟨q0, hRal⟩ := h3 _ R' hq
    refine j_istore (lv' := [(6, .int (Ii rb)), (5, .int (Ii 2)), (0, .ref (ad 910)), (1, .ref (ad 0)), (2, .ref (ad 286)), (3, .ref (ad 389)), (4, .int (Ii (6 * (n : Int))))]) hO dL_law_1628 (by decide) rfl ?_
    refine j_aload_n hO dL_law_1630 rfl 4 rfl ?_
    refine j_callVi hO (lfR hin (c_X12_thrown (l := l) (D := D) (cy := cy) (ad := fun c => ad (286 + c)) (jIn_R hin))) rfl om_2146 ⟨rfl, rfl, Nat.le_of_ble_eq_true rfl, Nat.le_of_ble_eq_true rfl⟩ [] mv_L_149 hd_X12_thrownv kK_286 rfl rfl rfl (Nat.le_of_ble_eq_true rfl) dL_law_1631 (P := fun r M1 => r = R' 0 0 ∧ M1 = jUpO 286 103 R' (jUp 286 C' M)) ⟨R', fun v M' => v = R' 0 0 ∧ M' = R', fun c hc => jUpO_R hc, hRR', ⟨rfl, fun v e1 _ => ⟨e1, rfl⟩⟩, fun r C9 _ b => ⟨b.1, by rw [b.2]; exact jUpO_i⟩⟩ (fun rt M3 grt q => ?_)
    obtain ⟨ert, rfl⟩ := q
    refine j_iload hO dL_law_1634 1 rfl ?_
    refine j_icmp_eq hO 1641 grt rk_2 dL_law_1636 (by decide) (fun _ => ?_) (fun z => absurd (by exact (ert.trans (by simpa using q0))) z)
    refine j_iload hO dL_law_1641 1 rfl ?_
    refine j_if_ne hO 1658 rk_2 dL_law_1643 (by decide) (fun _ => ?_) (fun z => absurd z (by decide))
    refine j_goto hO 3111 dL_law_1658 (by decide) ?_
    exact j_sub hO [2, 3, 4, 5, 6] rfl (hE.2.2 _ _ _ _ _ _ _ _ (by omega) (by omega) (hnext _ (InvL_n hRal hRC' hRR' (fun c hc => jUpO_lo hc) (fun c hc => jUpO_R hc))))
