set_option maxHeartbeats 4000000 in
set_option maxRecDepth 100000 in
theorem lc_5 {l : Launch} {D : va_G} {cy : Nat → ClassId} {ad : Nat → Nat} {xs : Nat → Int} {L : Nat} {J : Nat → Nat → Nat → List (Nat × Value) → List Value → MM → Prop} (hst : l.stackTraces = false) (hin : jIn ad ksK.length) (hE : LwE l D cy ad xs L J) (hxs : ∀ j, ri_ (xs j)) {n : Nat} (hn : n < 512) (hL : 6 * n + 6 ≤ L) {M : MM} (hI : InvL n M) (hnext : ∀ M1, InvL (n + 1) M1 → J (390 + 3 * (n + 1)) (571600 + 18 * (n + 1)) 3111 [(0, .ref (ad 910)), (1, .ref (ad 0)), (2, .ref (ad 286)), (3, .ref (ad 389)), (4, .int (Ii (6 * (n : Int))))] [] M1) : J (390 + 3 * n) (571600 + 18 * n) 429 [(0, .ref (ad 910)), (1, .ref (ad 0)), (2, .ref (ad 286)), (3, .ref (ad 389)), (4, .int (Ii (6 * (n : Int))))] [] M := by
  have gi : ri_ (6 * (n : Int)) := by unfold ri_; omega
  obtain ⟨C, R, hR, hRC, hRR, hC, hRm⟩ := hI
  have hO := hE.1 (390 + 3 * n) (571600 + 18 * n) (by omega) (by omega)
  refine j_aload_n hO dL_law_429 rfl 1 rfl ?_
  refine j_aload_n hO dL_law_430 rfl 0 rfl ?_
  refine j_iload hO dL_law_431 4 rfl ?_
  refine j_iconst hO dL_law_433 ?_
  refine j_iadd hO dL_law_434 ?_
  refine j_ti hO XtB_sc (by unfold ri_; omega) (by omega) (by omega) dL_law_435 ?_
  refine j_aload_n hO dL_law_436 rfl 0 rfl ?_
  refine j_iload hO dL_law_437 4 rfl ?_
  refine j_iconst hO dL_law_439 ?_
  refine j_iadd hO dL_law_440 ?_
  refine j_ti hO XtB_sc (by unfold ri_; omega) (by omega) (by omega) dL_law_441 ?_
  refine j_aload_n hO dL_law_442 rfl 3 rfl ?_
  obtain ⟨Q1, X1, hw1, h2, h4⟩ := v_type (p1 := (xs ((6 * (n : Int)) + 1).toNat)) (p2 := (xs ((6 * (n : Int)) + 2).toNat)) (by omega) (by omega) hR
  have hWL : WL_type ad (fun r M1 => ∃ C', jRg ftC ksC C' ∧ ((∃ r1, r = 0 ∧ Q1 r1 C' ∧ M1 = (ux_ (jUp 286 C' M) 389 0 r1)) ∨ (r = 1 ∧ X1 "java/lang/IndexOutOfBoundsException" C' ∧ M1 = jUp 286 C' M) ∨ (r = 2 ∧ X1 "java/lang/IllegalArgumentException" C' ∧ M1 = jUp 286 C' M) ∨ (r = 3 ∧ X1 "java/lang/IllegalStateException" C' ∧ M1 = jUp 286 C' M))) [.ref (ad 0), .int (Ii (xs ((6 * (n : Int)) + 1).toNat)), .int (Ii (xs ((6 * (n : Int)) + 2).toNat)), .ref (ad 389)] M := by
    refine ⟨(xs ((6 * (n : Int)) + 1).toNat), (xs ((6 * (n : Int)) + 2).toNat), rfl, (hxs _), (hxs _), ⟨C, Q1, X1, hC, hRC, hw1, fun r1 C' a b => ⟨C', a, Or.inl ⟨r1, rfl, b, rfl⟩⟩, fun E C' a m b => ?_⟩⟩
    simp only [List.mem_cons, List.not_mem_nil, or_false] at m
    rcases m with rfl | rfl | rfl
    · exact Or.inr (Or.inl ⟨rfl, C', a, Or.inr (Or.inr (Or.inl ⟨rfl, b, rfl⟩))⟩)
    · exact Or.inr (Or.inr (⟨rfl, C', a, Or.inr (Or.inr (Or.inr (⟨rfl, b, rfl⟩)))⟩))
    · exact Or.inl ⟨rfl, C', a, Or.inr (Or.inl ⟨rfl, b, rfl⟩)⟩
  refine hE.2.1 _ _ 1 6 (by omega) (by omega) _ _ _ _ _ _ _ _ _ _ _ [.ref (ad 0), .int (Ii (xs ((6 * (n : Int)) + 1).toNat)), .int (Ii (xs ((6 * (n : Int)) + 2).toNat)), .ref (ad 389)] _ _ _ (cl_type (l := l) (D := D) (cy := cy) (xs := xs) (L := L) hst hin) rfl om_2138 ⟨rfl, rfl, Nat.le_of_ble_eq_true rfl, Nat.le_of_ble_eq_true rfl⟩ mv_L_143 hd_L_type rfl (Nat.le_of_ble_eq_true rfl) dL_law_443 hWL (fun rk1 M1 grk q => ?_)
  have hO := hE.1 (390 + 3 * n + 1) (571600 + 18 * n + 6) (by omega) (by omega)
  obtain ⟨C', hRC', q⟩ := q
  rcases q with ⟨r1, rfl, hq, rfl⟩ | ⟨rfl, hq, rfl⟩ | ⟨rfl, hq, rfl⟩ | ⟨rfl, hq, rfl⟩
  · obtain ⟨Q0, hw2, h3⟩ := h2 _ C' hq
    refine j_istore (lv' := [(5, .int (Ii 0)), (0, .ref (ad 910)), (1, .ref (ad 0)), (2, .ref (ad 286)), (3, .ref (ad 389)), (4, .int (Ii (6 * (n : Int))))]) hO dL_law_446 (by decide) rfl ?_
    refine j_aload_n hO dL_law_448 rfl 3 rfl ?_
    refine j_aload_n hO dL_law_449 rfl 1 rfl ?_
    refine j_iload hO dL_law_450 5 rfl ?_
    refine j_iconst hO dL_law_452 ?_
    refine j_iadd hO dL_law_453 ?_
    refine j_ti hO XtB_sc (by unfold ri_; omega) (by omega) (by omega) dL_law_454 ?_
    refine j_aload_n hO dL_law_455 rfl 1 rfl ?_
    refine j_iload hO dL_law_456 5 rfl ?_
    refine j_iconst hO dL_law_458 ?_
    refine j_iadd hO dL_law_459 ?_
    refine j_ti hO XtB_sc (by unfold ri_; omega) (by omega) (by omega) dL_law_460 ?_
    refine j_callVi hO (lfR hin (c_X12_type (l := l) (D := D) (cy := cy) (ad := fun c => ad (286 + c)) (jIn_R hin))) rfl om_2142 ⟨rfl, rfl, Nat.le_of_ble_eq_true rfl, Nat.le_of_ble_eq_true rfl⟩ [.int (Ii (xs ((6 * (n : Int)) + 1).toNat)), .int (Ii (xs ((6 * (n : Int)) + 2).toNat))] mv_L_148 hd_X12_typev kK_286 rfl rfl rfl (Nat.le_of_ble_eq_true rfl) dL_law_461 (P := fun r M1 => ∃ R', jRg ftR ksR R' ∧ Q0 r R' ∧ M1 = jUpO 286 103 R' (ux_ (jUp 286 C' M) 389 0 r1)) ⟨R, Q0, (jUp_U hRm), hRR, ⟨(xs ((6 * (n : Int)) + 1).toNat), (xs ((6 * (n : Int)) + 2).toNat), rfl, (hxs _), (hxs _), hw2⟩, fun r R' a b => ⟨R', a, b, rfl⟩⟩ (fun rb M2 grb q => ?_)
    obtain ⟨R', hRR', hq, rfl⟩ := q
    obtain ⟨q1, q0, hRal⟩ := h3 _ R' hq
    refine j_istore (lv' := [(6, .int (Ii rb)), (5, .int (Ii 0)), (0, .ref (ad 910)), (1, .ref (ad 0)), (2, .ref (ad 286)), (3, .ref (ad 389)), (4, .int (Ii (6 * (n : Int))))]) hO dL_law_464 (by decide) rfl ?_
    refine j_aload_n hO dL_law_466 rfl 4 rfl ?_
    refine j_callVi hO (lfR hin (c_X12_thrown (l := l) (D := D) (cy := cy) (ad := fun c => ad (286 + c)) (jIn_R hin))) rfl om_2146 ⟨rfl, rfl, Nat.le_of_ble_eq_true rfl, Nat.le_of_ble_eq_true rfl⟩ [] mv_L_149 hd_X12_thrownv kK_286 rfl rfl rfl (Nat.le_of_ble_eq_true rfl) dL_law_467 (P := fun r M1 => r = R' 0 0 ∧ M1 = jUpO 286 103 R' (ux_ (jUp 286 C' M) 389 0 r1)) ⟨R', fun v M' => v = R' 0 0 ∧ M' = R', fun c hc => jUpO_R hc, hRR', ⟨rfl, fun v e1 _ => ⟨e1, rfl⟩⟩, fun r C9 _ b => ⟨b.1, by rw [b.2]; exact jUpO_i⟩⟩ (fun rt M3 grt q => ?_)
    obtain ⟨ert, rfl⟩ := q
    refine j_iload hO dL_law_470 1 rfl ?_
    refine j_icmp_eq hO 477 grt rk_0 dL_law_472 (by decide) (fun _ => ?_) (fun z => absurd (by exact (ert.trans q0)) z)
    refine j_iload hO dL_law_477 1 rfl ?_
    refine j_if_ne hO 494 rk_0 dL_law_479 (by decide) (fun z => absurd z (by decide)) (fun _ => ?_)
    refine j_aload_n hO dL_law_482 rfl 5 rfl ?_
    refine j_iconst hO dL_law_483 ?_
    refine j_lald hO rk_0 kK_389 (by decide) (by decide) dL_law_484 (fun v484 ev484 gv484 => ?_)
    refine j_iload hO dL_law_485 0 rfl ?_
    refine j_i2l hO grb dL_law_487 ?_
    refine j_lcmp_eq hO 494 gv484 (rl_ri grb) dL_law_488 dL_law_489 (by decide) (fun _ => ?_) (fun z => absurd (by rw [ev484]; exact (jUpO_o 389 (by decide)).trans ((ux_s _ _ _ _).trans q1)) z)
    refine j_goto hO 3111 dL_law_494 (by decide) ?_
    exact j_sub hO [2, 3, 4, 5, 6] rfl (hE.2.2 _ _ _ _ _ _ _ _ (by omega) (by omega) (hnext _ (InvL_n hRal hRC' hRR' (fun c hc => jUpO_lu hc) (fun c hc => jUpO_R hc))))
  · obtain ⟨Q0, hw2, h3⟩ := h4 _ C' hq
    refine j_istore (lv' := [(5, .int (Ii 1)), (0, .ref (ad 910)), (1, .ref (ad 0)), (2, .ref (ad 286)), (3, .ref (ad 389)), (4, .int (Ii (6 * (n : Int))))]) hO dL_law_446 (by decide) rfl ?_
    refine j_aload_n hO dL_law_448 rfl 3 rfl ?_
    refine j_aload_n hO dL_law_449 rfl 1 rfl ?_
    refine j_iload hO dL_law_450 5 rfl ?_
    refine j_iconst hO dL_law_452 ?_
    refine j_iadd hO dL_law_453 ?_
    refine j_ti hO XtB_sc (by unfold ri_; omega) (by omega) (by omega) dL_law_454 ?_
    refine j_aload_n hO dL_law_455 rfl 1 rfl ?_
    refine j_iload hO dL_law_456 5 rfl ?_
    refine j_iconst hO dL_law_458 ?_
    refine j_iadd hO dL_law_459 ?_
    refine j_ti hO XtB_sc (by unfold ri_; omega) (by omega) (by omega) dL_law_460 ?_
    refine j_callVi hO (lfR hin (c_X12_type (l := l) (D := D) (cy := cy) (ad := fun c => ad (286 + c)) (jIn_R hin))) rfl om_2142 ⟨rfl, rfl, Nat.le_of_ble_eq_true rfl, Nat.le_of_ble_eq_true rfl⟩ [.int (Ii (xs ((6 * (n : Int)) + 1).toNat)), .int (Ii (xs ((6 * (n : Int)) + 2).toNat))] mv_L_148 hd_X12_typev kK_286 rfl rfl rfl (Nat.le_of_ble_eq_true rfl) dL_law_461 (P := fun r M1 => ∃ R', jRg ftR ksR R' ∧ Q0 r R' ∧ M1 = jUpO 286 103 R' (jUp 286 C' M)) ⟨R, Q0, (jUp_R hRm), hRR, ⟨(xs ((6 * (n : Int)) + 1).toNat), (xs ((6 * (n : Int)) + 2).toNat), rfl, (hxs _), (hxs _), hw2⟩, fun r R' a b => ⟨R', a, b, rfl⟩⟩ (fun rb M2 grb q => ?_)
    obtain ⟨R', hRR', hq, rfl⟩ := q
    obtain ⟨q0, hRal⟩ := h3 _ R' hq
    refine j_istore (lv' := [(6, .int (Ii rb)), (5, .int (Ii 1)), (0, .ref (ad 910)), (1, .ref (ad 0)), (2, .ref (ad 286)), (3, .ref (ad 389)), (4, .int (Ii (6 * (n : Int))))]) hO dL_law_464 (by decide) rfl ?_
    refine j_aload_n hO dL_law_466 rfl 4 rfl ?_
    refine j_callVi hO (lfR hin (c_X12_thrown (l := l) (D := D) (cy := cy) (ad := fun c => ad (286 + c)) (jIn_R hin))) rfl om_2146 ⟨rfl, rfl, Nat.le_of_ble_eq_true rfl, Nat.le_of_ble_eq_true rfl⟩ [] mv_L_149 hd_X12_thrownv kK_286 rfl rfl rfl (Nat.le_of_ble_eq_true rfl) dL_law_467 (P := fun r M1 => r = R' 0 0 ∧ M1 = jUpO 286 103 R' (jUp 286 C' M)) ⟨R', fun v M' => v = R' 0 0 ∧ M' = R', fun c hc => jUpO_R hc, hRR', ⟨rfl, fun v e1 _ => ⟨e1, rfl⟩⟩, fun r C9 _ b => ⟨b.1, by rw [b.2]; exact jUpO_i⟩⟩ (fun rt M3 grt q => ?_)
    obtain ⟨ert, rfl⟩ := q
    refine j_iload hO dL_law_470 1 rfl ?_
    refine j_icmp_eq hO 477 grt rk_1 dL_law_472 (by decide) (fun _ => ?_) (fun z => absurd (by exact (ert.trans (by simpa using q0))) z)
    refine j_iload hO dL_law_477 1 rfl ?_
    refine j_if_ne hO 494 rk_1 dL_law_479 (by decide) (fun _ => ?_) (fun z => absurd z (by decide))
    refine j_goto hO 3111 dL_law_494 (by decide) ?_
    exact j_sub hO [2, 3, 4, 5, 6] rfl (hE.2.2 _ _ _ _ _ _ _ _ (by omega) (by omega) (hnext _ (InvL_n hRal hRC' hRR' (fun c hc => jUpO_lo hc) (fun c hc => jUpO_R hc))))
  · obtain ⟨Q0, hw2, h3⟩ := h4 _ C' hq
    refine j_istore (lv' := [(5, .int (Ii 2)), (0, .ref (ad 910)), (1, .ref (ad 0)), (2, .ref (ad 286)), (3, .ref (ad 389)), (4, .int (Ii (6 * (n : Int))))]) hO dL_law_446 (by decide) rfl ?_
    refine j_aload_n hO dL_law_448 rfl 3 rfl ?_
    refine j_aload_n hO dL_law_449 rfl 1 rfl ?_
    refine j_iload hO dL_law_450 5 rfl ?_
    refine j_iconst hO dL_law_452 ?_
    refine j_iadd hO dL_law_453 ?_
    refine j_ti hO XtB_sc (by unfold ri_; omega) (by omega) (by omega) dL_law_454 ?_
    refine j_aload_n hO dL_law_455 rfl 1 rfl ?_
    refine j_iload hO dL_law_456 5 rfl ?_
    refine j_iconst hO dL_law_458 ?_
    refine j_iadd hO dL_law_459 ?_
    refine j_ti hO XtB_sc (by unfold ri_; omega) (by omega) (by omega) dL_law_460 ?_
    refine j_callVi hO (lfR hin (c_X12_type (l := l) (D := D) (cy := cy) (ad := fun c => ad (286 + c)) (jIn_R hin))) rfl om_2142 ⟨rfl, rfl, Nat.le_of_ble_eq_true rfl, Nat.le_of_ble_eq_true rfl⟩ [.int (Ii (xs ((6 * (n : Int)) + 1).toNat)), .int (Ii (xs ((6 * (n : Int)) + 2).toNat))] mv_L_148 hd_X12_typev kK_286 rfl rfl rfl (Nat.le_of_ble_eq_true rfl) dL_law_461 (P := fun r M1 => ∃ R', jRg ftR ksR R' ∧ Q0 r R' ∧ M1 = jUpO 286 103 R' (jUp 286 C' M)) ⟨R, Q0, (jUp_R hRm), hRR, ⟨(xs ((6 * (n : Int)) + 1).toNat), (xs ((6 * (n : Int)) + 2).toNat), rfl, (hxs _), (hxs _), hw2⟩, fun r R' a b => ⟨R', a, b, rfl⟩⟩ (fun rb M2 grb q => ?_)
    obtain ⟨R', hRR', hq, rfl⟩ := q
    obtain ⟨q0, hRal⟩ := h3 _ R' hq
    refine j_istore (lv' := [(6, .int (Ii rb)), (5, .int (Ii 2)), (0, .ref (ad 910)), (1, .ref (ad 0)), (2, .ref (ad 286)), (3, .ref (ad 389)), (4, .int (Ii (6 * (n : Int))))]) hO dL_law_464 (by decide) rfl ?_
    refine j_aload_n hO dL_law_466 rfl 4 rfl ?_
    refine j_callVi hO (lfR hin (c_X12_thrown (l := l) (D := D) (cy := cy) (ad := fun c => ad (286 + c)) (jIn_R hin))) rfl om_2146 ⟨rfl, rfl, Nat.le_of_ble_eq_true rfl, Nat.le_of_ble_eq_true rfl⟩ [] mv_L_149 hd_X12_thrownv kK_286 rfl rfl rfl (Nat.le_of_ble_eq_true rfl) dL_law_467 (P := fun r M1 => r = R' 0 0 ∧ M1 = jUpO 286 103 R' (jUp 286 C' M)) ⟨R', fun v M' => v = R' 0 0 ∧ M' = R', fun c hc => jUpO_R hc, hRR', ⟨rfl, fun v e1 _ => ⟨e1, rfl⟩⟩, fun r C9 _ b => ⟨b.1, by rw [b.2]; exact jUpO_i⟩⟩ (fun rt M3 grt q => ?_)
    obtain ⟨ert, rfl⟩ := q
    refine j_iload hO dL_law_470 1 rfl ?_
    refine j_icmp_eq hO 477 grt rk_2 dL_law_472 (by decide) (fun _ => ?_) (fun z => absurd (by exact (ert.trans (by simpa using q0))) z)
    refine j_iload hO dL_law_477 1 rfl ?_
    refine j_if_ne hO 494 rk_2 dL_law_479 (by decide) (fun _ => ?_) (fun z => absurd z (by decide))
    refine j_goto hO 3111 dL_law_494 (by decide) ?_
    exact j_sub hO [2, 3, 4, 5, 6] rfl (hE.2.2 _ _ _ _ _ _ _ _ (by omega) (by omega) (hnext _ (InvL_n hRal hRC' hRR' (fun c hc => jUpO_lo hc) (fun c hc => jUpO_R hc))))
  · obtain ⟨Q0, hw2, h3⟩ := h4 _ C' hq
    refine j_istore (lv' := [(5, .int (Ii 3)), (0, .ref (ad 910)), (1, .ref (ad 0)), (2, .ref (ad 286)), (3, .ref (ad 389)), (4, .int (Ii (6 * (n : Int))))]) hO dL_law_446 (by decide) rfl ?_
    refine j_aload_n hO dL_law_448 rfl 3 rfl ?_
    refine j_aload_n hO dL_law_449 rfl 1 rfl ?_
    refine j_iload hO dL_law_450 5 rfl ?_
    refine j_iconst hO dL_law_452 ?_
    refine j_iadd hO dL_law_453 ?_
    refine j_ti hO XtB_sc (by unfold ri_; omega) (by omega) (by omega) dL_law_454 ?_
    refine j_aload_n hO dL_law_455 rfl 1 rfl ?_
    refine j_iload hO dL_law_456 5 rfl ?_
    refine j_iconst hO dL_law_458 ?_
    refine j_iadd hO dL_law_459 ?_
    refine j_ti hO XtB_sc (by unfold ri_; omega) (by omega) (by omega) dL_law_460 ?_
    refine j_callVi hO (lfR hin (c_X12_type (l := l) (D := D) (cy := cy) (ad := fun c => ad (286 + c)) (jIn_R hin))) rfl om_2142 ⟨rfl, rfl, Nat.le_of_ble_eq_true rfl, Nat.le_of_ble_eq_true rfl⟩ [.int (Ii (xs ((6 * (n : Int)) + 1).toNat)), .int (Ii (xs ((6 * (n : Int)) + 2).toNat))] mv_L_148 hd_X12_typev kK_286 rfl rfl rfl (Nat.le_of_ble_eq_true rfl) dL_law_461 (P := fun r M1 => ∃ R', jRg ftR ksR R' ∧ Q0 r R' ∧ M1 = jUpO 286 103 R' (jUp 286 C' M)) ⟨R, Q0, (jUp_R hRm), hRR, ⟨(xs ((6 * (n : Int)) + 1).toNat), (xs ((6 * (n : Int)) + 2).toNat), rfl, (hxs _), (hxs _), hw2⟩, fun r R' a b => ⟨R', a, b, rfl⟩⟩ (fun rb M2 grb q => ?_)
    obtain ⟨R', hRR', hq, rfl⟩ := q
    obtain ⟨q0, hRal⟩ := h3 _ R' hq
    refine j_istore (lv' := [(6, .int (Ii rb)), (5, .int (Ii 3)), (0, .ref (ad 910)), (1, .ref (ad 0)), (2, .ref (ad 286)), (3, .ref (ad 389)), (4, .int (Ii (6 * (n : Int))))]) hO dL_law_464 (by decide) rfl ?_
    refine j_aload_n hO dL_law_466 rfl 4 rfl ?_
    refine j_callVi hO (lfR hin (c_X12_thrown (l := l) (D := D) (cy := cy) (ad := fun c => ad (286 + c)) (jIn_R hin))) rfl om_2146 ⟨rfl, rfl, Nat.le_of_ble_eq_true rfl, Nat.le_of_ble_eq_true rfl⟩ [] mv_L_149 hd_X12_thrownv kK_286 rfl rfl rfl (Nat.le_of_ble_eq_true rfl) dL_law_467 (P := fun r M1 => r = R' 0 0 ∧ M1 = jUpO 286 103 R' (jUp 286 C' M)) ⟨R', fun v M' => v = R' 0 0 ∧ M' = R', fun c hc => jUpO_R hc, hRR', ⟨rfl, fun v e1 _ => ⟨e1, rfl⟩⟩, fun r C9 _ b => ⟨b.1, by rw [b.2]; exact jUpO_i⟩⟩ (fun rt M3 grt q => ?_)
    obtain ⟨ert, rfl⟩ := q
    refine j_iload hO dL_law_470 1 rfl ?_
    refine j_icmp_eq hO 477 grt rk_3 dL_law_472 (by decide) (fun _ => ?_) (fun z => absurd (by exact (ert.trans (by simpa using q0))) z)
    refine j_iload hO dL_law_477 1 rfl ?_
    refine j_if_ne hO 494 rk_3 dL_law_479 (by decide) (fun _ => ?_) (fun z => absurd z (by decide))
    refine j_goto hO 3111 dL_law_494 (by decide) ?_
    exact j_sub hO [2, 3, 4, 5, 6] rfl (hE.2.2 _ _ _ _ _ _ _ _ (by omega) (by omega) (hnext _ (InvL_n hRal hRC' hRR' (fun c hc => jUpO_lo hc) (fun c hc => jUpO_R hc))))
set_option maxHeartbeats 4000000 in
set_option maxRecDepth 100000 in
theorem lc_6 {l : Launch} {D : va_G} {cy : Nat → ClassId} {ad : Nat → Nat} {xs : Nat → Int} {L : Nat} {J : Nat → Nat → Nat → List (Nat × Value) → List Value → MM → Prop} (hst : l.stackTraces = false) (hin : jIn ad ksK.length) (hE : LwE l D cy ad xs L J) (hxs : ∀ j, ri_ (xs j)) {n : Nat} (hn : n < 512) (hL : 6 * n + 6 ≤ L) {M : MM} (hI : InvL n M) (hnext : ∀ M1, InvL (n + 1) M1 → J (390 + 3 * (n + 1)) (571600 + 18 * (n + 1)) 3111 [(0, .ref (ad 910)), (1, .ref (ad 0)), (2, .ref (ad 286)), (3, .ref (ad 389)), (4, .int (Ii (6 * (n : Int))))] [] M1) : J (390 + 3 * n) (571600 + 18 * n) 497 [(0, .ref (ad 910)), (1, .ref (ad 0)), (2, .ref (ad 286)), (3, .ref (ad 389)), (4, .int (Ii (6 * (n : Int))))] [] M := by
  have gi : ri_ (6 * (n : Int)) := by unfold ri_; omega
  obtain ⟨C, R, hR, hRC, hRR, hC, hRm⟩ := hI
  have hO := hE.1 (390 + 3 * n) (571600 + 18 * n) (by omega) (by omega)
  refine j_aload_n hO dL_law_497 rfl 1 rfl ?_
  refine j_aload_n hO dL_law_498 rfl 0 rfl ?_
  refine j_iload hO dL_law_499 4 rfl ?_
  refine j_iconst hO dL_law_501 ?_
  refine j_iadd hO dL_law_502 ?_
  refine j_ti hO XtB_sc (by unfold ri_; omega) (by omega) (by omega) dL_law_503 ?_
  refine j_aload_n hO dL_law_504 rfl 0 rfl ?_
  refine j_iload hO dL_law_505 4 rfl ?_
  refine j_iconst hO dL_law_507 ?_
  refine j_iadd hO dL_law_508 ?_
  refine j_ti hO XtB_sc (by unfold ri_; omega) (by omega) (by omega) dL_law_509 ?_
  refine j_aload_n hO dL_law_510 rfl 0 rfl ?_
  refine j_iload hO dL_law_511 4 rfl ?_
  refine j_iconst hO dL_law_513 ?_
  refine j_iadd hO dL_law_514 ?_
  refine j_ti hO XtB_sc (by unfold ri_; omega) (by omega) (by omega) dL_law_515 ?_
  refine j_aload_n hO dL_law_516 rfl 0 rfl ?_
  refine j_iload hO dL_law_517 4 rfl ?_
  refine j_iconst hO dL_law_519 ?_
  refine j_iadd hO dL_law_520 ?_
  refine j_ti hO XtB_sc (by unfold ri_; omega) (by omega) (by omega) dL_law_521 ?_
  by_cases zz : (xs ((6 * (n : Int)) + 4).toNat) = 0
  · refine j_if_eq hO 529 (hxs _) dL_law_522 (by decide) (fun _ => ?_) (fun z => absurd zz z)
    refine j_iconst hO dL_law_529 ?_
    refine j_aload_n hO dL_law_530 rfl 3 rfl ?_
    obtain ⟨Q1, X1, hw1, h2, h4⟩ := v_field (p1 := (xs ((6 * (n : Int)) + 1).toNat)) (p2 := (xs ((6 * (n : Int)) + 2).toNat)) (p3 := (xs ((6 * (n : Int)) + 3).toNat)) (p4 := 0) (by omega) (by omega) (hxs _) (by decide) hR
    have hWL : WL_field ad (fun r M1 => ∃ C', jRg ftC ksC C' ∧ ((∃ r1, r = 0 ∧ Q1 r1 C' ∧ M1 = (ux_ (jUp 286 C' M) 389 0 r1)) ∨ (r = 1 ∧ X1 "java/lang/IndexOutOfBoundsException" C' ∧ M1 = jUp 286 C' M) ∨ (r = 2 ∧ X1 "java/lang/IllegalArgumentException" C' ∧ M1 = jUp 286 C' M) ∨ (r = 3 ∧ X1 "java/lang/IllegalStateException" C' ∧ M1 = jUp 286 C' M))) [.ref (ad 0), .int (Ii (xs ((6 * (n : Int)) + 1).toNat)), .int (Ii (xs ((6 * (n : Int)) + 2).toNat)), .int (Ii (xs ((6 * (n : Int)) + 3).toNat)), .int (Ii 0), .ref (ad 389)] M := by
      refine ⟨(xs ((6 * (n : Int)) + 1).toNat), (xs ((6 * (n : Int)) + 2).toNat), (xs ((6 * (n : Int)) + 3).toNat), 0, rfl, (hxs _), (hxs _), (hxs _), (by decide), ⟨C, Q1, X1, hC, hRC, hw1, fun r1 C' a b => ⟨C', a, Or.inl ⟨r1, rfl, b, rfl⟩⟩, fun E C' a m b => ?_⟩⟩
      simp only [List.mem_cons, List.not_mem_nil, or_false] at m
      rcases m with rfl | rfl | rfl
      · exact Or.inr (Or.inl ⟨rfl, C', a, Or.inr (Or.inr (Or.inl ⟨rfl, b, rfl⟩))⟩)
      · exact Or.inr (Or.inr (⟨rfl, C', a, Or.inr (Or.inr (Or.inr (⟨rfl, b, rfl⟩)))⟩))
      · exact Or.inl ⟨rfl, C', a, Or.inr (Or.inl ⟨rfl, b, rfl⟩)⟩
    refine hE.2.1 _ _ 1 6 (by omega) (by omega) _ _ _ _ _ _ _ _ _ _ _ [.ref (ad 0), .int (Ii (xs ((6 * (n : Int)) + 1).toNat)), .int (Ii (xs ((6 * (n : Int)) + 2).toNat)), .int (Ii (xs ((6 * (n : Int)) + 3).toNat)), .int (Ii 0), .ref (ad 389)] _ _ _ (cl_field (l := l) (D := D) (cy := cy) (xs := xs) (L := L) hst hin) rfl om_2150 ⟨rfl, rfl, Nat.le_of_ble_eq_true rfl, Nat.le_of_ble_eq_true rfl⟩ mv_L_152 hd_L_field rfl (Nat.le_of_ble_eq_true rfl) dL_law_531 hWL (fun rk1 M1 grk q => ?_)
    have hO := hE.1 (390 + 3 * n + 1) (571600 + 18 * n + 6) (by omega) (by omega)
    obtain ⟨C', hRC', q⟩ := q
    rcases q with ⟨r1, rfl, hq, rfl⟩ | ⟨rfl, hq, rfl⟩ | ⟨rfl, hq, rfl⟩ | ⟨rfl, hq, rfl⟩
    · obtain ⟨Q0, hw2, h3⟩ := h2 _ C' hq
      refine j_istore (lv' := [(5, .int (Ii 0)), (0, .ref (ad 910)), (1, .ref (ad 0)), (2, .ref (ad 286)), (3, .ref (ad 389)), (4, .int (Ii (6 * (n : Int))))]) hO dL_law_534 (by decide) rfl ?_
      refine j_aload_n hO dL_law_536 rfl 3 rfl ?_
      refine j_aload_n hO dL_law_537 rfl 1 rfl ?_
      refine j_iload hO dL_law_538 5 rfl ?_
      refine j_iconst hO dL_law_540 ?_
      refine j_iadd hO dL_law_541 ?_
      refine j_ti hO XtB_sc (by unfold ri_; omega) (by omega) (by omega) dL_law_542 ?_
      refine j_aload_n hO dL_law_543 rfl 1 rfl ?_
      refine j_iload hO dL_law_544 5 rfl ?_
      refine j_iconst hO dL_law_546 ?_
      refine j_iadd hO dL_law_547 ?_
      refine j_ti hO XtB_sc (by unfold ri_; omega) (by omega) (by omega) dL_law_548 ?_
      refine j_aload_n hO dL_law_549 rfl 1 rfl ?_
      refine j_iload hO dL_law_550 5 rfl ?_
      refine j_iconst hO dL_law_552 ?_
      refine j_iadd hO dL_law_553 ?_
      refine j_ti hO XtB_sc (by unfold ri_; omega) (by omega) (by omega) dL_law_554 ?_
      refine j_aload_n hO dL_law_555 rfl 1 rfl ?_
      refine j_iload hO dL_law_556 5 rfl ?_
      refine j_iconst hO dL_law_558 ?_
      refine j_iadd hO dL_law_559 ?_
      refine j_ti hO XtB_sc (by unfold ri_; omega) (by omega) (by omega) dL_law_560 ?_
      refine j_if_eq hO 568 (hxs _) dL_law_561 (by decide) (fun _ => ?_) (fun z => absurd zz z)
      refine j_iconst hO dL_law_568 ?_
      refine j_callVi hO (lfR hin (c_X12_field (l := l) (D := D) (cy := cy) (ad := fun c => ad (286 + c)) (jIn_R hin))) rfl om_2153 ⟨rfl, rfl, Nat.le_of_ble_eq_true rfl, Nat.le_of_ble_eq_true rfl⟩ [.int (Ii (xs ((6 * (n : Int)) + 1).toNat)), .int (Ii (xs ((6 * (n : Int)) + 2).toNat)), .int (Ii (xs ((6 * (n : Int)) + 3).toNat)), .int (Ii 0)] mv_L_155 hd_X12_fieldv kK_286 rfl rfl rfl (Nat.le_of_ble_eq_true rfl) dL_law_569 (P := fun r M1 => ∃ R', jRg ftR ksR R' ∧ Q0 r R' ∧ M1 = jUpO 286 103 R' (ux_ (jUp 286 C' M) 389 0 r1)) ⟨R, Q0, (jUp_U hRm), hRR, ⟨(xs ((6 * (n : Int)) + 1).toNat), (xs ((6 * (n : Int)) + 2).toNat), (xs ((6 * (n : Int)) + 3).toNat), 0, rfl, (hxs _), (hxs _), (hxs _), (by decide), hw2⟩, fun r R' a b => ⟨R', a, b, rfl⟩⟩ (fun rb M2 grb q => ?_)
      obtain ⟨R', hRR', hq, rfl⟩ := q
      obtain ⟨q1, q0, hRal⟩ := h3 _ R' hq
      refine j_istore (lv' := [(6, .int (Ii rb)), (5, .int (Ii 0)), (0, .ref (ad 910)), (1, .ref (ad 0)), (2, .ref (ad 286)), (3, .ref (ad 389)), (4, .int (Ii (6 * (n : Int))))]) hO dL_law_572 (by decide) rfl ?_
      refine j_aload_n hO dL_law_574 rfl 4 rfl ?_
      refine j_callVi hO (lfR hin (c_X12_thrown (l := l) (D := D) (cy := cy) (ad := fun c => ad (286 + c)) (jIn_R hin))) rfl om_2146 ⟨rfl, rfl, Nat.le_of_ble_eq_true rfl, Nat.le_of_ble_eq_true rfl⟩ [] mv_L_149 hd_X12_thrownv kK_286 rfl rfl rfl (Nat.le_of_ble_eq_true rfl) dL_law_575 (P := fun r M1 => r = R' 0 0 ∧ M1 = jUpO 286 103 R' (ux_ (jUp 286 C' M) 389 0 r1)) ⟨R', fun v M' => v = R' 0 0 ∧ M' = R', fun c hc => jUpO_R hc, hRR', ⟨rfl, fun v e1 _ => ⟨e1, rfl⟩⟩, fun r C9 _ b => ⟨b.1, by rw [b.2]; exact jUpO_i⟩⟩ (fun rt M3 grt q => ?_)
      obtain ⟨ert, rfl⟩ := q
      refine j_iload hO dL_law_578 1 rfl ?_
      refine j_icmp_eq hO 585 grt rk_0 dL_law_580 (by decide) (fun _ => ?_) (fun z => absurd (by exact (ert.trans q0)) z)
      refine j_iload hO dL_law_585 1 rfl ?_
      refine j_if_ne hO 602 rk_0 dL_law_587 (by decide) (fun z => absurd z (by decide)) (fun _ => ?_)
      refine j_aload_n hO dL_law_590 rfl 5 rfl ?_
      refine j_iconst hO dL_law_591 ?_
      refine j_lald hO rk_0 kK_389 (by decide) (by decide) dL_law_592 (fun v592 ev592 gv592 => ?_)
      refine j_iload hO dL_law_593 0 rfl ?_
      refine j_i2l hO grb dL_law_595 ?_
      refine j_lcmp_eq hO 602 gv592 (rl_ri grb) dL_law_596 dL_law_597 (by decide) (fun _ => ?_) (fun z => absurd (by rw [ev592]; exact (jUpO_o 389 (by decide)).trans ((ux_s _ _ _ _).trans q1)) z)
      refine j_goto hO 3111 dL_law_602 (by decide) ?_
      exact j_sub hO [2, 3, 4, 5, 6] rfl (hE.2.2 _ _ _ _ _ _ _ _ (by omega) (by omega) (hnext _ (InvL_n hRal hRC' hRR' (fun c hc => jUpO_lu hc) (fun c hc => jUpO_R hc))))
    · obtain ⟨Q0, hw2, h3⟩ := h4 _ C' hq
      refine j_istore (lv' := [(5, .int (Ii 1)), (0, .ref (ad 910)), (1, .ref (ad 0)), (2, .ref (ad 286)), (3, .ref (ad 389)), (4, .int (Ii (6 * (n : Int))))]) hO dL_law_534 (by decide) rfl ?_
      refine j_aload_n hO dL_law_536 rfl 3 rfl ?_
      refine j_aload_n hO dL_law_537 rfl 1 rfl ?_
      refine j_iload hO dL_law_538 5 rfl ?_
      refine j_iconst hO dL_law_540 ?_
      refine j_iadd hO dL_law_541 ?_
      refine j_ti hO XtB_sc (by unfold ri_; omega) (by omega) (by omega) dL_law_542 ?_
      refine j_aload_n hO dL_law_543 rfl 1 rfl ?_
      refine j_iload hO dL_law_544 5 rfl ?_
      refine j_iconst hO dL_law_546 ?_
      refine j_iadd hO dL_law_547 ?_
      refine j_ti hO XtB_sc (by unfold ri_; omega) (by omega) (by omega) dL_law_548 ?_
      refine j_aload_n hO dL_law_549 rfl 1 rfl ?_
      refine j_iload hO dL_law_550 5 rfl ?_
      refine j_iconst hO dL_law_552 ?_
      refine j_iadd hO dL_law_553 ?_
      refine j_ti hO XtB_sc (by unfold ri_; omega) (by omega) (by omega) dL_law_554 ?_
      refine j_aload_n hO dL_law_555 rfl 1 rfl ?_
      refine j_iload hO dL_law_556 5 rfl ?_
      refine j_iconst hO dL_law_558 ?_
      refine j_iadd hO dL_law_559 ?_
      refine j_ti hO XtB_sc (by unfold ri_; omega) (by omega) (by omega) dL_law_560 ?_
      refine j_if_eq hO 568 (hxs _) dL_law_561 (by decide) (fun _ => ?_) (fun z => absurd zz z)
      refine j_iconst hO dL_law_568 ?_
      refine j_callVi hO (lfR hin (c_X12_field (l := l) (D := D) (cy := cy) (ad := fun c => ad (286 + c)) (jIn_R hin))) rfl om_2153 ⟨rfl, rfl, Nat.le_of_ble_eq_true rfl, Nat.le_of_ble_eq_true rfl⟩ [.int (Ii (xs ((6 * (n : Int)) + 1).toNat)), .int (Ii (xs ((6 * (n : Int)) + 2).toNat)), .int (Ii (xs ((6 * (n : Int)) + 3).toNat)), .int (Ii 0)] mv_L_155 hd_X12_fieldv kK_286 rfl rfl rfl (Nat.le_of_ble_eq_true rfl) dL_law_569 (P := fun r M1 => ∃ R', jRg ftR ksR R' ∧ Q0 r R' ∧ M1 = jUpO 286 103 R' (jUp 286 C' M)) ⟨R, Q0, (jUp_R hRm), hRR, ⟨(xs ((6 * (n : Int)) + 1).toNat), (xs ((6 * (n : Int)) + 2).toNat), (xs ((6 * (n : Int)) + 3).toNat), 0, rfl, (hxs _), (hxs _), (hxs _), (by decide), hw2⟩, fun r R' a b => ⟨R', a, b, rfl⟩⟩ (fun rb M2 grb q => ?_)
      obtain ⟨R', hRR', hq, rfl⟩ := q
      obtain ⟨q0, hRal⟩ := h3 _ R' hq
      refine j_istore (lv' := [(6, .int (Ii rb)), (5, .int (Ii 1)), (0, .ref (ad 910)), (1, .ref (ad 0)), (2, .ref (ad 286)), (3, .ref (ad 389)), (4, .int (Ii (6 * (n : Int))))]) hO dL_law_572 (by decide) rfl ?_
      refine j_aload_n hO dL_law_574 rfl 4 rfl ?_
      refine j_callVi hO (lfR hin (c_X12_thrown (l := l) (D := D) (cy := cy) (ad := fun c => ad (286 + c)) (jIn_R hin))) rfl om_2146 ⟨rfl, rfl, Nat.le_of_ble_eq_true rfl, Nat.le_of_ble_eq_true rfl⟩ [] mv_L_149 hd_X12_thrownv kK_286 rfl rfl rfl (Nat.le_of_ble_eq_true rfl) dL_law_575 (P := fun r M1 => r = R' 0 0 ∧ M1 = jUpO 286 103 R' (jUp 286 C' M)) ⟨R', fun v M' => v = R' 0 0 ∧ M' = R', fun c hc => jUpO_R hc, hRR', ⟨rfl, fun v e1 _ => ⟨e1, rfl⟩⟩, fun r C9 _ b => ⟨b.1, by rw [b.2]; exact jUpO_i⟩⟩ (fun rt M3 grt q => ?_)
      obtain ⟨ert, rfl⟩ := q
      refine j_iload hO dL_law_578 1 rfl ?_
      refine j_icmp_eq hO 585 grt rk_1 dL_law_580 (by decide) (fun _ => ?_) (fun z => absurd (by exact (ert.trans (by simpa using q0))) z)
      refine j_iload hO dL_law_585 1 rfl ?_
      refine j_if_ne hO 602 rk_1 dL_law_587 (by decide) (fun _ => ?_) (fun z => absurd z (by decide))
      refine j_goto hO 3111 dL_law_602 (by decide) ?_
      exact j_sub hO [2, 3, 4, 5, 6] rfl (hE.2.2 _ _ _ _ _ _ _ _ (by omega) (by omega) (hnext _ (InvL_n hRal hRC' hRR' (fun c hc => jUpO_lo hc) (fun c hc => jUpO_R hc))))
    · obtain ⟨Q0, hw2, h3⟩ := h4 _ C' hq
      refine j_istore (lv' := [(5, .int (Ii 2)), (0, .ref (ad 910)), (1, .ref (ad 0)), (2, .ref (ad 286)), (3, .ref (ad 389)), (4, .int (Ii (6 * (n : Int))))]) hO dL_law_534 (by decide) rfl ?_
      refine j_aload_n hO dL_law_536 rfl 3 rfl ?_
      refine j_aload_n hO dL_law_537 rfl 1 rfl ?_
      refine j_iload hO dL_law_538 5 rfl ?_
      refine j_iconst hO dL_law_540 ?_
      refine j_iadd hO dL_law_541 ?_
      refine j_ti hO XtB_sc (by unfold ri_; omega) (by omega) (by omega) dL_law_542 ?_
      refine j_aload_n hO dL_law_543 rfl 1 rfl ?_
      refine j_iload hO dL_law_544 5 rfl ?_
      refine j_iconst hO dL_law_546 ?_
      refine j_iadd hO dL_law_547 ?_
      refine j_ti hO XtB_sc (by unfold ri_; omega) (by omega) (by omega) dL_law_548 ?_
      refine j_aload_n hO dL_law_549 rfl 1 rfl ?_
      refine j_iload hO dL_law_550 5 rfl ?_
      refine j_iconst hO dL_law_552 ?_
      refine j_iadd hO dL_law_553 ?_
      refine j_ti hO XtB_sc (by unfold ri_; omega) (by omega) (by omega) dL_law_554 ?_
      refine j_aload_n hO dL_law_555 rfl 1 rfl ?_
      refine j_iload hO dL_law_556 5 rfl ?_
      refine j_iconst hO dL_law_558 ?_
      refine j_iadd hO dL_law_559 ?_
      refine j_ti hO XtB_sc (by unfold ri_; omega) (by omega) (by omega) dL_law_560 ?_
      refine j_if_eq hO 568 (hxs _) dL_law_561 (by decide) (fun _ => ?_) (fun z => absurd zz z)
      refine j_iconst hO dL_law_568 ?_
      refine j_callVi hO (lfR hin (c_X12_field (l := l) (D := D) (cy := cy) (ad := fun c => ad (286 + c)) (jIn_R hin))) rfl om_2153 ⟨rfl, rfl, Nat.le_of_ble_eq_true rfl, Nat.le_of_ble_eq_true rfl⟩ [.int (Ii (xs ((6 * (n : Int)) + 1).toNat)), .int (Ii (xs ((6 * (n : Int)) + 2).toNat)), .int (Ii (xs ((6 * (n : Int)) + 3).toNat)), .int (Ii 0)] mv_L_155 hd_X12_fieldv kK_286 rfl rfl rfl (Nat.le_of_ble_eq_true rfl) dL_law_569 (P := fun r M1 => ∃ R', jRg ftR ksR R' ∧ Q0 r R' ∧ M1 = jUpO 286 103 R' (jUp 286 C' M)) ⟨R, Q0, (jUp_R hRm), hRR, ⟨(xs ((6 * (n : Int)) + 1).toNat), (xs ((6 * (n : Int)) + 2).toNat), (xs ((6 * (n : Int)) + 3).toNat), 0, rfl, (hxs _), (hxs _), (hxs _), (by decide), hw2⟩, fun r R' a b => ⟨R', a, b, rfl⟩⟩ (fun rb M2 grb q => ?_)
      obtain ⟨R', hRR', hq, rfl⟩ := q
      obtain ⟨q0, hRal⟩ := h3 _ R' hq
      refine j_istore (lv' := [(6, .int (Ii rb)), (5, .int (Ii 2)), (0, .ref (ad 910)), (1, .ref (ad 0)), (2, .ref (ad 286)), (3, .ref (ad 389)), (4, .int (Ii (6 * (n : Int))))]) hO dL_law_572 (by decide) rfl ?_
      refine j_aload_n hO dL_law_574 rfl 4 rfl ?_
      refine j_callVi hO (lfR hin (c_X12_thrown (l := l) (D := D) (cy := cy) (ad := fun c => ad (286 + c)) (jIn_R hin))) rfl om_2146 ⟨rfl, rfl, Nat.le_of_ble_eq_true rfl, Nat.le_of_ble_eq_true rfl⟩ [] mv_L_149 hd_X12_thrownv kK_286 rfl rfl rfl (Nat.le_of_ble_eq_true rfl) dL_law_575 (P := fun r M1 => r = R' 0 0 ∧ M1 = jUpO 286 103 R' (jUp 286 C' M)) ⟨R', fun v M' => v = R' 0 0 ∧ M' = R', fun c hc => jUpO_R hc, hRR', ⟨rfl, fun v e1 _ => ⟨e1, rfl⟩⟩, fun r C9 _ b => ⟨b.1, by rw [b.2]; exact jUpO_i⟩⟩ (fun rt M3 grt q => ?_)
      obtain ⟨ert, rfl⟩ := q
      refine j_iload hO dL_law_578 1 rfl ?_
      refine j_icmp_eq hO 585 grt rk_2 dL_law_580 (by decide) (fun _ => ?_) (fun z => absurd (by exact (ert.trans (by simpa using q0))) z)
      refine j_iload hO dL_law_585 1 rfl ?_
      refine j_if_ne hO 602 rk_2 dL_law_587 (by decide) (fun _ => ?_) (fun z => absurd z (by decide))
      refine j_goto hO 3111 dL_law_602 (by decide) ?_
      exact j_sub hO [2, 3, 4, 5, 6] rfl (hE.2.2 _ _ _ _ _ _ _ _ (by omega) (by omega) (hnext _ (InvL_n hRal hRC' hRR' (fun c hc => jUpO_lo hc) (fun c hc => jUpO_R hc))))
    · obtain ⟨Q0, hw2, h3⟩ := h4 _ C' hq
      refine j_istore (lv' := [(5, .int (Ii 3)), (0, .ref (ad 910)), (1, .ref (ad 0)), (2, .ref (ad 286)), (3, .ref (ad 389)), (4, .int (Ii (6 * (n : Int))))]) hO dL_law_534 (by decide) rfl ?_
      refine j_aload_n hO dL_law_536 rfl 3 rfl ?_
      refine j_aload_n hO dL_law_537 rfl 1 rfl ?_
      refine j_iload hO dL_law_538 5 rfl ?_
      refine j_iconst hO dL_law_540 ?_
      refine j_iadd hO dL_law_541 ?_
      refine j_ti hO XtB_sc (by unfold ri_; omega) (by omega) (by omega) dL_law_542 ?_
      refine j_aload_n hO dL_law_543 rfl 1 rfl ?_
      refine j_iload hO dL_law_544 5 rfl ?_
      refine j_iconst hO dL_law_546 ?_
      refine j_iadd hO dL_law_547 ?_
      refine j_ti hO XtB_sc (by unfold ri_; omega) (by omega) (by omega) dL_law_548 ?_
      refine j_aload_n hO dL_law_549 rfl 1 rfl ?_
      refine j_iload hO dL_law_550 5 rfl ?_
      refine j_iconst hO dL_law_552 ?_
      refine j_iadd hO dL_law_553 ?_
      refine j_ti hO XtB_sc (by unfold ri_; omega) (by omega) (by omega) dL_law_554 ?_
      refine j_aload_n hO dL_law_555 rfl 1 rfl ?_
      refine j_iload hO dL_law_556 5 rfl ?_
      refine j_iconst hO dL_law_558 ?_
      refine j_iadd hO dL_law_559 ?_
      refine j_ti hO XtB_sc (by unfold ri_; omega) (by omega) (by omega) dL_law_560 ?_
      refine j_if_eq hO 568 (hxs _) dL_law_561 (by decide) (fun _ => ?_) (fun z => absurd zz z)
      refine j_iconst hO dL_law_568 ?_
      refine j_callVi hO (lfR hin (c_X12_field (l := l) (D := D) (cy := cy) (ad := fun c => ad (286 + c)) (jIn_R hin))) rfl om_2153 ⟨rfl, rfl, Nat.le_of_ble_eq_true rfl, Nat.le_of_ble_eq_true rfl⟩ [.int (Ii (xs ((6 * (n : Int)) + 1).toNat)), .int (Ii (xs ((6 * (n : Int)) + 2).toNat)), .int (Ii (xs ((6 * (n : Int)) + 3).toNat)), .int (Ii 0)] mv_L_155 hd_X12_fieldv kK_286 rfl rfl rfl (Nat.le_of_ble_eq_true rfl) dL_law_569 (P := fun r M1 => ∃ R', jRg ftR ksR R' ∧ Q0 r R' ∧ M1 = jUpO 286 103 R' (jUp 286 C' M)) ⟨R, Q0, (jUp_R hRm), hRR, ⟨(xs ((6 * (n : Int)) + 1).toNat), (xs ((6 * (n : Int)) + 2).toNat), (xs ((6 * (n : Int)) + 3).toNat), 0, rfl, (hxs _), (hxs _), (hxs _), (by decide), hw2⟩, fun r R' a b => ⟨R', a, b, rfl⟩⟩ (fun rb M2 grb q => ?_)
      obtain ⟨R', hRR', hq, rfl⟩ := q
      obtain ⟨q0, hRal⟩ := h3 _ R' hq
      refine j_istore (lv' := [(6, .int (Ii rb)), (5, .int (Ii 3)), (0, .ref (ad 910)), (1, .ref (ad 0)), (2, .ref (ad 286)), (3, .ref (ad 389)), (4, .int (Ii (6 * (n : Int))))]) hO dL_law_572 (by decide) rfl ?_
      refine j_aload_n hO dL_law_574 rfl 4 rfl ?_
      refine j_callVi hO (lfR hin (c_X12_thrown (l := l) (D := D) (cy := cy) (ad := fun c => ad (286 + c)) (jIn_R hin))) rfl om_2146 ⟨rfl, rfl, Nat.le_of_ble_eq_true rfl, Nat.le_of_ble_eq_true rfl⟩ [] mv_L_149 hd_X12_thrownv kK_286 rfl rfl rfl (Nat.le_of_ble_eq_true rfl) dL_law_575 (P := fun r M1 => r = R' 0 0 ∧ M1 = jUpO 286 103 R' (jUp 286 C' M)) ⟨R', fun v M' => v = R' 0 0 ∧ M' = R', fun c hc => jUpO_R hc, hRR', ⟨rfl, fun v e1 _ => ⟨e1, rfl⟩⟩, fun r C9 _ b => ⟨b.1, by rw [b.2]; exact jUpO_i⟩⟩ (fun rt M3 grt q => ?_)
      obtain ⟨ert, rfl⟩ := q
      refine j_iload hO dL_law_578 1 rfl ?_
      refine j_icmp_eq hO 585 grt rk_3 dL_law_580 (by decide) (fun _ => ?_) (fun z => absurd (by exact (ert.trans (by simpa using q0))) z)
      refine j_iload hO dL_law_585 1 rfl ?_
      refine j_if_ne hO 602 rk_3 dL_law_587 (by decide) (fun _ => ?_) (fun z => absurd z (by decide))
      refine j_goto hO 3111 dL_law_602 (by decide) ?_
      exact j_sub hO [2, 3, 4, 5, 6] rfl (hE.2.2 _ _ _ _ _ _ _ _ (by omega) (by omega) (hnext _ (InvL_n hRal hRC' hRR' (fun c hc => jUpO_lo hc) (fun c hc => jUpO_R hc))))
  · refine j_if_eq hO 529 (hxs _) dL_law_522 (by decide) (fun z => absurd z zz) (fun _ => ?_)
    refine j_iconst hO dL_law_525 ?_
    refine j_goto hO 530 dL_law_526 (by decide) ?_
    refine j_aload_n hO dL_law_530 rfl 3 rfl ?_
    obtain ⟨Q1, X1, hw1, h2, h4⟩ := v_field (p1 := (xs ((6 * (n : Int)) + 1).toNat)) (p2 := (xs ((6 * (n : Int)) + 2).toNat)) (p3 := (xs ((6 * (n : Int)) + 3).toNat)) (p4 := 1) (by omega) (by omega) (hxs _) (by decide) hR
    have hWL : WL_field ad (fun r M1 => ∃ C', jRg ftC ksC C' ∧ ((∃ r1, r = 0 ∧ Q1 r1 C' ∧ M1 = (ux_ (jUp 286 C' M) 389 0 r1)) ∨ (r = 1 ∧ X1 "java/lang/IndexOutOfBoundsException" C' ∧ M1 = jUp 286 C' M) ∨ (r = 2 ∧ X1 "java/lang/IllegalArgumentException" C' ∧ M1 = jUp 286 C' M) ∨ (r = 3 ∧ X1 "java/lang/IllegalStateException" C' ∧ M1 = jUp 286 C' M))) [.ref (ad 0), .int (Ii (xs ((6 * (n : Int)) + 1).toNat)), .int (Ii (xs ((6 * (n : Int)) + 2).toNat)), .int (Ii (xs ((6 * (n : Int)) + 3).toNat)), .int (Ii 1), .ref (ad 389)] M := by
      refine ⟨(xs ((6 * (n : Int)) + 1).toNat), (xs ((6 * (n : Int)) + 2).toNat), (xs ((6 * (n : Int)) + 3).toNat), 1, rfl, (hxs _), (hxs _), (hxs _), (by decide), ⟨C, Q1, X1, hC, hRC, hw1, fun r1 C' a b => ⟨C', a, Or.inl ⟨r1, rfl, b, rfl⟩⟩, fun E C' a m b => ?_⟩⟩
      simp only [List.mem_cons, List.not_mem_nil, or_false] at m
      rcases m with rfl | rfl | rfl
      · exact Or.inr (Or.inl ⟨rfl, C', a, Or.inr (Or.inr (Or.inl ⟨rfl, b, rfl⟩))⟩)
      · exact Or.inr (Or.inr (⟨rfl, C', a, Or.inr (Or.inr (Or.inr (⟨rfl, b, rfl⟩)))⟩))
      · exact Or.inl ⟨rfl, C', a, Or.inr (Or.inl ⟨rfl, b, rfl⟩)⟩
    refine hE.2.1 _ _ 1 6 (by omega) (by omega) _ _ _ _ _ _ _ _ _ _ _ [.ref (ad 0), .int (Ii (xs ((6 * (n : Int)) + 1).toNat)), .int (Ii (xs ((6 * (n : Int)) + 2).toNat)), .int (Ii (xs ((6 * (n : Int)) + 3).toNat)), .int (Ii 1), .ref (ad 389)] _ _ _ (cl_field (l := l) (D := D) (cy := cy) (xs := xs) (L := L) hst hin) rfl om_2150 ⟨rfl, rfl, Nat.le_of_ble_eq_true rfl, Nat.le_of_ble_eq_true rfl⟩ mv_L_152 hd_L_field rfl (Nat.le_of_ble_eq_true rfl) dL_law_531 hWL (fun rk1 M1 grk q => ?_)
    have hO := hE.1 (390 + 3 * n + 1) (571600 + 18 * n + 6) (by omega) (by omega)
    obtain ⟨C', hRC', q⟩ := q
    rcases q with ⟨r1, rfl, hq, rfl⟩ | ⟨rfl, hq, rfl⟩ | ⟨rfl, hq, rfl⟩ | ⟨rfl, hq, rfl⟩
    · obtain ⟨Q0, hw2, h3⟩ := h2 _ C' hq
      refine j_istore (lv' := [(5, .int (Ii 0)), (0, .ref (ad 910)), (1, .ref (ad 0)), (2, .ref (ad 286)), (3, .ref (ad 389)), (4, .int (Ii (6 * (n : Int))))]) hO dL_law_534 (by decide) rfl ?_
      refine j_aload_n hO dL_law_536 rfl 3 rfl ?_
      refine j_aload_n hO dL_law_537 rfl 1 rfl ?_
      refine j_iload hO dL_law_538 5 rfl ?_
      refine j_iconst hO dL_law_540 ?_
      refine j_iadd hO dL_law_541 ?_
      refine j_ti hO XtB_sc (by unfold ri_; omega) (by omega) (by omega) dL_law_542 ?_
      refine j_aload_n hO dL_law_543 rfl 1 rfl ?_
      refine j_iload hO dL_law_544 5 rfl ?_
      refine j_iconst hO dL_law_546 ?_
      refine j_iadd hO dL_law_547 ?_
      refine j_ti hO XtB_sc (by unfold ri_; omega) (by omega) (by omega) dL_law_548 ?_
      refine j_aload_n hO dL_law_549 rfl 1 rfl ?_
      refine j_iload hO dL_law_550 5 rfl ?_
      refine j_iconst hO dL_law_552 ?_
      refine j_iadd hO dL_law_553 ?_
      refine j_ti hO XtB_sc (by unfold ri_; omega) (by omega) (by omega) dL_law_554 ?_
      refine j_aload_n hO dL_law_555 rfl 1 rfl ?_
      refine j_iload hO dL_law_556 5 rfl ?_
      refine j_iconst hO dL_law_558 ?_
      refine j_iadd hO dL_law_559 ?_
      refine j_ti hO XtB_sc (by unfold ri_; omega) (by omega) (by omega) dL_law_560 ?_
      refine j_if_eq hO 568 (hxs _) dL_law_561 (by decide) (fun z => absurd z zz) (fun _ => ?_)
      refine j_iconst hO dL_law_564 ?_
      refine j_goto hO 569 dL_law_565 (by decide) ?_
      refine j_callVi hO (lfR hin (c_X12_field (l := l) (D := D) (cy := cy) (ad := fun c => ad (286 + c)) (jIn_R hin))) rfl om_2153 ⟨rfl, rfl, Nat.le_of_ble_eq_true rfl, Nat.le_of_ble_eq_true rfl⟩ [.int (Ii (xs ((6 * (n : Int)) + 1).toNat)), .int (Ii (xs ((6 * (n : Int)) + 2).toNat)), .int (Ii (xs ((6 * (n : Int)) + 3).toNat)), .int (Ii 1)] mv_L_155 hd_X12_fieldv kK_286 rfl rfl rfl (Nat.le_of_ble_eq_true rfl) dL_law_569 (P := fun r M1 => ∃ R', jRg ftR ksR R' ∧ Q0 r R' ∧ M1 = jUpO 286 103 R' (ux_ (jUp 286 C' M) 389 0 r1)) ⟨R, Q0, (jUp_U hRm), hRR, ⟨(xs ((6 * (n : Int)) + 1).toNat), (xs ((6 * (n : Int)) + 2).toNat), (xs ((6 * (n : Int)) + 3).toNat), 1, rfl, (hxs _), (hxs _), (hxs _), (by decide), hw2⟩, fun r R' a b => ⟨R', a, b, rfl⟩⟩ (fun rb M2 grb q => ?_)
      obtain ⟨R', hRR', hq, rfl⟩ := q
      obtain ⟨q1, q0, hRal⟩ := h3 _ R' hq
      refine j_istore (lv' := [(6, .int (Ii rb)), (5, .int (Ii 0)), (0, .ref (ad 910)), (1, .ref (ad 0)), (2, .ref (ad 286)), (3, .ref (ad 389)), (4, .int (Ii (6 * (n : Int))))]) hO dL_law_572 (by decide) rfl ?_
      refine j_aload_n hO dL_law_574 rfl 4 rfl ?_
      refine j_callVi hO (lfR hin (c_X12_thrown (l := l) (D := D) (cy := cy) (ad := fun c => ad (286 + c)) (jIn_R hin))) rfl om_2146 ⟨rfl, rfl, Nat.le_of_ble_eq_true rfl, Nat.le_of_ble_eq_true rfl⟩ [] mv_L_149 hd_X12_thrownv kK_286 rfl rfl rfl (Nat.le_of_ble_eq_true rfl) dL_law_575 (P := fun r M1 => r = R' 0 0 ∧ M1 = jUpO 286 103 R' (ux_ (jUp 286 C' M) 389 0 r1)) ⟨R', fun v M' => v = R' 0 0 ∧ M' = R', fun c hc => jUpO_R hc, hRR', ⟨rfl, fun v e1 _ => ⟨e1, rfl⟩⟩, fun r C9 _ b => ⟨b.1, by rw [b.2]; exact jUpO_i⟩⟩ (fun rt M3 grt q => ?_)
      obtain ⟨ert, rfl⟩ := q
      refine j_iload hO dL_law_578 1 rfl ?_
      refine j_icmp_eq hO 585 grt rk_0 dL_law_580 (by decide) (fun _ => ?_) (fun z => absurd (by exact (ert.trans q0)) z)
      refine j_iload hO dL_law_585 1 rfl ?_
      refine j_if_ne hO 602 rk_0 dL_law_587 (by decide) (fun z => absurd z (by decide)) (fun _ => ?_)
      refine j_aload_n hO dL_law_590 rfl 5 rfl ?_
      refine j_iconst hO dL_law_591 ?_
      refine j_lald hO rk_0 kK_389 (by decide) (by decide) dL_law_592 (fun v592 ev592 gv592 => ?_)
      refine j_iload hO dL_law_593 0 rfl ?_
      refine j_i2l hO grb dL_law_595 ?_
      refine j_lcmp_eq hO 602 gv592 (rl_ri grb) dL_law_596 dL_law_597 (by decide) (fun _ => ?_) (fun z => absurd (by rw [ev592]; exact (jUpO_o 389 (by decide)).trans ((ux_s _ _ _ _).trans q1)) z)
      refine j_goto hO 3111 dL_law_602 (by decide) ?_
      exact j_sub hO [2, 3, 4, 5, 6] rfl (hE.2.2 _ _ _ _ _ _ _ _ (by omega) (by omega) (hnext _ (InvL_n hRal hRC' hRR' (fun c hc => jUpO_lu hc) (fun c hc => jUpO_R hc))))
    · obtain ⟨Q0, hw2, h3⟩ := h4 _ C' hq
      refine j_istore (lv' := [(5, .int (Ii 1)), (0, .ref (ad 910)), (1, .ref (ad 0)), (2, .ref (ad 286)), (3, .ref (ad 389)), (4, .int (Ii (6 * (n : Int))))]) hO dL_law_534 (by decide) rfl ?_
      refine j_aload_n hO dL_law_536 rfl 3 rfl ?_
      refine j_aload_n hO dL_law_537 rfl 1 rfl ?_
      refine j_iload hO dL_law_538 5 rfl ?_
      refine j_iconst hO dL_law_540 ?_
      refine j_iadd hO dL_law_541 ?_
      refine j_ti hO XtB_sc (by unfold ri_; omega) (by omega) (by omega) dL_law_542 ?_
      refine j_aload_n hO dL_law_543 rfl 1 rfl ?_
      refine j_iload hO dL_law_544 5 rfl ?_
      refine j_iconst hO dL_law_546 ?_
      refine j_iadd hO dL_law_547 ?_
      refine j_ti hO XtB_sc (by unfold ri_; omega) (by omega) (by omega) dL_law_548 ?_
      refine j_aload_n hO dL_law_549 rfl 1 rfl ?_
      refine j_iload hO dL_law_550 5 rfl ?_
      refine j_iconst hO dL_law_552 ?_
      refine j_iadd hO dL_law_553 ?_
      refine j_ti hO XtB_sc (by unfold ri_; omega) (by omega) (by omega) dL_law_554 ?_
      refine j_aload_n hO dL_law_555 rfl 1 rfl ?_
      refine j_iload hO dL_law_556 5 rfl ?_
      refine j_iconst hO dL_law_558 ?_
      refine j_iadd hO dL_law_559 ?_
      refine j_ti hO XtB_sc (by unfold ri_; omega) (by omega) (by omega) dL_law_560 ?_
      refine j_if_eq hO 568 (hxs _) dL_law_561 (by decide) (fun z => absurd z zz) (fun _ => ?_)
      refine j_iconst hO dL_law_564 ?_
      refine j_goto hO 569 dL_law_565 (by decide) ?_
      refine j_callVi hO (lfR hin (c_X12_field (l := l) (D := D) (cy := cy) (ad := fun c => ad (286 + c)) (jIn_R hin))) rfl om_2153 ⟨rfl, rfl, Nat.le_of_ble_eq_true rfl, Nat.le_of_ble_eq_true rfl⟩ [.int (Ii (xs ((6 * (n : Int)) + 1).toNat)), .int (Ii (xs ((6 * (n : Int)) + 2).toNat)), .int (Ii (xs ((6 * (n : Int)) + 3).toNat)), .int (Ii 1)] mv_L_155 hd_X12_fieldv kK_286 rfl rfl rfl (Nat.le_of_ble_eq_true rfl) dL_law_569 (P := fun r M1 => ∃ R', jRg ftR ksR R' ∧ Q0 r R' ∧ M1 = jUpO 286 103 R' (jUp 286 C' M)) ⟨R, Q0, (jUp_R hRm), hRR, ⟨(xs ((6 * (n : Int)) + 1).toNat), (xs ((6 * (n : Int)) + 2).toNat), (xs ((6 * (n : Int)) + 3).toNat), 1, rfl, (hxs _), (hxs _), (hxs _), (by decide), hw2⟩, fun r R' a b => ⟨R', a, b, rfl⟩⟩ (fun rb M2 grb q => ?_)
      obtain ⟨R', hRR', hq, rfl⟩ := q
      obtain ⟨q0, hRal⟩ := h3 _ R' hq
      refine j_istore (lv' := [(6, .int (Ii rb)), (5, .int (Ii 1)), (0, .ref (ad 910)), (1, .ref (ad 0)), (2, .ref (ad 286)), (3, .ref (ad 389)), (4, .int (Ii (6 * (n : Int))))]) hO dL_law_572 (by decide) rfl ?_
      refine j_aload_n hO dL_law_574 rfl 4 rfl ?_
      refine j_callVi hO (lfR hin (c_X12_thrown (l := l) (D := D) (cy := cy) (ad := fun c => ad (286 + c)) (jIn_R hin))) rfl om_2146 ⟨rfl, rfl, Nat.le_of_ble_eq_true rfl, Nat.le_of_ble_eq_true rfl⟩ [] mv_L_149 hd_X12_thrownv kK_286 rfl rfl rfl (Nat.le_of_ble_eq_true rfl) dL_law_575 (P := fun r M1 => r = R' 0 0 ∧ M1 = jUpO 286 103 R' (jUp 286 C' M)) ⟨R', fun v M' => v = R' 0 0 ∧ M' = R', fun c hc => jUpO_R hc, hRR', ⟨rfl, fun v e1 _ => ⟨e1, rfl⟩⟩, fun r C9 _ b => ⟨b.1, by rw [b.2]; exact jUpO_i⟩⟩ (fun rt M3 grt q => ?_)
      obtain ⟨ert, rfl⟩ := q
      refine j_iload hO dL_law_578 1 rfl ?_
      refine j_icmp_eq hO 585 grt rk_1 dL_law_580 (by decide) (fun _ => ?_) (fun z => absurd (by exact (ert.trans (by simpa using q0))) z)
      refine j_iload hO dL_law_585 1 rfl ?_
      refine j_if_ne hO 602 rk_1 dL_law_587 (by decide) (fun _ => ?_) (fun z => absurd z (by decide))
      refine j_goto hO 3111 dL_law_602 (by decide) ?_
      exact j_sub hO [2, 3, 4, 5, 6] rfl (hE.2.2 _ _ _ _ _ _ _ _ (by omega) (by omega) (hnext _ (InvL_n hRal hRC' hRR' (fun c hc => jUpO_lo hc) (fun c hc => jUpO_R hc))))
    · obtain ⟨Q0, hw2, h3⟩ := h4 _ C' hq
      refine j_istore (lv' := [(5, .int (Ii 2)), (0, .ref (ad 910)), (1, .ref (ad 0)), (2, .ref (ad 286)), (3, .ref (ad 389)), (4, .int (Ii (6 * (n : Int))))]) hO dL_law_534 (by decide) rfl ?_
      refine j_aload_n hO dL_law_536 rfl 3 rfl ?_
      refine j_aload_n hO dL_law_537 rfl 1 rfl ?_
      refine j_iload hO dL_law_538 5 rfl ?_
      refine j_iconst hO dL_law_540 ?_
      refine j_iadd hO dL_law_541 ?_
      refine j_ti hO XtB_sc (by unfold ri_; omega) (by omega) (by omega) dL_law_542 ?_
      refine j_aload_n hO dL_law_543 rfl 1 rfl ?_
      refine j_iload hO dL_law_544 5 rfl ?_
      refine j_iconst hO dL_law_546 ?_
      refine j_iadd hO dL_law_547 ?_
      refine j_ti hO XtB_sc (by unfold ri_; omega) (by omega) (by omega) dL_law_548 ?_
      refine j_aload_n hO dL_law_549 rfl 1 rfl ?_
      refine j_iload hO dL_law_550 5 rfl ?_
      refine j_iconst hO dL_law_552 ?_
      refine j_iadd hO dL_law_553 ?_
      refine j_ti hO XtB_sc (by unfold ri_; omega) (by omega) (by omega) dL_law_554 ?_
      refine j_aload_n hO dL_law_555 rfl 1 rfl ?_
      refine j_iload hO dL_law_556 5 rfl ?_
      refine j_iconst hO dL_law_558 ?_
      refine j_iadd hO dL_law_559 ?_
      refine j_ti hO XtB_sc (by unfold ri_; omega) (by omega) (by omega) dL_law_560 ?_
      refine j_if_eq hO 568 (hxs _) dL_law_561 (by decide) (fun z => absurd z zz) (fun _ => ?_)
      refine j_iconst hO dL_law_564 ?_
      refine j_goto hO 569 dL_law_565 (by decide) ?_
      refine j_callVi hO (lfR hin (c_X12_field (l := l) (D := D) (cy := cy) (ad := fun c => ad (286 + c)) (jIn_R hin))) rfl om_2153 ⟨rfl, rfl, Nat.le_of_ble_eq_true rfl, Nat.le_of_ble_eq_true rfl⟩ [.int (Ii (xs ((6 * (n : Int)) + 1).toNat)), .int (Ii (xs ((6 * (n : Int)) + 2).toNat)), .int (Ii (xs ((6 * (n : Int)) + 3).toNat)), .int (Ii 1)] mv_L_155 hd_X12_fieldv kK_286 rfl rfl rfl (Nat.le_of_ble_eq_true rfl) dL_law_569 (P := fun r M1 => ∃ R', jRg ftR ksR R' ∧ Q0 r R' ∧ M1 = jUpO 286 103 R' (jUp 286 C' M)) ⟨R, Q0, (jUp_R hRm), hRR, ⟨(xs ((6 * (n : Int)) + 1).toNat), (xs ((6 * (n : Int)) + 2).toNat), (xs ((6 * (n : Int)) + 3).toNat), 1, rfl, (hxs _), (hxs _), (hxs _), (by decide), hw2⟩, fun r R' a b => ⟨R', a, b, rfl⟩⟩ (fun rb M2 grb q => ?_)
      obtain ⟨R', hRR', hq, rfl⟩ := q
      obtain ⟨q0, hRal⟩ := h3 _ R' hq
      refine j_istore (lv' := [(6, .int (Ii rb)), (5, .int (Ii 2)), (0, .ref (ad 910)), (1, .ref (ad 0)), (2, .ref (ad 286)), (3, .ref (ad 389)), (4, .int (Ii (6 * (n : Int))))]) hO dL_law_572 (by decide) rfl ?_
      refine j_aload_n hO dL_law_574 rfl 4 rfl ?_
      refine j_callVi hO (lfR hin (c_X12_thrown (l := l) (D := D) (cy := cy) (ad := fun c => ad (286 + c)) (jIn_R hin))) rfl om_2146 ⟨rfl, rfl, Nat.le_of_ble_eq_true rfl, Nat.le_of_ble_eq_true rfl⟩ [] mv_L_149 hd_X12_thrownv kK_286 rfl rfl rfl (Nat.le_of_ble_eq_true rfl) dL_law_575 (P := fun r M1 => r = R' 0 0 ∧ M1 = jUpO 286 103 R' (jUp 286 C' M)) ⟨R', fun v M' => v = R' 0 0 ∧ M' = R', fun c hc => jUpO_R hc, hRR', ⟨rfl, fun v e1 _ => ⟨e1, rfl⟩⟩, fun r C9 _ b => ⟨b.1, by rw [b.2]; exact jUpO_i⟩⟩ (fun rt M3 grt q => ?_)
      obtain ⟨ert, rfl⟩ := q
      refine j_iload hO dL_law_578 1 rfl ?_
      refine j_icmp_eq hO 585 grt rk_2 dL_law_580 (by decide) (fun _ => ?_) (fun z => absurd (by exact (ert.trans (by simpa using q0))) z)
      refine j_iload hO dL_law_585 1 rfl ?_
      refine j_if_ne hO 602 rk_2 dL_law_587 (by decide) (fun _ => ?_) (fun z => absurd z (by decide))
      refine j_goto hO 3111 dL_law_602 (by decide) ?_
      exact j_sub hO [2, 3, 4, 5, 6] rfl (hE.2.2 _ _ _ _ _ _ _ _ (by omega) (by omega) (hnext _ (InvL_n hRal hRC' hRR' (fun c hc => jUpO_lo hc) (fun c hc => jUpO_R hc))))
    · obtain ⟨Q0, hw2, h3⟩ := h4 _ C' hq
      refine j_istore (lv' := [(5, .int (Ii 3)), (0, .ref (ad 910)), (1, .ref (ad 0)), (2, .ref (ad 286)), (3, .ref (ad 389)), (4, .int (Ii (6 * (n : Int))))]) hO dL_law_534 (by decide) rfl ?_
      refine j_aload_n hO dL_law_536 rfl 3 rfl ?_
      refine j_aload_n hO dL_law_537 rfl 1 rfl ?_
      refine j_iload hO dL_law_538 5 rfl ?_
      refine j_iconst hO dL_law_540 ?_
      refine j_iadd hO dL_law_541 ?_
      refine j_ti hO XtB_sc (by unfold ri_; omega) (by omega) (by omega) dL_law_542 ?_
      refine j_aload_n hO dL_law_543 rfl 1 rfl ?_
      refine j_iload hO dL_law_544 5 rfl ?_
      refine j_iconst hO dL_law_546 ?_
      refine j_iadd hO dL_law_547 ?_
      refine j_ti hO XtB_sc (by unfold ri_; omega) (by omega) (by omega) dL_law_548 ?_
      refine j_aload_n hO dL_law_549 rfl 1 rfl ?_
      refine j_iload hO dL_law_550 5 rfl ?_
      refine j_iconst hO dL_law_552 ?_
      refine j_iadd hO dL_law_553 ?_
      refine j_ti hO XtB_sc (by unfold ri_; omega) (by omega) (by omega) dL_law_554 ?_
      refine j_aload_n hO dL_law_555 rfl 1 rfl ?_
      refine j_iload hO dL_law_556 5 rfl ?_
      refine j_iconst hO dL_law_558 ?_
      refine j_iadd hO dL_law_559 ?_
      refine j_ti hO XtB_sc (by unfold ri_; omega) (by omega) (by omega) dL_law_560 ?_
      refine j_if_eq hO 568 (hxs _) dL_law_561 (by decide) (fun z => absurd z zz) (fun _ => ?_)
      refine j_iconst hO dL_law_564 ?_
      refine j_goto hO 569 dL_law_565 (by decide) ?_
      refine j_callVi hO (lfR hin (c_X12_field (l := l) (D := D) (cy := cy) (ad := fun c => ad (286 + c)) (jIn_R hin))) rfl om_2153 ⟨rfl, rfl, Nat.le_of_ble_eq_true rfl, Nat.le_of_ble_eq_true rfl⟩ [.int (Ii (xs ((6 * (n : Int)) + 1).toNat)), .int (Ii (xs ((6 * (n : Int)) + 2).toNat)), .int (Ii (xs ((6 * (n : Int)) + 3).toNat)), .int (Ii 1)] mv_L_155 hd_X12_fieldv kK_286 rfl rfl rfl (Nat.le_of_ble_eq_true rfl) dL_law_569 (P := fun r M1 => ∃ R', jRg ftR ksR R' ∧ Q0 r R' ∧ M1 = jUpO 286 103 R' (jUp 286 C' M)) ⟨R, Q0, (jUp_R hRm), hRR, ⟨(xs ((6 * (n : Int)) + 1).toNat), (xs ((6 * (n : Int)) + 2).toNat), (xs ((6 * (n : Int)) + 3).toNat), 1, rfl, (hxs _), (hxs _), (hxs _), (by decide), hw2⟩, fun r R' a b => ⟨R', a, b, rfl⟩⟩ (fun rb M2 grb q => ?_)
      obtain ⟨R', hRR', hq, rfl⟩ := q
      obtain ⟨q0, hRal⟩ := h3 _ R' hq
      refine j_istore (lv' := [(6, .int (Ii rb)), (5, .int (Ii 3)), (0, .ref (ad 910)), (1, .ref (ad 0)), (2, .ref (ad 286)), (3, .ref (ad 389)), (4, .int (Ii (6 * (n : Int))))]) hO dL_law_572 (by decide) rfl ?_
      refine j_aload_n hO dL_law_574 rfl 4 rfl ?_
      refine j_callVi hO (lfR hin (c_X12_thrown (l := l) (D := D) (cy := cy) (ad := fun c => ad (286 + c)) (jIn_R hin))) rfl om_2146 ⟨rfl, rfl, Nat.le_of_ble_eq_true rfl, Nat.le_of_ble_eq_true rfl⟩ [] mv_L_149 hd_X12_thrownv kK_286 rfl rfl rfl (Nat.le_of_ble_eq_true rfl) dL_law_575 (P := fun r M1 => r = R' 0 0 ∧ M1 = jUpO 286 103 R' (jUp 286 C' M)) ⟨R', fun v M' => v = R' 0 0 ∧ M' = R', fun c hc => jUpO_R hc, hRR', ⟨rfl, fun v e1 _ => ⟨e1, rfl⟩⟩, fun r C9 _ b => ⟨b.1, by rw [b.2]; exact jUpO_i⟩⟩ (fun rt M3 grt q => ?_)
      obtain ⟨ert, rfl⟩ := q
      refine j_iload hO dL_law_578 1 rfl ?_
      refine j_icmp_eq hO 585 grt rk_3 dL_law_580 (by decide) (fun _ => ?_) (fun z => absurd (by exact (ert.trans (by simpa using q0))) z)
      refine j_iload hO dL_law_585 1 rfl ?_
      refine j_if_ne hO 602 rk_3 dL_law_587 (by decide) (fun _ => ?_) (fun z => absurd z (by decide))
      refine j_goto hO 3111 dL_law_602 (by decide) ?_
      exact j_sub hO [2, 3, 4, 5, 6] rfl (hE.2.2 _ _ _ _ _ _ _ _ (by omega) (by omega) (hnext _ (InvL_n hRal hRC' hRR' (fun c hc => jUpO_lo hc) (fun c hc => jUpO_R hc))))
set_option maxHeartbeats 4000000 in
set_option maxRecDepth 100000 in
theorem lc_7 {l : Launch} {D : va_G} {cy : Nat → ClassId} {ad : Nat → Nat} {xs : Nat → Int} {L : Nat} {J : Nat → Nat → Nat → List (Nat × Value) → List Value → MM → Prop} (hst : l.stackTraces = false) (hin : jIn ad ksK.length) (hE : LwE l D cy ad xs L J) (hxs : ∀ j, ri_ (xs j)) {n : Nat} (hn : n < 512) (hL : 6 * n + 6 ≤ L) {M : MM} (hI : InvL n M) (hnext : ∀ M1, InvL (n + 1) M1 → J (390 + 3 * (n + 1)) (571600 + 18 * (n + 1)) 3111 [(0, .ref (ad 910)), (1, .ref (ad 0)), (2, .ref (ad 286)), (3, .ref (ad 389)), (4, .int (Ii (6 * (n : Int))))] [] M1) : J (390 + 3 * n) (571600 + 18 * n) 605 [(0, .ref (ad 910)), (1, .ref (ad 0)), (2, .ref (ad 286)), (3, .ref (ad 389)), (4, .int (Ii (6 * (n : Int))))] [] M := by
  have gi : ri_ (6 * (n : Int)) := by unfold ri_; omega
  obtain ⟨C, R, hR, hRC, hRR, hC, hRm⟩ := hI
  have hO := hE.1 (390 + 3 * n) (571600 + 18 * n) (by omega) (by omega)
  refine j_aload_n hO dL_law_605 rfl 1 rfl ?_
  refine j_aload_n hO dL_law_606 rfl 0 rfl ?_
  refine j_iload hO dL_law_607 4 rfl ?_
  refine j_iconst hO dL_law_609 ?_
  refine j_iadd hO dL_law_610 ?_
  refine j_ti hO XtB_sc (by unfold ri_; omega) (by omega) (by omega) dL_law_611 ?_
  refine j_aload_n hO dL_law_612 rfl 0 rfl ?_
  refine j_iload hO dL_law_613 4 rfl ?_
  refine j_iconst hO dL_law_615 ?_
  refine j_iadd hO dL_law_616 ?_
  refine j_ti hO XtB_sc (by unfold ri_; omega) (by omega) (by omega) dL_law_617 ?_
  obtain ⟨Q1, hw1, h2⟩ := v_typeLook (p1 := (xs ((6 * (n : Int)) + 1).toNat)) (p2 := (xs ((6 * (n : Int)) + 2).toNat)) (by omega) (by omega) hR
  refine j_callVi hO (lfC hin (c_X11_typeLook (l := l) (D := D) (cy := cy) (ad := ad) (jIn_w hin))) rfl om_2157 ⟨rfl, rfl, Nat.le_of_ble_eq_true rfl, Nat.le_of_ble_eq_true rfl⟩ [.int (Ii (xs ((6 * (n : Int)) + 1).toNat)), .int (Ii (xs ((6 * (n : Int)) + 2).toNat))] mv_L_156 hd_X11_typeLookv kK_0 rfl rfl rfl (Nat.le_of_ble_eq_true rfl) dL_law_618 (P := fun r M1 => ∃ C', jRg ftC ksC C' ∧ Q1 r C' ∧ M1 = jUp 286 C' M) ⟨C, Q1, hC, hRC, ⟨(xs ((6 * (n : Int)) + 1).toNat), (xs ((6 * (n : Int)) + 2).toNat), rfl, (hxs _), (hxs _), hw1⟩, fun r C' a b => ⟨C', a, b, rfl⟩⟩ (fun ra M1 gra q => ?_)
  obtain ⟨C', hRC', hq, rfl⟩ := q
  obtain ⟨Q0, hw2, h3⟩ := h2 _ C' hq
  refine j_aload_n hO dL_law_621 rfl 2 rfl ?_
  refine j_aload_n hO dL_law_622 rfl 0 rfl ?_
  refine j_iload hO dL_law_623 4 rfl ?_
  refine j_iconst hO dL_law_625 ?_
  refine j_iadd hO dL_law_626 ?_
  refine j_ti hO XtB_sc (by unfold ri_; omega) (by omega) (by omega) dL_law_627 ?_
  refine j_aload_n hO dL_law_628 rfl 0 rfl ?_
  refine j_iload hO dL_law_629 4 rfl ?_
  refine j_iconst hO dL_law_631 ?_
  refine j_iadd hO dL_law_632 ?_
  refine j_ti hO XtB_sc (by unfold ri_; omega) (by omega) (by omega) dL_law_633 ?_
  refine j_callVi hO (lfR hin (c_X12_typeLook (l := l) (D := D) (cy := cy) (ad := fun c => ad (286 + c)) (jIn_R hin))) rfl om_2161 ⟨rfl, rfl, Nat.le_of_ble_eq_true rfl, Nat.le_of_ble_eq_true rfl⟩ [.int (Ii (xs ((6 * (n : Int)) + 1).toNat)), .int (Ii (xs ((6 * (n : Int)) + 2).toNat))] mv_L_159 hd_X12_typeLookv kK_286 rfl rfl rfl (Nat.le_of_ble_eq_true rfl) dL_law_634 (P := fun r M1 => ∃ R', jRg ftR ksR R' ∧ Q0 r R' ∧ M1 = jUpO 286 103 R' (jUp 286 C' M)) ⟨R, Q0, (jUp_R hRm), hRR, ⟨(xs ((6 * (n : Int)) + 1).toNat), (xs ((6 * (n : Int)) + 2).toNat), rfl, (hxs _), (hxs _), hw2⟩, fun r R' a b => ⟨R', a, b, rfl⟩⟩ (fun rb M2 grb q => ?_)
  obtain ⟨R', hRR', hq, rfl⟩ := q
  obtain ⟨q1, hRal⟩ := h3 _ R' hq
  refine j_icmp_eq hO 3111 gra grb dL_law_637 (by decide) (fun _ => ?_) (fun z => absurd (by exact q1) z)
  exact j_sub hO [0, 1, 2, 3, 4] rfl (hE.2.2 _ _ _ _ _ _ _ _ (by omega) (by omega) (hnext _ (InvL_n hRal hRC' hRR' (fun c hc => jUpO_lo hc) (fun c hc => jUpO_R hc))))
set_option maxHeartbeats 4000000 in
set_option maxRecDepth 100000 in
theorem lc_8 {l : Launch} {D : va_G} {cy : Nat → ClassId} {ad : Nat → Nat} {xs : Nat → Int} {L : Nat} {J : Nat → Nat → Nat → List (Nat × Value) → List Value → MM → Prop} (hst : l.stackTraces = false) (hin : jIn ad ksK.length) (hE : LwE l D cy ad xs L J) (hxs : ∀ j, ri_ (xs j)) {n : Nat} (hn : n < 512) (hL : 6 * n + 6 ≤ L) {M : MM} (hI : InvL n M) (hnext : ∀ M1, InvL (n + 1) M1 → J (390 + 3 * (n + 1)) (571600 + 18 * (n + 1)) 3111 [(0, .ref (ad 910)), (1, .ref (ad 0)), (2, .ref (ad 286)), (3, .ref (ad 389)), (4, .int (Ii (6 * (n : Int))))] [] M1) : J (390 + 3 * n) (571600 + 18 * n) 642 [(0, .ref (ad 910)), (1, .ref (ad 0)), (2, .ref (ad 286)), (3, .ref (ad 389)), (4, .int (Ii (6 * (n : Int))))] [] M := by
  have gi : ri_ (6 * (n : Int)) := by unfold ri_; omega
  obtain ⟨C, R, hR, hRC, hRR, hC, hRm⟩ := hI
  have hO := hE.1 (390 + 3 * n) (571600 + 18 * n) (by omega) (by omega)
  refine j_aload_n hO dL_law_642 rfl 1 rfl ?_
  refine j_aload_n hO dL_law_643 rfl 0 rfl ?_
  refine j_iload hO dL_law_644 4 rfl ?_
  refine j_iconst hO dL_law_646 ?_
  refine j_iadd hO dL_law_647 ?_
  refine j_ti hO XtB_sc (by unfold ri_; omega) (by omega) (by omega) dL_law_648 ?_
  refine j_aload_n hO dL_law_649 rfl 0 rfl ?_
  refine j_iload hO dL_law_650 4 rfl ?_
  refine j_iconst hO dL_law_652 ?_
  refine j_iadd hO dL_law_653 ?_
  refine j_ti hO XtB_sc (by unfold ri_; omega) (by omega) (by omega) dL_law_654 ?_
  refine j_aload_n hO dL_law_655 rfl 0 rfl ?_
  refine j_iload hO dL_law_656 4 rfl ?_
  refine j_iconst hO dL_law_658 ?_
  refine j_iadd hO dL_law_659 ?_
  refine j_ti hO XtB_sc (by unfold ri_; omega) (by omega) (by omega) dL_law_660 ?_
  obtain ⟨Q1, hw1, h2⟩ := v_fieldLook (p1 := (xs ((6 * (n : Int)) + 1).toNat)) (p2 := (xs ((6 * (n : Int)) + 2).toNat)) (p3 := (xs ((6 * (n : Int)) + 3).toNat)) (by omega) (by omega) hR
  refine j_callVi hO (lfC hin (c_X11_fieldLook (l := l) (D := D) (cy := cy) (ad := ad) (jIn_w hin))) rfl om_2165 ⟨rfl, rfl, Nat.le_of_ble_eq_true rfl, Nat.le_of_ble_eq_true rfl⟩ [.int (Ii (xs ((6 * (n : Int)) + 1).toNat)), .int (Ii (xs ((6 * (n : Int)) + 2).toNat)), .int (Ii (xs ((6 * (n : Int)) + 3).toNat))] mv_L_160 hd_X11_fieldLookv kK_0 rfl rfl rfl (Nat.le_of_ble_eq_true rfl) dL_law_661 (P := fun r M1 => ∃ C', jRg ftC ksC C' ∧ Q1 r C' ∧ M1 = jUp 286 C' M) ⟨C, Q1, hC, hRC, ⟨(xs ((6 * (n : Int)) + 1).toNat), (xs ((6 * (n : Int)) + 2).toNat), (xs ((6 * (n : Int)) + 3).toNat), rfl, (hxs _), (hxs _), (hxs _), hw1⟩, fun r C' a b => ⟨C', a, b, rfl⟩⟩ (fun ra M1 gra q => ?_)
  obtain ⟨C', hRC', hq, rfl⟩ := q
  obtain ⟨Q0, hw2, h3⟩ := h2 _ C' hq
  refine j_aload_n hO dL_law_664 rfl 2 rfl ?_
  refine j_aload_n hO dL_law_665 rfl 0 rfl ?_
  refine j_iload hO dL_law_666 4 rfl ?_
  refine j_iconst hO dL_law_668 ?_
  refine j_iadd hO dL_law_669 ?_
  refine j_ti hO XtB_sc (by unfold ri_; omega) (by omega) (by omega) dL_law_670 ?_
  refine j_aload_n hO dL_law_671 rfl 0 rfl ?_
  refine j_iload hO dL_law_672 4 rfl ?_
  refine j_iconst hO dL_law_674 ?_
  refine j_iadd hO dL_law_675 ?_
  refine j_ti hO XtB_sc (by unfold ri_; omega) (by omega) (by omega) dL_law_676 ?_
  refine j_aload_n hO dL_law_677 rfl 0 rfl ?_
  refine j_iload hO dL_law_678 4 rfl ?_
  refine j_iconst hO dL_law_680 ?_
  refine j_iadd hO dL_law_681 ?_
  refine j_ti hO XtB_sc (by unfold ri_; omega) (by omega) (by omega) dL_law_682 ?_
  refine j_callVi hO (lfR hin (c_X12_fieldLook (l := l) (D := D) (cy := cy) (ad := fun c => ad (286 + c)) (jIn_R hin))) rfl om_2169 ⟨rfl, rfl, Nat.le_of_ble_eq_true rfl, Nat.le_of_ble_eq_true rfl⟩ [.int (Ii (xs ((6 * (n : Int)) + 1).toNat)), .int (Ii (xs ((6 * (n : Int)) + 2).toNat)), .int (Ii (xs ((6 * (n : Int)) + 3).toNat))] mv_L_163 hd_X12_fieldLookv kK_286 rfl rfl rfl (Nat.le_of_ble_eq_true rfl) dL_law_683 (P := fun r M1 => ∃ R', jRg ftR ksR R' ∧ Q0 r R' ∧ M1 = jUpO 286 103 R' (jUp 286 C' M)) ⟨R, Q0, (jUp_R hRm), hRR, ⟨(xs ((6 * (n : Int)) + 1).toNat), (xs ((6 * (n : Int)) + 2).toNat), (xs ((6 * (n : Int)) + 3).toNat), rfl, (hxs _), (hxs _), (hxs _), hw2⟩, fun r R' a b => ⟨R', a, b, rfl⟩⟩ (fun rb M2 grb q => ?_)
  obtain ⟨R', hRR', hq, rfl⟩ := q
  obtain ⟨q1, hRal⟩ := h3 _ R' hq
  refine j_icmp_eq hO 3111 gra grb dL_law_686 (by decide) (fun _ => ?_) (fun z => absurd (by exact q1) z)
  exact j_sub hO [0, 1, 2, 3, 4] rfl (hE.2.2 _ _ _ _ _ _ _ _ (by omega) (by omega) (hnext _ (InvL_n hRal hRC' hRR' (fun c hc => jUpO_lo hc) (fun c hc => jUpO_R hc))))
set_option maxHeartbeats 4000000 in
set_option maxRecDepth 100000 in
theorem lc_9 {l : Launch} {D : va_G} {cy : Nat → ClassId} {ad : Nat → Nat} {xs : Nat → Int} {L : Nat} {J : Nat → Nat → Nat → List (Nat × Value) → List Value → MM → Prop} (hst : l.stackTraces = false) (hin : jIn ad ksK.length) (hE : LwE l D cy ad xs L J) (hxs : ∀ j, ri_ (xs j)) {n : Nat} (hn : n < 512) (hL : 6 * n + 6 ≤ L) {M : MM} (hI : InvL n M) (hnext : ∀ M1, InvL (n + 1) M1 → J (390 + 3 * (n + 1)) (571600 + 18 * (n + 1)) 3111 [(0, .ref (ad 910)), (1, .ref (ad 0)), (2, .ref (ad 286)), (3, .ref (ad 389)), (4, .int (Ii (6 * (n : Int))))] [] M1) : J (390 + 3 * n) (571600 + 18 * n) 691 [(0, .ref (ad 910)), (1, .ref (ad 0)), (2, .ref (ad 286)), (3, .ref (ad 389)), (4, .int (Ii (6 * (n : Int))))] [] M := by
  have gi : ri_ (6 * (n : Int)) := by unfold ri_; omega
  obtain ⟨C, R, hR, hRC, hRR, hC, hRm⟩ := hI
  have hO := hE.1 (390 + 3 * n) (571600 + 18 * n) (by omega) (by omega)
  refine j_aload_n hO dL_law_691 rfl 1 rfl ?_
  refine j_aload_n hO dL_law_692 rfl 0 rfl ?_
  refine j_iload hO dL_law_693 4 rfl ?_
  refine j_iconst hO dL_law_695 ?_
  refine j_iadd hO dL_law_696 ?_
  refine j_ti hO XtB_sc (by unfold ri_; omega) (by omega) (by omega) dL_law_697 ?_
  refine j_aload_n hO dL_law_698 rfl 0 rfl ?_
  refine j_iload hO dL_law_699 4 rfl ?_
  refine j_iconst hO dL_law_701 ?_
  refine j_iadd hO dL_law_702 ?_
  refine j_ti hO XtB_sc (by unfold ri_; omega) (by omega) (by omega) dL_law_703 ?_
  refine j_aload_n hO dL_law_704 rfl 3 rfl ?_
  obtain ⟨Q1, X1, hw1, h2, h4⟩ := v_make (p1 := (xs ((6 * (n : Int)) + 1).toNat)) (p2 := (xs ((6 * (n : Int)) + 2).toNat)) (by omega) (by omega) (hxs _) hR
  have hWL : WL_make ad (fun r M1 => ∃ C', jRg ftC ksC C' ∧ ((∃ r1, r = 0 ∧ Q1 r1 C' ∧ M1 = (ux_ (jUp 286 C' M) 389 0 r1)) ∨ (r = 1 ∧ X1 "java/lang/IllegalArgumentException" C' ∧ M1 = jUp 286 C' M) ∨ (r = 2 ∧ X1 "java/lang/IllegalStateException" C' ∧ M1 = jUp 286 C' M))) [.ref (ad 0), .int (Ii (xs ((6 * (n : Int)) + 1).toNat)), .int (Ii (xs ((6 * (n : Int)) + 2).toNat)), .ref (ad 389)] M := by
    refine ⟨(xs ((6 * (n : Int)) + 1).toNat), (xs ((6 * (n : Int)) + 2).toNat), rfl, (hxs _), (hxs _), ⟨C, Q1, X1, hC, hRC, hw1, fun r1 C' a b => ⟨C', a, Or.inl ⟨r1, rfl, b, rfl⟩⟩, fun E C' a m b => ?_⟩⟩
    simp only [List.mem_cons, List.not_mem_nil, or_false] at m
    rcases m with rfl | rfl
    · exact Or.inl ⟨rfl, C', a, Or.inr (Or.inl ⟨rfl, b, rfl⟩)⟩
    · exact Or.inr (⟨rfl, C', a, Or.inr (Or.inr (⟨rfl, b, rfl⟩))⟩)
  refine hE.2.1 _ _ 1 6 (by omega) (by omega) _ _ _ _ _ _ _ _ _ _ _ [.ref (ad 0), .int (Ii (xs ((6 * (n : Int)) + 1).toNat)), .int (Ii (xs ((6 * (n : Int)) + 2).toNat)), .ref (ad 389)] _ _ _ (cl_make (l := l) (D := D) (cy := cy) (xs := xs) (L := L) hst hin) rfl om_2173 ⟨rfl, rfl, Nat.le_of_ble_eq_true rfl, Nat.le_of_ble_eq_true rfl⟩ mv_L_164 hd_L_make rfl (Nat.le_of_ble_eq_true rfl) dL_law_705 hWL (fun rk1 M1 grk q => ?_)
  have hO := hE.1 (390 + 3 * n + 1) (571600 + 18 * n + 6) (by omega) (by omega)
  obtain ⟨C', hRC', q⟩ := q
  rcases q with ⟨r1, rfl, hq, rfl⟩ | ⟨rfl, hq, rfl⟩ | ⟨rfl, hq, rfl⟩
  · obtain ⟨Q0, hw2, h3⟩ := h2 _ C' hq
    refine j_istore (lv' := [(5, .int (Ii 0)), (0, .ref (ad 910)), (1, .ref (ad 0)), (2, .ref (ad 286)), (3, .ref (ad 389)), (4, .int (Ii (6 * (n : Int))))]) hO dL_law_708 (by decide) rfl ?_
    refine j_aload_n hO dL_law_710 rfl 3 rfl ?_
    refine j_aload_n hO dL_law_711 rfl 1 rfl ?_
    refine j_iload hO dL_law_712 5 rfl ?_
    refine j_iconst hO dL_law_714 ?_
    refine j_iadd hO dL_law_715 ?_
    refine j_ti hO XtB_sc (by unfold ri_; omega) (by omega) (by omega) dL_law_716 ?_
    refine j_aload_n hO dL_law_717 rfl 1 rfl ?_
    refine j_iload hO dL_law_718 5 rfl ?_
    refine j_iconst hO dL_law_720 ?_
    refine j_iadd hO dL_law_721 ?_
    refine j_ti hO XtB_sc (by unfold ri_; omega) (by omega) (by omega) dL_law_722 ?_
    refine j_callVi hO (lfR hin (c_X12_make (l := l) (D := D) (cy := cy) (ad := fun c => ad (286 + c)) (jIn_R hin))) rfl om_2176 ⟨rfl, rfl, Nat.le_of_ble_eq_true rfl, Nat.le_of_ble_eq_true rfl⟩ [.int (Ii (xs ((6 * (n : Int)) + 1).toNat)), .int (Ii (xs ((6 * (n : Int)) + 2).toNat))] mv_L_166 hd_X12_makev kK_286 rfl rfl rfl (Nat.le_of_ble_eq_true rfl) dL_law_723 (P := fun r M1 => ∃ R', jRg ftR ksR R' ∧ Q0 r R' ∧ M1 = jUpO 286 103 R' (ux_ (jUp 286 C' M) 389 0 r1)) ⟨R, Q0, (jUp_U hRm), hRR, ⟨(xs ((6 * (n : Int)) + 1).toNat), (xs ((6 * (n : Int)) + 2).toNat), rfl, (hxs _), (hxs _), hw2⟩, fun r R' a b => ⟨R', a, b, rfl⟩⟩ (fun rb M2 grb q => ?_)
    obtain ⟨R', hRR', hq, rfl⟩ := q
    obtain ⟨q1, q0, hRal⟩ := h3 _ R' hq
    refine j_istore (lv' := [(6, .int (Ii rb)), (5, .int (Ii 0)), (0, .ref (ad 910)), (1, .ref (ad 0)), (2, .ref (ad 286)), (3, .ref (ad 389)), (4, .int (Ii (6 * (n : Int))))]) hO dL_law_726 (by decide) rfl ?_
    refine j_aload_n hO dL_law_728 rfl 4 rfl ?_
    refine j_callVi hO (lfR hin (c_X12_thrown (l := l) (D := D) (cy := cy) (ad := fun c => ad (286 + c)) (jIn_R hin))) rfl om_2146 ⟨rfl, rfl, Nat.le_of_ble_eq_true rfl, Nat.le_of_ble_eq_true rfl⟩ [] mv_L_149 hd_X12_thrownv kK_286 rfl rfl rfl (Nat.le_of_ble_eq_true rfl) dL_law_729 (P := fun r M1 => r = R' 0 0 ∧ M1 = jUpO 286 103 R' (ux_ (jUp 286 C' M) 389 0 r1)) ⟨R', fun v M' => v = R' 0 0 ∧ M' = R', fun c hc => jUpO_R hc, hRR', ⟨rfl, fun v e1 _ => ⟨e1, rfl⟩⟩, fun r C9 _ b => ⟨b.1, by rw [b.2]; exact jUpO_i⟩⟩ (fun rt M3 grt q => ?_)
    obtain ⟨ert, rfl⟩ := q
    refine j_iload hO dL_law_732 1 rfl ?_
    refine j_icmp_eq hO 739 grt rk_0 dL_law_734 (by decide) (fun _ => ?_) (fun z => absurd (by exact (ert.trans q0)) z)
    refine j_iload hO dL_law_739 1 rfl ?_
    refine j_if_ne hO 756 rk_0 dL_law_741 (by decide) (fun z => absurd z (by decide)) (fun _ => ?_)
    refine j_aload_n hO dL_law_744 rfl 5 rfl ?_
    refine j_iconst hO dL_law_745 ?_
    refine j_lald hO rk_0 kK_389 (by decide) (by decide) dL_law_746 (fun v746 ev746 gv746 => ?_)
    refine j_iload hO dL_law_747 0 rfl ?_
    refine j_i2l hO grb dL_law_749 ?_
    refine j_lcmp_eq hO 756 gv746 (rl_ri grb) dL_law_750 dL_law_751 (by decide) (fun _ => ?_) (fun z => absurd (by rw [ev746]; exact (jUpO_o 389 (by decide)).trans ((ux_s _ _ _ _).trans q1)) z)
    refine j_goto hO 3111 dL_law_756 (by decide) ?_
    exact j_sub hO [2, 3, 4, 5, 6] rfl (hE.2.2 _ _ _ _ _ _ _ _ (by omega) (by omega) (hnext _ (InvL_n hRal hRC' hRR' (fun c hc => jUpO_lu hc) (fun c hc => jUpO_R hc))))
  · obtain ⟨Q0, hw2, h3⟩ := h4 _ C' hq
    refine j_istore (lv' := [(5, .int (Ii 1)), (0, .ref (ad 910)), (1, .ref (ad 0)), (2, .ref (ad 286)), (3, .ref (ad 389)), (4, .int (Ii (6 * (n : Int))))]) hO dL_law_708 (by decide) rfl ?_
    refine j_aload_n hO dL_law_710 rfl 3 rfl ?_
    refine j_aload_n hO dL_law_711 rfl 1 rfl ?_
    refine j_iload hO dL_law_712 5 rfl ?_
    refine j_iconst hO dL_law_714 ?_
    refine j_iadd hO dL_law_715 ?_
    refine j_ti hO XtB_sc (by unfold ri_; omega) (by omega) (by omega) dL_law_716 ?_
    refine j_aload_n hO dL_law_717 rfl 1 rfl ?_
    refine j_iload hO dL_law_718 5 rfl ?_
    refine j_iconst hO dL_law_720 ?_
    refine j_iadd hO dL_law_721 ?_
    refine j_ti hO XtB_sc (by unfold ri_; omega) (by omega) (by omega) dL_law_722 ?_
    refine j_callVi hO (lfR hin (c_X12_make (l := l) (D := D) (cy := cy) (ad := fun c => ad (286 + c)) (jIn_R hin))) rfl om_2176 ⟨rfl, rfl, Nat.le_of_ble_eq_true rfl, Nat.le_of_ble_eq_true rfl⟩ [.int (Ii (xs ((6 * (n : Int)) + 1).toNat)), .int (Ii (xs ((6 * (n : Int)) + 2).toNat))] mv_L_166 hd_X12_makev kK_286 rfl rfl rfl (Nat.le_of_ble_eq_true rfl) dL_law_723 (P := fun r M1 => ∃ R', jRg ftR ksR R' ∧ Q0 r R' ∧ M1 = jUpO 286 103 R' (jUp 286 C' M)) ⟨R, Q0, (jUp_R hRm), hRR, ⟨(xs ((6 * (n : Int)) + 1).toNat), (xs ((6 * (n : Int)) + 2).toNat), rfl, (hxs _), (hxs _), hw2⟩, fun r R' a b => ⟨R', a, b, rfl⟩⟩ (fun rb M2 grb q => ?_)
    obtain ⟨R', hRR', hq, rfl⟩ := q
    obtain ⟨q0, hRal⟩ := h3 _ R' hq
    refine j_istore (lv' := [(6, .int (Ii rb)), (5, .int (Ii 1)), (0, .ref (ad 910)), (1, .ref (ad 0)), (2, .ref (ad 286)), (3, .ref (ad 389)), (4, .int (Ii (6 * (n : Int))))]) hO dL_law_726 (by decide) rfl ?_
    refine j_aload_n hO dL_law_728 rfl 4 rfl ?_
    refine j_callVi hO (lfR hin (c_X12_thrown (l := l) (D := D) (cy := cy) (ad := fun c => ad (286 + c)) (jIn_R hin))) rfl om_2146 ⟨rfl, rfl, Nat.le_of_ble_eq_true rfl, Nat.le_of_ble_eq_true rfl⟩ [] mv_L_149 hd_X12_thrownv kK_286 rfl rfl rfl (Nat.le_of_ble_eq_true rfl) dL_law_729 (P := fun r M1 => r = R' 0 0 ∧ M1 = jUpO 286 103 R' (jUp 286 C' M)) ⟨R', fun v M' => v = R' 0 0 ∧ M' = R', fun c hc => jUpO_R hc, hRR', ⟨rfl, fun v e1 _ => ⟨e1, rfl⟩⟩, fun r C9 _ b => ⟨b.1, by rw [b.2]; exact jUpO_i⟩⟩ (fun rt M3 grt q => ?_)
    obtain ⟨ert, rfl⟩ := q
    refine j_iload hO dL_law_732 1 rfl ?_
    refine j_icmp_eq hO 739 grt rk_1 dL_law_734 (by decide) (fun _ => ?_) (fun z => absurd (by exact (ert.trans (by simpa using q0))) z)
    refine j_iload hO dL_law_739 1 rfl ?_
    refine j_if_ne hO 756 rk_1 dL_law_741 (by decide) (fun _ => ?_) (fun z => absurd z (by decide))
    refine j_goto hO 3111 dL_law_756 (by decide) ?_
    exact j_sub hO [2, 3, 4, 5, 6] rfl (hE.2.2 _ _ _ _ _ _ _ _ (by omega) (by omega) (hnext _ (InvL_n hRal hRC' hRR' (fun c hc => jUpO_lo hc) (fun c hc => jUpO_R hc))))
  · obtain ⟨Q0, hw2, h3⟩ := h4 _ C' hq
    refine j_istore (lv' := [(5, .int (Ii 2)), (0, .ref (ad 910)), (1, .ref (ad 0)), (2, .ref (ad 286)), (3, .ref (ad 389)), (4, .int (Ii (6 * (n : Int))))]) hO dL_law_708 (by decide) rfl ?_
    refine j_aload_n hO dL_law_710 rfl 3 rfl ?_
    refine j_aload_n hO dL_law_711 rfl 1 rfl ?_
    refine j_iload hO dL_law_712 5 rfl ?_
    refine j_iconst hO dL_law_714 ?_
    refine j_iadd hO dL_law_715 ?_
    refine j_ti hO XtB_sc (by unfold ri_; omega) (by omega) (by omega) dL_law_716 ?_
    refine j_aload_n hO dL_law_717 rfl 1 rfl ?_
    refine j_iload hO dL_law_718 5 rfl ?_
    refine j_iconst hO dL_law_720 ?_
    refine j_iadd hO dL_law_721 ?_
    refine j_ti hO XtB_sc (by unfold ri_; omega) (by omega) (by omega) dL_law_722 ?_
    refine j_callVi hO (lfR hin (c_X12_make (l := l) (D := D) (cy := cy) (ad := fun c => ad (286 + c)) (jIn_R hin))) rfl om_2176 ⟨rfl, rfl, Nat.le_of_ble_eq_true rfl, Nat.le_of_ble_eq_true rfl⟩ [.int (Ii (xs ((6 * (n : Int)) + 1).toNat)), .int (Ii (xs ((6 * (n : Int)) + 2).toNat))] mv_L_166 hd_X12_makev kK_286 rfl rfl rfl (Nat.le_of_ble_eq_true rfl) dL_law_723 (P := fun r M1 => ∃ R', jRg ftR ksR R' ∧ Q0 r R' ∧ M1 = jUpO 286 103 R' (jUp 286 C' M)) ⟨R, Q0, (jUp_R hRm), hRR, ⟨(xs ((6 * (n : Int)) + 1).toNat), (xs ((6 * (n : Int)) + 2).toNat), rfl, (hxs _), (hxs _), hw2⟩, fun r R' a b => ⟨R', a, b, rfl⟩⟩ (fun rb M2 grb q => ?_)
    obtain ⟨R', hRR', hq, rfl⟩ := q
    obtain ⟨q0, hRal⟩ := h3 _ R' hq
    refine j_istore (lv' := [(6, .int (Ii rb)), (5, .int (Ii 2)), (0, .ref (ad 910)), (1, .ref (ad 0)), (2, .ref (ad 286)), (3, .ref (ad 389)), (4, .int (Ii (6 * (n : Int))))]) hO dL_law_726 (by decide) rfl ?_
    refine j_aload_n hO dL_law_728 rfl 4 rfl ?_
    refine j_callVi hO (lfR hin (c_X12_thrown (l := l) (D := D) (cy := cy) (ad := fun c => ad (286 + c)) (jIn_R hin))) rfl om_2146 ⟨rfl, rfl, Nat.le_of_ble_eq_true rfl, Nat.le_of_ble_eq_true rfl⟩ [] mv_L_149 hd_X12_thrownv kK_286 rfl rfl rfl (Nat.le_of_ble_eq_true rfl) dL_law_729 (P := fun r M1 => r = R' 0 0 ∧ M1 = jUpO 286 103 R' (jUp 286 C' M)) ⟨R', fun v M' => v = R' 0 0 ∧ M' = R', fun c hc => jUpO_R hc, hRR', ⟨rfl, fun v e1 _ => ⟨e1, rfl⟩⟩, fun r C9 _ b => ⟨b.1, by rw [b.2]; exact jUpO_i⟩⟩ (fun rt M3 grt q => ?_)
    obtain ⟨ert, rfl⟩ := q
    refine j_iload hO dL_law_732 1 rfl ?_
    refine j_icmp_eq hO 739 grt rk_2 dL_law_734 (by decide) (fun _ => ?_) (fun z => absurd (by exact (ert.trans (by simpa using q0))) z)
    refine j_iload hO dL_law_739 1 rfl ?_
    refine j_if_ne hO 756 rk_2 dL_law_741 (by decide) (fun _ => ?_) (fun z => absurd z (by decide))
    refine j_goto hO 3111 dL_law_756 (by decide) ?_
    exact j_sub hO [2, 3, 4, 5, 6] rfl (hE.2.2 _ _ _ _ _ _ _ _ (by omega) (by omega) (hnext _ (InvL_n hRal hRC' hRR' (fun c hc => jUpO_lo hc) (fun c hc => jUpO_R hc))))
