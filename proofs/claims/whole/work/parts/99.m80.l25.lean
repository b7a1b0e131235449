set_option maxHeartbeats 4000000 in
set_option maxRecDepth 100000 in
theorem lc_25 {l : Launch} {D : va_G} {cy : Nat → ClassId} {ad : Nat → Nat} {xs : Nat → Int} {L : Nat} {J : Nat → Nat → Nat → List (Nat × Value) → List Value → MM → Prop} (hst : l.stackTraces = false) (hin : jIn ad ksK.length) (hE : LwE l D cy ad xs L J) (hxs : ∀ j, ri_ (xs j)) {n : Nat} (hn : n < 512) (hL : 6 * n + 6 ≤ L) {M : MM} (hI : InvL n M) (hnext : ∀ M1, InvL (n + 1) M1 → J (390 + 3 * (n + 1)) (571600 + 18 * (n + 1)) 3111 [(0, .ref (ad 910)), (1, .ref (ad 0)), (2, .ref (ad 286)), (3, .ref (ad 389)), (4, .int (Ii (6 * (n : Int))))] [] M1) : J (390 + 3 * n) (571600 + 18 * n) 1661 [(0, .ref (ad 910)), (1, .ref (ad 0)), (2, .ref (ad 286)), (3, .ref (ad 389)), (4, .int (Ii (6 * (n : Int))))] [] M := by
  have gi : ri_ (6 * (n : Int)) := by unfold ri_; omega
  obtain ⟨C, R, hR, hRC, hRR, hC, hRm⟩ := hI
  have hO := hE.1 (390 + 3 * n) (571600 + 18 * n) (by omega) (by omega)
  refine j_aload_n hO dL_law_1661 rfl 1 rfl ?_
  refine j_aload_n hO dL_law_1662 rfl 0 rfl ?_
  refine j_iload hO dL_law_1663 4 rfl ?_
  refine j_iconst hO dL_law_1665 ?_
  refine j_iadd hO dL_law_1666 ?_
  refine j_ti hO XtB_sc (by unfold ri_; omega) (by omega) (by omega) dL_law_1667 ?_
  refine j_aload_n hO dL_law_1668 rfl 3 rfl ?_
  obtain ⟨Q1, X1, hw1, h2, h4⟩ := v_broken (p1 := (xs ((6 * (n : Int)) + 1).toNat)) (by omega) (by omega) hR
  have hWL : WL_broken ad (fun r M1 => ∃ C', jRg ftC ksC C' ∧ ((∃ r1, r = 0 ∧ Q1 r1 C' ∧ M1 = (ux_ (jUp 286 C' M) 389 0 r1)) ∨ (r = 1 ∧ X1 "java/util/NoSuchElementException" C' ∧ M1 = jUp 286 C' M))) [.ref (ad 0), .int (Ii (xs ((6 * (n : Int)) + 1).toNat)), .ref (ad 389)] M := by
    refine ⟨(xs ((6 * (n : Int)) + 1).toNat), rfl, (hxs _), ⟨C, Q1, X1, hC, hRC, hw1, fun r1 C' a b => ⟨C', a, Or.inl ⟨r1, rfl, b, rfl⟩⟩, fun E C' a m b => ?_⟩⟩
    simp only [List.mem_cons, List.not_mem_nil, or_false] at m
    rcases m with rfl
    · exact ⟨rfl, C', a, Or.inr (⟨rfl, b, rfl⟩)⟩
  refine hE.2.1 _ _ 1 6 (by omega) (by omega) _ _ _ _ _ _ _ _ _ _ _ [.ref (ad 0), .int (Ii (xs ((6 * (n : Int)) + 1).toNat)), .ref (ad 389)] _ _ _ (cl_broken (l := l) (D := D) (cy := cy) (xs := xs) (L := L) hst hin) rfl om_2288 ⟨rfl, rfl, Nat.le_of_ble_eq_true rfl, Nat.le_of_ble_eq_true rfl⟩ mv_L_224 hd_L_broken rfl (Nat.le_of_ble_eq_true rfl) dL_law_1669 hWL (fun rk1 M1 grk q => ?_)
  have hO := hE.1 (390 + 3 * n + 1) (571600 + 18 * n + 6) (by omega) (by omega)
  obtain ⟨C', hRC', q⟩ := q
  rcases q with ⟨r1, rfl, hq, rfl⟩ | ⟨rfl, hq, rfl⟩
  · obtain ⟨Q0, hw2, h3⟩ := h2 _ C' hq
    refine j_istore (lv' := [(5, .int (Ii 0)), (0, .ref (ad 910)), (1, .ref (ad 0)), (2, .ref (ad 286)), (3, .ref (ad 389)), (4, .int (Ii (6 * (n : Int))))]) hO dL_law_1672 (by decide) rfl ?_
    refine j_aload_n hO dL_law_1674 rfl 3 rfl ?_
    refine j_aload_n hO dL_law_1675 rfl 1 rfl ?_
    refine j_iload hO dL_law_1676 5 rfl ?_
    refine j_iconst hO dL_law_1678 ?_
    refine j_iadd hO dL_law_1679 ?_
    refine j_ti hO XtB_sc (by unfold ri_; omega) (by omega) (by omega) dL_law_1680 ?_
    refine j_callVi hO (lfR hin (c_X12_broken (l := l) (D := D) (cy := cy) (ad := fun c => ad (286 + c)) (jIn_R hin))) rfl om_2291 ⟨rfl, rfl, Nat.le_of_ble_eq_true rfl, Nat.le_of_ble_eq_true rfl⟩ [.int (Ii (xs ((6 * (n : Int)) + 1).toNat))] mv_L_227 hd_X12_brokenv kK_286 rfl rfl rfl (Nat.le_of_ble_eq_true rfl) dL_law_1681 (P := fun r M1 => ∃ R', jRg ftR ksR R' ∧ Q0 r R' ∧ M1 = jUpO 286 103 R' (ux_ (jUp 286 C' M) 389 0 r1)) ⟨R, Q0, (jUp_U hRm), hRR, ⟨(xs ((6 * (n : Int)) + 1).toNat), rfl, (hxs _), hw2⟩, fun r R' a b => ⟨R', a, b, rfl⟩⟩ (fun rb M2 grb q => ?_)
    obtain ⟨R', hRR', hq, rfl⟩ := q
    obtain ⟨q1, q0, hRal⟩ := h3 _ R' hq
    refine j_istore (lv' := [(6, .int (Ii rb)), (5, .int (Ii 0)), (0, .ref (ad 910)), (1, .ref (ad 0)), (2, .ref (ad 286)), (3, .ref (ad 389)), (4, .int (Ii (6 * (n : Int))))]) hO dL_law_1684 (by decide) rfl ?_
    refine j_aload_n hO dL_law_1686 rfl 4 rfl ?_
    refine j_callVi hO (lfR hin (c_X12_thrown (l := l) (D := D) (cy := cy) (ad := fun c => ad (286 + c)) (jIn_R hin))) rfl om_2146 ⟨rfl, rfl, Nat.le_of_ble_eq_true rfl, Nat.le_of_ble_eq_true rfl⟩ [] mv_L_149 hd_X12_thrownv kK_286 rfl rfl rfl (Nat.le_of_ble_eq_true rfl) dL_law_1687 (P := fun r M1 => r = R' 0 0 ∧ M1 = jUpO 286 103 R' (ux_ (jUp 286 C' M) 389 0 r1)) ⟨R', fun v M' => v = R' 0 0 ∧ M' = R', fun c hc => jUpO_R hc, hRR', ⟨rfl, fun v e1 _ => ⟨e1, rfl⟩⟩, fun r C9 _ b => ⟨b.1, by rw [b.2]; exact jUpO_i⟩⟩ (fun rt M3 grt q => ?_)
    obtain ⟨ert, rfl⟩ := q
    refine j_iload hO dL_law_1690 1 rfl ?_
    refine j_icmp_eq hO 1697 grt rk_0 dL_law_1692 (by decide) (fun _ => ?_) (fun z => absurd (by exact (ert.trans q0)) z)
    refine j_iload hO dL_law_1697 1 rfl ?_
    refine j_if_ne hO 1714 rk_0 dL_law_1699 (by decide) (fun z => absurd z (by decide)) (fun _ => ?_)
    refine j_aload_n hO dL_law_1702 rfl 5 rfl ?_
    refine j_iconst hO dL_law_1703 ?_
    refine j_lald hO rk_0 kK_389 (by decide) (by decide) dL_law_1704 (fun v1704 ev1704 gv1704 => ?_)
    refine j_iload hO dL_law_1705 0 rfl ?_
    refine j_i2l hO grb dL_law_1707 ?_
    refine j_lcmp_eq hO 1714 gv1704 (rl_ri grb) dL_law_1708 dL_law_1709 (by decide) (fun _ => ?_) (fun z => absurd (by rw [ev1704]; exact (jUpO_o 389 (by decide)).trans ((ux_s _ _ _ _).trans q1)) z)
    refine j_goto hO 3111 dL_law_1714 (by decide) ?_
    exact j_sub hO [2, 3, 4, 5, 6] rfl (hE.2.2 _ _ _ _ _ _ _ _ (by omega) (by omega) (hnext _ (InvL_n hRal hRC' hRR' (fun c hc => jUpO_lu hc) (fun c hc => jUpO_R hc))))
  · obtain ⟨Q0, hw2, h3⟩ := h4 _ C' hq
    refine j_istore (lv' := [(5, .int (Ii 1)), (0, .ref (ad 910)), (1, .ref (ad 0)), (2, .ref (ad 286)), (3, .ref (ad 389)), (4, .int (Ii (6 * (n : Int))))]) hO dL_law_1672 (by decide) rfl ?_
    refine j_aload_n hO dL_law_1674 rfl 3 rfl ?_
    refine j_aload_n hO dL_law_1675 rfl 1 rfl ?_
    refine j_iload hO dL_law_1676 5 rfl ?_
    refine j_iconst hO dL_law_1678 ?_
    refine j_iadd hO dL_law_1679 ?_
    refine j_ti hO XtB_sc (by unfold ri_; omega) (by omega) (by omega) dL_law_1680 ?_
    refine j_callVi hO (lfR hin (c_X12_broken (l := l) (D := D) (cy := cy) (ad := fun c => ad (286 + c)) (jIn_R hin))) rfl om_2291 ⟨rfl, rfl, Nat.le_of_ble_eq_true rfl, Nat.le_of_ble_eq_true rfl⟩ [.int (Ii (xs ((6 * (n : Int)) + 1).toNat))] mv_L_227 hd_X12_brokenv kK_286 rfl rfl rfl (Nat.le_of_ble_eq_true rfl) dL_law_1681 (P := fun r M1 => ∃ R', jRg ftR ksR R' ∧ Q0 r R' ∧ M1 = jUpO 286 103 R' (jUp 286 C' M)) ⟨R, Q0, (jUp_R hRm), hRR, ⟨(xs ((6 * (n : Int)) + 1).toNat), rfl, (hxs _), hw2⟩, fun r R' a b => ⟨R', a, b, rfl⟩⟩ (fun rb M2 grb q => ?_)
    obtain ⟨R', hRR', hq, rfl⟩ := q
    obtain ⟨q0, hRal⟩ := h3 _ R' hq
    refine j_istore (lv' := [(6, .int (Ii rb)), (5, .int (Ii 1)), (0, .ref (ad 910)), (1, .ref (ad 0)), (2, .ref (ad 286)), (3, .ref (ad 389)), (4, .int (Ii (6 * (n : Int))))]) hO dL_law_1684 (by decide) rfl ?_
    refine j_aload_n hO dL_law_1686 rfl 4 rfl ?_
    refine j_callVi hO (lfR hin (c_X12_thrown (l := l) (D := D) (cy := cy) (ad := fun c => ad (286 + c)) (jIn_R hin))) rfl om_2146 ⟨rfl, rfl, Nat.le_of_ble_eq_true rfl, Nat.le_of_ble_eq_true rfl⟩ [] mv_L_149 hd_X12_thrownv kK_286 rfl rfl rfl (Nat.le_of_ble_eq_true rfl) dL_law_1687 (P := fun r M1 => r = R' 0 0 ∧ M1 = jUpO 286 103 R' (jUp 286 C' M)) ⟨R', fun v M' => v = R' 0 0 ∧ M' = R', fun c hc => jUpO_R hc, hRR', ⟨rfl, fun v e1 _ => ⟨e1, rfl⟩⟩, fun r C9 _ b => ⟨b.1, by rw [b.2]; exact jUpO_i⟩⟩ (fun rt M3 grt q => ?_)
    obtain ⟨ert, rfl⟩ := q
    refine j_iload hO dL_law_1690 1 rfl ?_
    refine j_icmp_eq hO 1697 grt rk_1 dL_law_1692 (by decide) (fun _ => ?_) (fun z => absurd (by exact (ert.trans (by simpa using q0))) z)
    refine j_iload hO dL_law_1697 1 rfl ?_
    refine j_if_ne hO 1714 rk_1 dL_law_1699 (by decide) (fun _ => ?_) (fun z => absurd z (by decide))
    refine j_goto hO 3111 dL_law_1714 (by decide) ?_
    exact j_sub hO [2, 3, 4, 5, 6] rfl (hE.2.2 _ _ _ _ _ _ _ _ (by omega) (by omega) (hnext _ (InvL_n hRal hRC' hRR' (fun c hc => jUpO_lo hc) (fun c hc => jUpO_R hc))))
set_option maxHeartbeats 4000000 in
set_option maxRecDepth 100000 in
theorem lc_26 {l : Launch} {D : va_G} {cy : Nat → ClassId} {ad : Nat → Nat} {xs : Nat → Int} {L : Nat} {J : Nat → Nat → Nat → List (Nat × Value) → List Value → MM → Prop} (hst : l.stackTraces = false) (hin : jIn ad ksK.length) (hE : LwE l D cy ad xs L J) (hxs : ∀ j, ri_ (xs j)) {n : Nat} (hn : n < 512) (hL : 6 * n + 6 ≤ L) {M : MM} (hI : InvL n M) (hnext : ∀ M1, InvL (n + 1) M1 → J (390 + 3 * (n + 1)) (571600 + 18 * (n + 1)) 3111 [(0, .ref (ad 910)), (1, .ref (ad 0)), (2, .ref (ad 286)), (3, .ref (ad 389)), (4, .int (Ii (6 * (n : Int))))] [] M1) : J (390 + 3 * n) (571600 + 18 * n) 1717 [(0, .ref (ad 910)), (1, .ref (ad 0)), (2, .ref (ad 286)), (3, .ref (ad 389)), (4, .int (Ii (6 * (n : Int))))] [] M := by
  have gi : ri_ (6 * (n : Int)) := by unfold ri_; omega
  obtain ⟨C, R, hR, hRC, hRR, hC, hRm⟩ := hI
  have hO := hE.1 (390 + 3 * n) (571600 + 18 * n) (by omega) (by omega)
  refine j_aload_n hO dL_law_1717 rfl 1 rfl ?_
  refine j_aload_n hO dL_law_1718 rfl 0 rfl ?_
  refine j_iload hO dL_law_1719 4 rfl ?_
  refine j_iconst hO dL_law_1721 ?_
  refine j_iadd hO dL_law_1722 ?_
  refine j_ti hO XtB_sc (by unfold ri_; omega) (by omega) (by omega) dL_law_1723 ?_
  refine j_aload_n hO dL_law_1724 rfl 3 rfl ?_
  obtain ⟨Q1, X1, hw1, h2, h4⟩ := v_take (p1 := (xs ((6 * (n : Int)) + 1).toNat)) (by omega) (by omega) hR
  have hWL : WL_take ad (fun r M1 => ∃ C', jRg ftC ksC C' ∧ ((∃ r1, r = 0 ∧ Q1 r1 C' ∧ M1 = (ux_ (jUp 286 C' M) 389 0 r1)) ∨ (r = 1 ∧ X1 "java/lang/IndexOutOfBoundsException" C' ∧ M1 = jUp 286 C' M))) [.ref (ad 0), .int (Ii (xs ((6 * (n : Int)) + 1).toNat)), .ref (ad 389)] M := by
    refine ⟨(xs ((6 * (n : Int)) + 1).toNat), rfl, (hxs _), ⟨C, Q1, X1, hC, hRC, hw1, fun r1 C' a b => ⟨C', a, Or.inl ⟨r1, rfl, b, rfl⟩⟩, fun E C' a m b => ?_⟩⟩
    simp only [List.mem_cons, List.not_mem_nil, or_false] at m
    rcases m with rfl
    · exact ⟨rfl, C', a, Or.inr (⟨rfl, b, rfl⟩)⟩
  refine hE.2.1 _ _ 2 12 (by omega) (by omega) _ _ _ _ _ _ _ _ _ _ _ [.ref (ad 0), .int (Ii (xs ((6 * (n : Int)) + 1).toNat)), .ref (ad 389)] _ _ _ (cl_take (l := l) (D := D) (cy := cy) (xs := xs) (L := L) hst hin) rfl om_2295 ⟨rfl, rfl, Nat.le_of_ble_eq_true rfl, Nat.le_of_ble_eq_true rfl⟩ mv_L_228 hd_L_take rfl (Nat.le_of_ble_eq_true rfl) dL_law_1725 hWL (fun rk1 M1 grk q => ?_)
  have hO := hE.1 (390 + 3 * n + 2) (571600 + 18 * n + 12) (by omega) (by omega)
  obtain ⟨C', hRC', q⟩ := q
  rcases q with ⟨r1, rfl, hq, rfl⟩ | ⟨rfl, hq, rfl⟩
  · obtain ⟨Q0, hw2, h3⟩ := h2 _ C' hq
    refine j_istore (lv' := [(5, .int (Ii 0)), (0, .ref (ad 910)), (1, .ref (ad 0)), (2, .ref (ad 286)), (3, .ref (ad 389)), (4, .int (Ii (6 * (n : Int))))]) hO dL_law_1728 (by decide) rfl ?_
    refine j_aload_n hO dL_law_1730 rfl 3 rfl ?_
    refine j_aload_n hO dL_law_1731 rfl 1 rfl ?_
    refine j_iload hO dL_law_1732 5 rfl ?_
    refine j_iconst hO dL_law_1734 ?_
    refine j_iadd hO dL_law_1735 ?_
    refine j_ti hO XtB_sc (by unfold ri_; omega) (by omega) (by omega) dL_law_1736 ?_
    refine j_callVi hO (lfR hin (c_X12_take (l := l) (D := D) (cy := cy) (ad := fun c => ad (286 + c)) (jIn_R hin))) rfl om_2298 ⟨rfl, rfl, Nat.le_of_ble_eq_true rfl, Nat.le_of_ble_eq_true rfl⟩ [.int (Ii (xs ((6 * (n : Int)) + 1).toNat))] mv_L_230 hd_X12_takev kK_286 rfl rfl rfl (Nat.le_of_ble_eq_true rfl) dL_law_1737 (P := fun r M1 => ∃ R', jRg ftR ksR R' ∧ Q0 r R' ∧ M1 = jUpO 286 103 R' (ux_ (jUp 286 C' M) 389 0 r1)) ⟨R, Q0, (jUp_U hRm), hRR, ⟨(xs ((6 * (n : Int)) + 1).toNat), rfl, (hxs _), hw2⟩, fun r R' a b => ⟨R', a, b, rfl⟩⟩ (fun rb M2 grb q => ?_)
    obtain ⟨R', hRR', hq, rfl⟩ := q
    obtain ⟨q1, q0, hRal⟩ := h3 _ R' hq
    refine j_istore (lv' := [(6, .int (Ii rb)), (5, .int (Ii 0)), (0, .ref (ad 910)), (1, .ref (ad 0)), (2, .ref (ad 286)), (3, .ref (ad 389)), (4, .int (Ii (6 * (n : Int))))]) hO dL_law_1740 (by decide) rfl ?_
    refine j_aload_n hO dL_law_1742 rfl 4 rfl ?_
    refine j_callVi hO (lfR hin (c_X12_thrown (l := l) (D := D) (cy := cy) (ad := fun c => ad (286 + c)) (jIn_R hin))) rfl om_2146 ⟨rfl, rfl, Nat.le_of_ble_eq_true rfl, Nat.le_of_ble_eq_true rfl⟩ [] mv_L_149 hd_X12_thrownv kK_286 rfl rfl rfl (Nat.le_of_ble_eq_true rfl) dL_law_1743 (P := fun r M1 => r = R' 0 0 ∧ M1 = jUpO 286 103 R' (ux_ (jUp 286 C' M) 389 0 r1)) ⟨R', fun v M' => v = R' 0 0 ∧ M' = R', fun c hc => jUpO_R hc, hRR', ⟨rfl, fun v e1 _ => ⟨e1, rfl⟩⟩, fun r C9 _ b => ⟨b.1, by rw [b.2]; exact jUpO_i⟩⟩ (fun rt M3 grt q => ?_)
    obtain ⟨ert, rfl⟩ := q
    refine j_iload hO dL_law_1746 1 rfl ?_
    refine j_icmp_eq hO 1753 grt rk_0 dL_law_1748 (by decide) (fun _ => ?_) (fun z => absurd (by exact (ert.trans q0)) z)
    refine j_iload hO dL_law_1753 1 rfl ?_
    refine j_if_ne hO 1770 rk_0 dL_law_1755 (by decide) (fun z => absurd z (by decide)) (fun _ => ?_)
    refine j_aload_n hO dL_law_1758 rfl 5 rfl ?_
    refine j_iconst hO dL_law_1759 ?_
    refine j_lald hO rk_0 kK_389 (by decide) (by decide) dL_law_1760 (fun v1760 ev1760 gv1760 => ?_)
    refine j_iload hO dL_law_1761 0 rfl ?_
    refine j_i2l hO grb dL_law_1763 ?_
    refine j_lcmp_eq hO 1770 gv1760 (rl_ri grb) dL_law_1764 dL_law_1765 (by decide) (fun _ => ?_) (fun z => absurd (by rw [ev1760]; exact (jUpO_o 389 (by decide)).trans ((ux_s _ _ _ _).trans q1)) z)
    refine j_goto hO 3111 dL_law_1770 (by decide) ?_
    exact j_sub hO [2, 3, 4, 5, 6] rfl (hE.2.2 _ _ _ _ _ _ _ _ (by omega) (by omega) (hnext _ (InvL_n hRal hRC' hRR' (fun c hc => jUpO_lu hc) (fun c hc => jUpO_R hc))))
  · obtain ⟨Q0, hw2, h3⟩ := h4 _ C' hq
    refine j_istore (lv' := [(5, .int (Ii 1)), (0, .ref (ad 910)), (1, .ref (ad 0)), (2, .ref (ad 286)), (3, .ref (ad 389)), (4, .int (Ii (6 * (n : Int))))]) hO dL_law_1728 (by decide) rfl ?_
    refine j_aload_n hO dL_law_1730 rfl 3 rfl ?_
    refine j_aload_n hO dL_law_1731 rfl 1 rfl ?_
    refine j_iload hO dL_law_1732 5 rfl ?_
    refine j_iconst hO dL_law_1734 ?_
    refine j_iadd hO dL_law_1735 ?_
    refine j_ti hO XtB_sc (by unfold ri_; omega) (by omega) (by omega) dL_law_1736 ?_
    refine j_callVi hO (lfR hin (c_X12_take (l := l) (D := D) (cy := cy) (ad := fun c => ad (286 + c)) (jIn_R hin))) rfl om_2298 ⟨rfl, rfl, Nat.le_of_ble_eq_true rfl, Nat.le_of_ble_eq_true rfl⟩ [.int (Ii (xs ((6 * (n : Int)) + 1).toNat))] mv_L_230 hd_X12_takev kK_286 rfl rfl rfl (Nat.le_of_ble_eq_true rfl) dL_law_1737 (P := fun r M1 => ∃ R', jRg ftR ksR R' ∧ Q0 r R' ∧ M1 = jUpO 286 103 R' (jUp 286 C' M)) ⟨R, Q0, (jUp_R hRm), hRR, ⟨(xs ((6 * (n : Int)) + 1).toNat), rfl, (hxs _), hw2⟩, fun r R' a b => ⟨R', a, b, rfl⟩⟩ (fun rb M2 grb q => ?_)
    obtain ⟨R', hRR', hq, rfl⟩ := q
    obtain ⟨q0, hRal⟩ := h3 _ R' hq
    refine j_istore (lv' := [(6, .int (Ii rb)), (5, .int (Ii 1)), (0, .ref (ad 910)), (1, .ref (ad 0)), (2, .ref (ad 286)), (3, .ref (ad 389)), (4, .int (Ii (6 * (n : Int))))]) hO dL_law_1740 (by decide) rfl ?_
    refine j_aload_n hO dL_law_1742 rfl 4 rfl ?_
    refine j_callVi hO (lfR hin (c_X12_thrown (l := l) (D := D) (cy := cy) (ad := fun c => ad (286 + c)) (jIn_R hin))) rfl om_2146 ⟨rfl, rfl, Nat.le_of_ble_eq_true rfl, Nat.le_of_ble_eq_true rfl⟩ [] mv_L_149 hd_X12_thrownv kK_286 rfl rfl rfl (Nat.le_of_ble_eq_true rfl) dL_law_1743 (P := fun r M1 => r = R' 0 0 ∧ M1 = jUpO 286 103 R' (jUp 286 C' M)) ⟨R', fun v M' => v = R' 0 0 ∧ M' = R', fun c hc => jUpO_R hc, hRR', ⟨rfl, fun v e1 _ => ⟨e1, rfl⟩⟩, fun r C9 _ b => ⟨b.1, by rw [b.2]; exact jUpO_i⟩⟩ (fun rt M3 grt q => ?_)
    obtain ⟨ert, rfl⟩ := q
    refine j_iload hO dL_law_1746 1 rfl ?_
    refine j_icmp_eq hO 1753 grt rk_1 dL_law_1748 (by decide) (fun _ => ?_) (fun z => absurd (by exact (ert.trans (by simpa using q0))) z)
    refine j_iload hO dL_law_1753 1 rfl ?_
    refine j_if_ne hO 1770 rk_1 dL_law_1755 (by decide) (fun _ => ?_) (fun z => absurd z (by decide))
    refine j_goto hO 3111 dL_law_1770 (by decide) ?_
    exact j_sub hO [2, 3, 4, 5, 6] rfl (hE.2.2 _ _ _ _ _ _ _ _ (by omega) (by omega) (hnext _ (InvL_n hRal hRC' hRR' (fun c hc => jUpO_lo hc) (fun c hc => jUpO_R hc))))
set_option maxHeartbeats 4000000 in
set_option maxRecDepth 100000 in
theorem lc_27 {l : Launch} {D : va_G} {cy : Nat → ClassId} {ad : Nat → Nat} {xs : Nat → Int} {L : Nat} {J : Nat → Nat → Nat → List (Nat × Value) → List Value → MM → Prop} (hst : l.stackTraces = false) (hin : jIn ad ksK.length) (hE : LwE l D cy ad xs L J) (hxs : ∀ j, ri_ (xs j)) {n : Nat} (hn : n < 512) (hL : 6 * n + 6 ≤ L) {M : MM} (hI : InvL n M) (hnext : ∀ M1, InvL (n + 1) M1 → J (390 + 3 * (n + 1)) (571600 + 18 * (n + 1)) 3111 [(0, .ref (ad 910)), (1, .ref (ad 0)), (2, .ref (ad 286)), (3, .ref (ad 389)), (4, .int (Ii (6 * (n : Int))))] [] M1) : J (390 + 3 * n) (571600 + 18 * n) 1773 [(0, .ref (ad 910)), (1, .ref (ad 0)), (2, .ref (ad 286)), (3, .ref (ad 389)), (4, .int (Ii (6 * (n : Int))))] [] M := by
  have gi : ri_ (6 * (n : Int)) := by unfold ri_; omega
  obtain ⟨C, R, hR, hRC, hRR, hC, hRm⟩ := hI
  have hO := hE.1 (390 + 3 * n) (571600 + 18 * n) (by omega) (by omega)
  refine j_aload_n hO dL_law_1773 rfl 1 rfl ?_
  refine j_aload_n hO dL_law_1774 rfl 0 rfl ?_
  refine j_iload hO dL_law_1775 4 rfl ?_
  refine j_iconst hO dL_law_1777 ?_
  refine j_iadd hO dL_law_1778 ?_
  refine j_ti hO XtB_sc (by unfold ri_; omega) (by omega) (by omega) dL_law_1779 ?_
  refine j_aload_n hO dL_law_1780 rfl 0 rfl ?_
  refine j_iload hO dL_law_1781 4 rfl ?_
  refine j_iconst hO dL_law_1783 ?_
  refine j_iadd hO dL_law_1784 ?_
  refine j_ti hO XtB_sc (by unfold ri_; omega) (by omega) (by omega) dL_law_1785 ?_
  refine j_aload_n hO dL_law_1786 rfl 0 rfl ?_
  refine j_iload hO dL_law_1787 4 rfl ?_
  refine j_iconst hO dL_law_1789 ?_
  refine j_iadd hO dL_law_1790 ?_
  refine j_ti hO XtB_sc (by unfold ri_; omega) (by omega) (by omega) dL_law_1791 ?_
  obtain ⟨Q1, hw1, h2⟩ := v_thing (p1 := (xs ((6 * (n : Int)) + 1).toNat)) (p2 := (xs ((6 * (n : Int)) + 2).toNat)) (p3 := (xs ((6 * (n : Int)) + 3).toNat)) (by omega) (by omega) hR
  refine j_callVi hO (lfC hin (c_X11_thing (l := l) (D := D) (cy := cy) (ad := ad) (jIn_w hin))) rfl om_2302 ⟨rfl, rfl, Nat.le_of_ble_eq_true rfl, Nat.le_of_ble_eq_true rfl⟩ [.int (Ii (xs ((6 * (n : Int)) + 1).toNat)), .int (Ii (xs ((6 * (n : Int)) + 2).toNat)), .int (Ii (xs ((6 * (n : Int)) + 3).toNat))] mv_L_231 hd_X11_thingv kK_0 rfl rfl rfl (Nat.le_of_ble_eq_true rfl) dL_law_1792 (P := fun r M1 => ∃ C', jRg ftC ksC C' ∧ Q1 r C' ∧ M1 = jUp 286 C' M) ⟨C, Q1, hC, hRC, ⟨(xs ((6 * (n : Int)) + 1).toNat), (xs ((6 * (n : Int)) + 2).toNat), (xs ((6 * (n : Int)) + 3).toNat), rfl, (hxs _), (hxs _), (hxs _), hw1⟩, fun r C' a b => ⟨C', a, b, rfl⟩⟩ (fun ra M1 gra q => ?_)
  obtain ⟨C', hRC', hq, rfl⟩ := q
  obtain ⟨Q0, hw2, h3⟩ := h2 _ C' hq
  refine j_aload_n hO dL_law_1795 rfl 2 rfl ?_
  refine j_aload_n hO dL_law_1796 rfl 0 rfl ?_
  refine j_iload hO dL_law_1797 4 rfl ?_
  refine j_iconst hO dL_law_1799 ?_
  refine j_iadd hO dL_law_1800 ?_
  refine j_ti hO XtB_sc (by unfold ri_; omega) (by omega) (by omega) dL_law_1801 ?_
  refine j_aload_n hO dL_law_1802 rfl 0 rfl ?_
  refine j_iload hO dL_law_1803 4 rfl ?_
  refine j_iconst hO dL_law_1805 ?_
  refine j_iadd hO dL_law_1806 ?_
  refine j_ti hO XtB_sc (by unfold ri_; omega) (by omega) (by omega) dL_law_1807 ?_
  refine j_aload_n hO dL_law_1808 rfl 0 rfl ?_
  refine j_iload hO dL_law_1809 4 rfl ?_
  refine j_iconst hO dL_law_1811 ?_
  refine j_iadd hO dL_law_1812 ?_
  refine j_ti hO XtB_sc (by unfold ri_; omega) (by omega) (by omega) dL_law_1813 ?_
  refine j_callVi hO (lfR hin (c_X12_thing (l := l) (D := D) (cy := cy) (ad := fun c => ad (286 + c)) (jIn_R hin))) rfl om_2306 ⟨rfl, rfl, Nat.le_of_ble_eq_true rfl, Nat.le_of_ble_eq_true rfl⟩ [.int (Ii (xs ((6 * (n : Int)) + 1).toNat)), .int (Ii (xs ((6 * (n : Int)) + 2).toNat)), .int (Ii (xs ((6 * (n : Int)) + 3).toNat))] mv_L_234 hd_X12_thingv kK_286 rfl rfl rfl (Nat.le_of_ble_eq_true rfl) dL_law_1814 (P := fun r M1 => ∃ R', jRg ftR ksR R' ∧ Q0 r R' ∧ M1 = jUpO 286 103 R' (jUp 286 C' M)) ⟨R, Q0, (jUp_R hRm), hRR, ⟨(xs ((6 * (n : Int)) + 1).toNat), (xs ((6 * (n : Int)) + 2).toNat), (xs ((6 * (n : Int)) + 3).toNat), rfl, (hxs _), (hxs _), (hxs _), hw2⟩, fun r R' a b => ⟨R', a, b, rfl⟩⟩ (fun rb M2 grb q => ?_)
  obtain ⟨R', hRR', hq, rfl⟩ := q
  obtain ⟨q1, hRal⟩ := h3 _ R' hq
  refine j_icmp_eq hO 3111 gra grb dL_law_1817 (by decide) (fun _ => ?_) (fun z => absurd (by exact q1) z)
  exact j_sub hO [0, 1, 2, 3, 4] rfl (hE.2.2 _ _ _ _ _ _ _ _ (by omega) (by omega) (hnext _ (InvL_n hRal hRC' hRR' (fun c hc => jUpO_lo hc) (fun c hc => jUpO_R hc))))
set_option maxHeartbeats 4000000 in
set_option maxRecDepth 100000 in
theorem lc_28 {l : Launch} {D : va_G} {cy : Nat → ClassId} {ad : Nat → Nat} {xs : Nat → Int} {L : Nat} {J : Nat → Nat → Nat → List (Nat × Value) → List Value → MM → Prop} (hst : l.stackTraces = false) (hin : jIn ad ksK.length) (hE : LwE l D cy ad xs L J) (hxs : ∀ j, ri_ (xs j)) {n : Nat} (hn : n < 512) (hL : 6 * n + 6 ≤ L) {M : MM} (hI : InvL n M) (hnext : ∀ M1, InvL (n + 1) M1 → J (390 + 3 * (n + 1)) (571600 + 18 * (n + 1)) 3111 [(0, .ref (ad 910)), (1, .ref (ad 0)), (2, .ref (ad 286)), (3, .ref (ad 389)), (4, .int (Ii (6 * (n : Int))))] [] M1) : J (390 + 3 * n) (571600 + 18 * n) 1822 [(0, .ref (ad 910)), (1, .ref (ad 0)), (2, .ref (ad 286)), (3, .ref (ad 389)), (4, .int (Ii (6 * (n : Int))))] [] M := by
  have gi : ri_ (6 * (n : Int)) := by unfold ri_; omega
  obtain ⟨C, R, hR, hRC, hRR, hC, hRm⟩ := hI
  have hO := hE.1 (390 + 3 * n) (571600 + 18 * n) (by omega) (by omega)
  refine j_aload_n hO dL_law_1822 rfl 1 rfl ?_
  refine j_aload_n hO dL_law_1823 rfl 0 rfl ?_
  refine j_iload hO dL_law_1824 4 rfl ?_
  refine j_iconst hO dL_law_1826 ?_
  refine j_iadd hO dL_law_1827 ?_
  refine j_ti hO XtB_sc (by unfold ri_; omega) (by omega) (by omega) dL_law_1828 ?_
  refine j_aload_n hO dL_law_1829 rfl 0 rfl ?_
  refine j_iload hO dL_law_1830 4 rfl ?_
  refine j_iconst hO dL_law_1832 ?_
  refine j_iadd hO dL_law_1833 ?_
  refine j_ti hO XtB_sc (by unfold ri_; omega) (by omega) (by omega) dL_law_1834 ?_
  refine j_aload_n hO dL_law_1835 rfl 0 rfl ?_
  refine j_iload hO dL_law_1836 4 rfl ?_
  refine j_iconst hO dL_law_1838 ?_
  refine j_iadd hO dL_law_1839 ?_
  refine j_ti hO XtB_sc (by unfold ri_; omega) (by omega) (by omega) dL_law_1840 ?_
  refine j_aload_n hO dL_law_1841 rfl 3 rfl ?_
  obtain ⟨Q1, X1, hw1, h2, h4⟩ := v_slot (p1 := (xs ((6 * (n : Int)) + 1).toNat)) (p2 := (xs ((6 * (n : Int)) + 2).toNat)) (p3 := (xs ((6 * (n : Int)) + 3).toNat)) (by omega) (by omega) hR
  have hWL : WL_slot ad (fun r M1 => ∃ C', jRg ftC ksC C' ∧ ((∃ r1, r = 0 ∧ Q1 r1 C' ∧ M1 = (ux_ (jUp 286 C' M) 389 0 r1)) ∨ (r = 1 ∧ X1 "java/util/NoSuchElementException" C' ∧ M1 = jUp 286 C' M))) [.ref (ad 0), .int (Ii (xs ((6 * (n : Int)) + 1).toNat)), .int (Ii (xs ((6 * (n : Int)) + 2).toNat)), .int (Ii (xs ((6 * (n : Int)) + 3).toNat)), .ref (ad 389)] M := by
    refine ⟨(xs ((6 * (n : Int)) + 1).toNat), (xs ((6 * (n : Int)) + 2).toNat), (xs ((6 * (n : Int)) + 3).toNat), rfl, (hxs _), (hxs _), (hxs _), ⟨C, Q1, X1, hC, hRC, hw1, fun r1 C' a b => ⟨C', a, Or.inl ⟨r1, rfl, b, rfl⟩⟩, fun E C' a m b => ?_⟩⟩
    simp only [List.mem_cons, List.not_mem_nil, or_false] at m
    rcases m with rfl
    · exact ⟨rfl, C', a, Or.inr (⟨rfl, b, rfl⟩)⟩
  refine hE.2.1 _ _ 1 6 (by omega) (by omega) _ _ _ _ _ _ _ _ _ _ _ [.ref (ad 0), .int (Ii (xs ((6 * (n : Int)) + 1).toNat)), .int (Ii (xs ((6 * (n : Int)) + 2).toNat)), .int (Ii (xs ((6 * (n : Int)) + 3).toNat)), .ref (ad 389)] _ _ _ (cl_slot (l := l) (D := D) (cy := cy) (xs := xs) (L := L) hst hin) rfl om_2310 ⟨rfl, rfl, Nat.le_of_ble_eq_true rfl, Nat.le_of_ble_eq_true rfl⟩ mv_L_235 hd_L_slot rfl (Nat.le_of_ble_eq_true rfl) dL_law_1842 hWL (fun rk1 M1 grk q => ?_)
  have hO := hE.1 (390 + 3 * n + 1) (571600 + 18 * n + 6) (by omega) (by omega)
  obtain ⟨C', hRC', q⟩ := q
  rcases q with ⟨r1, rfl, hq, rfl⟩ | ⟨rfl, hq, rfl⟩
  · obtain ⟨Q0, hw2, h3⟩ := h2 _ C' hq
    refine j_istore (lv' := [(5, .int (Ii 0)), (0, .ref (ad 910)), (1, .ref (ad 0)), (2, .ref (ad 286)), (3, .ref (ad 389)), (4, .int (Ii (6 * (n : Int))))]) hO dL_law_1845 (by decide) rfl ?_
    refine j_aload_n hO dL_law_1847 rfl 3 rfl ?_
    refine j_aload_n hO dL_law_1848 rfl 1 rfl ?_
    refine j_iload hO dL_law_1849 5 rfl ?_
    refine j_iconst hO dL_law_1851 ?_
    refine j_iadd hO dL_law_1852 ?_
    refine j_ti hO XtB_sc (by unfold ri_; omega) (by omega) (by omega) dL_law_1853 ?_
    refine j_aload_n hO dL_law_1854 rfl 1 rfl ?_
    refine j_iload hO dL_law_1855 5 rfl ?_
    refine j_iconst hO dL_law_1857 ?_
    refine j_iadd hO dL_law_1858 ?_
    refine j_ti hO XtB_sc (by unfold ri_; omega) (by omega) (by omega) dL_law_1859 ?_
    refine j_aload_n hO dL_law_1860 rfl 1 rfl ?_
    refine j_iload hO dL_law_1861 5 rfl ?_
    refine j_iconst hO dL_law_1863 ?_
    refine j_iadd hO dL_law_1864 ?_
    refine j_ti hO XtB_sc (by unfold ri_; omega) (by omega) (by omega) dL_law_1865 ?_
    refine j_callVl hO (lfR hin (c_X12_slot (l := l) (D := D) (cy := cy) (ad := fun c => ad (286 + c)) (jIn_R hin))) rfl om_2313 ⟨rfl, rfl, Nat.le_of_ble_eq_true rfl, Nat.le_of_ble_eq_true rfl⟩ [.int (Ii (xs ((6 * (n : Int)) + 1).toNat)), .int (Ii (xs ((6 * (n : Int)) + 2).toNat)), .int (Ii (xs ((6 * (n : Int)) + 3).toNat))] mv_L_237 hd_X12_slotv kK_286 rfl rfl rfl (Nat.le_of_ble_eq_true rfl) dL_law_1866 (P := fun r M1 => ∃ R', jRg ftR ksR R' ∧ Q0 r R' ∧ M1 = jUpO 286 103 R' (ux_ (jUp 286 C' M) 389 0 r1)) ⟨R, Q0, (jUp_U hRm), hRR, ⟨(xs ((6 * (n : Int)) + 1).toNat), (xs ((6 * (n : Int)) + 2).toNat), (xs ((6 * (n : Int)) + 3).toNat), rfl, (hxs _), (hxs _), (hxs _), hw2⟩, fun r R' a b => ⟨R', a, b, rfl⟩⟩ (fun rb M2 grb q => ?_)
    obtain ⟨R', hRR', hq, rfl⟩ := q
    obtain ⟨q1, q0, hRal⟩ := h3 _ R' hq
    refine j_lstore (lv' := [(6, .long (Ll rb)), (5, .int (Ii 0)), (0, .ref (ad 910)), (1, .ref (ad 0)), (2, .ref (ad 286)), (3, .ref (ad 389)), (4, .int (Ii (6 * (n : Int))))]) hO dL_law_1869 (by decide) rfl ?_
    refine j_aload_n hO dL_law_1871 rfl 4 rfl ?_
    refine j_callVi hO (lfR hin (c_X12_thrown (l := l) (D := D) (cy := cy) (ad := fun c => ad (286 + c)) (jIn_R hin))) rfl om_2146 ⟨rfl, rfl, Nat.le_of_ble_eq_true rfl, Nat.le_of_ble_eq_true rfl⟩ [] mv_L_149 hd_X12_thrownv kK_286 rfl rfl rfl (Nat.le_of_ble_eq_true rfl) dL_law_1872 (P := fun r M1 => r = R' 0 0 ∧ M1 = jUpO 286 103 R' (ux_ (jUp 286 C' M) 389 0 r1)) ⟨R', fun v M' => v = R' 0 0 ∧ M' = R', fun c hc => jUpO_R hc, hRR', ⟨rfl, fun v e1 _ => ⟨e1, rfl⟩⟩, fun r C9 _ b => ⟨b.1, by rw [b.2]; exact jUpO_i⟩⟩ (fun rt M3 grt q => ?_)
    obtain ⟨ert, rfl⟩ := q
    refine j_iload hO dL_law_1875 1 rfl ?_
    refine j_icmp_eq hO 1882 grt rk_0 dL_law_1877 (by decide) (fun _ => ?_) (fun z => absurd (by exact (ert.trans q0)) z)
    refine j_iload hO dL_law_1882 1 rfl ?_
    refine j_if_ne hO 1898 rk_0 dL_law_1884 (by decide) (fun z => absurd z (by decide)) (fun _ => ?_)
    refine j_aload_n hO dL_law_1887 rfl 5 rfl ?_
    refine j_iconst hO dL_law_1888 ?_
    refine j_lald hO rk_0 kK_389 (by decide) (by decide) dL_law_1889 (fun v1889 ev1889 gv1889 => ?_)
    refine j_lload hO dL_law_1890 0 rfl ?_
    refine j_lcmp_eq hO 1898 gv1889 grb dL_law_1892 dL_law_1893 (by decide) (fun _ => ?_) (fun z => absurd (by rw [ev1889]; exact (jUpO_o 389 (by decide)).trans ((ux_s _ _ _ _).trans q1)) z)
    refine j_goto hO 3111 dL_law_1898 (by decide) ?_
    exact j_sub hO [2, 3, 4, 5, 6] rfl (hE.2.2 _ _ _ _ _ _ _ _ (by omega) (by omega) (hnext _ (InvL_n hRal hRC' hRR' (fun c hc => jUpO_lu hc) (fun c hc => jUpO_R hc))))
  · obtain ⟨Q0, hw2, h3⟩ := h4 _ C' hq
    refine j_istore (lv' := [(5, .int (Ii 1)), (0, .ref (ad 910)), (1, .ref (ad 0)), (2, .ref (ad 286)), (3, .ref (ad 389)), (4, .int (Ii (6 * (n : Int))))]) hO dL_law_1845 (by decide) rfl ?_
    refine j_aload_n hO dL_law_1847 rfl 3 rfl ?_
    refine j_aload_n hO dL_law_1848 rfl 1 rfl ?_
    refine j_iload hO dL_law_1849 5 rfl ?_
    refine j_iconst hO dL_law_1851 ?_
    refine j_iadd hO dL_law_1852 ?_
    refine j_ti hO XtB_sc (by unfold ri_; omega) (by omega) (by omega) dL_law_1853 ?_
    refine j_aload_n hO dL_law_1854 rfl 1 rfl ?_
    refine j_iload hO dL_law_1855 5 rfl ?_
    refine j_iconst hO dL_law_1857 ?_
    refine j_iadd hO dL_law_1858 ?_
    refine j_ti hO XtB_sc (by unfold ri_; omega) (by omega) (by omega) dL_law_1859 ?_
    refine j_aload_n hO dL_law_1860 rfl 1 rfl ?_
    refine j_iload hO dL_law_1861 5 rfl ?_
    refine j_iconst hO dL_law_1863 ?_
    refine j_iadd hO dL_law_1864 ?_
    refine j_ti hO XtB_sc (by unfold ri_; omega) (by omega) (by omega) dL_law_1865 ?_
    refine j_callVl hO (lfR hin (c_X12_slot (l := l) (D := D) (cy := cy) (ad := fun c => ad (286 + c)) (jIn_R hin))) rfl om_2313 ⟨rfl, rfl, Nat.le_of_ble_eq_true rfl, Nat.le_of_ble_eq_true rfl⟩ [.int (Ii (xs ((6 * (n : Int)) + 1).toNat)), .int (Ii (xs ((6 * (n : Int)) + 2).toNat)), .int (Ii (xs ((6 * (n : Int)) + 3).toNat))] mv_L_237 hd_X12_slotv kK_286 rfl rfl rfl (Nat.le_of_ble_eq_true rfl) dL_law_1866 (P := fun r M1 => ∃ R', jRg ftR ksR R' ∧ Q0 r R' ∧ M1 = jUpO 286 103 R' (jUp 286 C' M)) ⟨R, Q0, (jUp_R hRm), hRR, ⟨(xs ((6 * (n : Int)) + 1).toNat), (xs ((6 * (n : Int)) + 2).toNat), (xs ((6 * (n : Int)) + 3).toNat), rfl, (hxs _), (hxs _), (hxs _), hw2⟩, fun r R' a b => ⟨R', a, b, rfl⟩⟩ (fun rb M2 grb q => ?_)
    obtain ⟨R', hRR', hq, rfl⟩ := q
    obtain ⟨q0, hRal⟩ := h3 _ R' hq
    refine j_lstore (lv' := [(6, .long (Ll rb)), (5, .int (Ii 1)), (0, .ref (ad 910)), (1, .ref (ad 0)), (2, .ref (ad 286)), (3, .ref (ad 389)), (4, .int (Ii (6 * (n : Int))))]) hO dL_law_1869 (by decide) rfl ?_
    refine j_aload_n hO dL_law_1871 rfl 4 rfl ?_
    refine j_callVi hO (lfR hin (c_X12_thrown (l := l) (D := D) (cy := cy) (ad := fun c => ad (286 + c)) (jIn_R hin))) rfl om_2146 ⟨rfl, rfl, Nat.le_of_ble_eq_true rfl, Nat.le_of_ble_eq_true rfl⟩ [] mv_L_149 hd_X12_thrownv kK_286 rfl rfl rfl (Nat.le_of_ble_eq_true rfl) dL_law_1872 (P := fun r M1 => r = R' 0 0 ∧ M1 = jUpO 286 103 R' (jUp 286 C' M)) ⟨R', fun v M' => v = R' 0 0 ∧ M' = R', fun c hc => jUpO_R hc, hRR', ⟨rfl, fun v e1 _ => ⟨e1, rfl⟩⟩, fun r C9 _ b => ⟨b.1, by rw [b.2]; exact jUpO_i⟩⟩ (fun rt M3 grt q => ?_)
    obtain ⟨ert, rfl⟩ := q
    refine j_iload hO dL_law_1875 1 rfl ?_
    refine j_icmp_eq hO 1882 grt rk_1 dL_law_1877 (by decide) (fun _ => ?_) (fun z => absurd (by exact (ert.trans (by simpa using q0))) z)
    refine j_iload hO dL_law_1882 1 rfl ?_
    refine j_if_ne hO 1898 rk_1 dL_law_1884 (by decide) (fun _ => ?_) (fun z => absurd z (by decide))
    refine j_goto hO 3111 dL_law_1898 (by decide) ?_
    exact j_sub hO [2, 3, 4, 5, 6] rfl (hE.2.2 _ _ _ _ _ _ _ _ (by omega) (by omega) (hnext _ (InvL_n hRal hRC' hRR' (fun c hc => jUpO_lo hc) (fun c hc => jUpO_R hc))))
set_option maxHeartbeats 4000000 in
set_option maxRecDepth 100000 in
theorem lc_29 {l : Launch} {D : va_G} {cy : Nat → ClassId} {ad : Nat → Nat} {xs : Nat → Int} {L : Nat} {J : Nat → Nat → Nat → List (Nat × Value) → List Value → MM → Prop} (hst : l.stackTraces = false) (hin : jIn ad ksK.length) (hE : LwE l D cy ad xs L J) (hxs : ∀ j, ri_ (xs j)) {n : Nat} (hn : n < 512) (hL : 6 * n + 6 ≤ L) {M : MM} (hI : InvL n M) (hnext : ∀ M1, InvL (n + 1) M1 → J (390 + 3 * (n + 1)) (571600 + 18 * (n + 1)) 3111 [(0, .ref (ad 910)), (1, .ref (ad 0)), (2, .ref (ad 286)), (3, .ref (ad 389)), (4, .int (Ii (6 * (n : Int))))] [] M1) : J (390 + 3 * n) (571600 + 18 * n) 1901 [(0, .ref (ad 910)), (1, .ref (ad 0)), (2, .ref (ad 286)), (3, .ref (ad 389)), (4, .int (Ii (6 * (n : Int))))] [] M := by
  have gi : ri_ (6 * (n : Int)) := by unfold ri_; omega
  obtain ⟨C, R, hR, hRC, hRR, hC, hRm⟩ := hI
  have hO := hE.1 (390 + 3 * n) (571600 + 18 * n) (by omega) (by omega)
  refine j_aload_n hO dL_law_1901 rfl 1 rfl ?_
  refine j_aload_n hO dL_law_1902 rfl 0 rfl ?_
  refine j_iload hO dL_law_1903 4 rfl ?_
  refine j_iconst hO dL_law_1905 ?_
  refine j_iadd hO dL_law_1906 ?_
  refine j_ti hO XtB_sc (by unfold ri_; omega) (by omega) (by omega) dL_law_1907 ?_
  refine j_aload_n hO dL_law_1908 rfl 0 rfl ?_
  refine j_iload hO dL_law_1909 4 rfl ?_
  refine j_iconst hO dL_law_1911 ?_
  refine j_iadd hO dL_law_1912 ?_
  refine j_ti hO XtB_sc (by unfold ri_; omega) (by omega) (by omega) dL_law_1913 ?_
  refine j_aload_n hO dL_law_1914 rfl 0 rfl ?_
  refine j_iload hO dL_law_1915 4 rfl ?_
  refine j_iconst hO dL_law_1917 ?_
  refine j_iadd hO dL_law_1918 ?_
  refine j_ti hO XtB_sc (by unfold ri_; omega) (by omega) (by omega) dL_law_1919 ?_
  refine j_aload_n hO dL_law_1920 rfl 0 rfl ?_
  refine j_iload hO dL_law_1921 4 rfl ?_
  refine j_iconst hO dL_law_1923 ?_
  refine j_iadd hO dL_law_1924 ?_
  refine j_ti hO XtB_sc (by unfold ri_; omega) (by omega) (by omega) dL_law_1925 ?_
  refine j_aload_n hO dL_law_1926 rfl 3 rfl ?_
  obtain ⟨Q1, X1, hw1, h2, h4⟩ := v_holder (p1 := (xs ((6 * (n : Int)) + 1).toNat)) (p2 := (xs ((6 * (n : Int)) + 2).toNat)) (p3 := (xs ((6 * (n : Int)) + 3).toNat)) (p4 := (xs ((6 * (n : Int)) + 4).toNat)) (by omega) (by omega) hR
  have hWL : WL_holder ad (fun r M1 => ∃ C', jRg ftC ksC C' ∧ ((∃ r1, r = 0 ∧ Q1 r1 C' ∧ M1 = (ux_ (jUp 286 C' M) 389 0 r1)) ∨ (r = 1 ∧ X1 "java/util/NoSuchElementException" C' ∧ M1 = jUp 286 C' M))) [.ref (ad 0), .int (Ii (xs ((6 * (n : Int)) + 1).toNat)), .int (Ii (xs ((6 * (n : Int)) + 2).toNat)), .int (Ii (xs ((6 * (n : Int)) + 3).toNat)), .int (Ii (xs ((6 * (n : Int)) + 4).toNat)), .ref (ad 389)] M := by
    refine ⟨(xs ((6 * (n : Int)) + 1).toNat), (xs ((6 * (n : Int)) + 2).toNat), (xs ((6 * (n : Int)) + 3).toNat), (xs ((6 * (n : Int)) + 4).toNat), rfl, (hxs _), (hxs _), (hxs _), (hxs _), ⟨C, Q1, X1, hC, hRC, hw1, fun r1 C' a b => ⟨C', a, Or.inl ⟨r1, rfl, b, rfl⟩⟩, fun E C' a m b => ?_⟩⟩
    simp only [List.mem_cons, List.not_mem_nil, or_false] at m
    rcases m with rfl
    · exact ⟨rfl, C', a, Or.inr (⟨rfl, b, rfl⟩)⟩
  refine hE.2.1 _ _ 1 6 (by omega) (by omega) _ _ _ _ _ _ _ _ _ _ _ [.ref (ad 0), .int (Ii (xs ((6 * (n : Int)) + 1).toNat)), .int (Ii (xs ((6 * (n : Int)) + 2).toNat)), .int (Ii (xs ((6 * (n : Int)) + 3).toNat)), .int (Ii (xs ((6 * (n : Int)) + 4).toNat)), .ref (ad 389)] _ _ _ (cl_holder (l := l) (D := D) (cy := cy) (xs := xs) (L := L) hst hin) rfl om_2317 ⟨rfl, rfl, Nat.le_of_ble_eq_true rfl, Nat.le_of_ble_eq_true rfl⟩ mv_L_238 hd_L_holder rfl (Nat.le_of_ble_eq_true rfl) dL_law_1927 hWL (fun rk1 M1 grk q => ?_)
  have hO := hE.1 (390 + 3 * n + 1) (571600 + 18 * n + 6) (by omega) (by omega)
  obtain ⟨C', hRC', q⟩ := q
  rcases q with ⟨r1, rfl, hq, rfl⟩ | ⟨rfl, hq, rfl⟩
  · obtain ⟨Q0, hw2, h3⟩ := h2 _ C' hq
    refine j_istore (lv' := [(5, .int (Ii 0)), (0, .ref (ad 910)), (1, .ref (ad 0)), (2, .ref (ad 286)), (3, .ref (ad 389)), (4, .int (Ii (6 * (n : Int))))]) hO dL_law_1930 (by decide) rfl ?_
    refine j_aload_n hO dL_law_1932 rfl 3 rfl ?_
    refine j_aload_n hO dL_law_1933 rfl 1 rfl ?_
    refine j_iload hO dL_law_1934 5 rfl ?_
    refine j_iconst hO dL_law_1936 ?_
    refine j_iadd hO dL_law_1937 ?_
    refine j_ti hO XtB_sc (by unfold ri_; omega) (by omega) (by omega) dL_law_1938 ?_
    refine j_aload_n hO dL_law_1939 rfl 1 rfl ?_
    refine j_iload hO dL_law_1940 5 rfl ?_
    refine j_iconst hO dL_law_1942 ?_
    refine j_iadd hO dL_law_1943 ?_
    refine j_ti hO XtB_sc (by unfold ri_; omega) (by omega) (by omega) dL_law_1944 ?_
    refine j_aload_n hO dL_law_1945 rfl 1 rfl ?_
    refine j_iload hO dL_law_1946 5 rfl ?_
    refine j_iconst hO dL_law_1948 ?_
    refine j_iadd hO dL_law_1949 ?_
    refine j_ti hO XtB_sc (by unfold ri_; omega) (by omega) (by omega) dL_law_1950 ?_
    refine j_aload_n hO dL_law_1951 rfl 1 rfl ?_
    refine j_iload hO dL_law_1952 5 rfl ?_
    refine j_iconst hO dL_law_1954 ?_
    refine j_iadd hO dL_law_1955 ?_
    refine j_ti hO XtB_sc (by unfold ri_; omega) (by omega) (by omega) dL_law_1956 ?_
    refine j_callVi hO (lfR hin (c_X12_holder (l := l) (D := D) (cy := cy) (ad := fun c => ad (286 + c)) (jIn_R hin))) rfl om_2320 ⟨rfl, rfl, Nat.le_of_ble_eq_true rfl, Nat.le_of_ble_eq_true rfl⟩ [.int (Ii (xs ((6 * (n : Int)) + 1).toNat)), .int (Ii (xs ((6 * (n : Int)) + 2).toNat)), .int (Ii (xs ((6 * (n : Int)) + 3).toNat)), .int (Ii (xs ((6 * (n : Int)) + 4).toNat))] mv_L_241 hd_X12_holderv kK_286 rfl rfl rfl (Nat.le_of_ble_eq_true rfl) dL_law_1957 (P := fun r M1 => ∃ R', jRg ftR ksR R' ∧ Q0 r R' ∧ M1 = jUpO 286 103 R' (ux_ (jUp 286 C' M) 389 0 r1)) ⟨R, Q0, (jUp_U hRm), hRR, ⟨(xs ((6 * (n : Int)) + 1).toNat), (xs ((6 * (n : Int)) + 2).toNat), (xs ((6 * (n : Int)) + 3).toNat), (xs ((6 * (n : Int)) + 4).toNat), rfl, (hxs _), (hxs _), (hxs _), (hxs _), hw2⟩, fun r R' a b => ⟨R', a, b, rfl⟩⟩ (fun rb M2 grb q => ?_)
    obtain ⟨R', hRR', hq, rfl⟩ := q
    obtain ⟨q1, q0, hRal⟩ := h3 _ R' hq
    refine j_istore (lv' := [(6, .int (Ii rb)), (5, .int (Ii 0)), (0, .ref (ad 910)), (1, .ref (ad 0)), (2, .ref (ad 286)), (3, .ref (ad 389)), (4, .int (Ii (6 * (n : Int))))]) hO dL_law_1960 (by decide) rfl ?_
    refine j_aload_n hO dL_law_1962 rfl 4 rfl ?_
    refine j_callVi hO (lfR hin (c_X12_thrown (l := l) (D := D) (cy := cy) (ad := fun c => ad (286 + c)) (jIn_R hin))) rfl om_2146 ⟨rfl, rfl, Nat.le_of_ble_eq_true rfl, Nat.le_of_ble_eq_true rfl⟩ [] mv_L_149 hd_X12_thrownv kK_286 rfl rfl rfl (Nat.le_of_ble_eq_true rfl) dL_law_1963 (P := fun r M1 => r = R' 0 0 ∧ M1 = jUpO 286 103 R' (ux_ (jUp 286 C' M) 389 0 r1)) ⟨R', fun v M' => v = R' 0 0 ∧ M' = R', fun c hc => jUpO_R hc, hRR', ⟨rfl, fun v e1 _ => ⟨e1, rfl⟩⟩, fun r C9 _ b => ⟨b.1, by rw [b.2]; exact jUpO_i⟩⟩ (fun rt M3 grt q => ?_)
    obtain ⟨ert, rfl⟩ := q
    refine j_iload hO dL_law_1966 1 rfl ?_
    refine j_icmp_eq hO 1973 grt rk_0 dL_law_1968 (by decide) (fun _ => ?_) (fun z => absurd (by exact (ert.trans q0)) z)
    refine j_iload hO dL_law_1973 1 rfl ?_
    refine j_if_ne hO 1990 rk_0 dL_law_1975 (by decide) (fun z => absurd z (by decide)) (fun _ => ?_)
    refine j_aload_n hO dL_law_1978 rfl 5 rfl ?_
    refine j_iconst hO dL_law_1979 ?_
    refine j_lald hO rk_0 kK_389 (by decide) (by decide) dL_law_1980 (fun v1980 ev1980 gv1980 => ?_)
    refine j_iload hO dL_law_1981 0 rfl ?_
    refine j_i2l hO grb dL_law_1983 ?_
    refine j_lcmp_eq hO 1990 gv1980 (rl_ri grb) dL_law_1984 dL_law_1985 (by decide) (fun _ => ?_) (fun z => absurd (by rw [ev1980]; exact (jUpO_o 389 (by decide)).trans ((ux_s _ _ _ _).trans q1)) z)
    refine j_goto hO 3111 dL_law_1990 (by decide) ?_
    exact j_sub hO [2, 3, 4, 5, 6] rfl (hE.2.2 _ _ _ _ _ _ _ _ (by omega) (by omega) (hnext _ (InvL_n hRal hRC' hRR' (fun c hc => jUpO_lu hc) (fun c hc => jUpO_R hc))))
  · obtain ⟨Q0, hw2, h3⟩ := h4 _ C' hq
    refine j_istore (lv' := [(5, .int (Ii 1)), (0, .ref (ad 910)), (1, .ref (ad 0)), (2, .ref (ad 286)), (3, .ref (ad 389)), (4, .int (Ii (6 * (n : Int))))]) hO dL_law_1930 (by decide) rfl ?_
    refine j_aload_n hO dL_law_1932 rfl 3 rfl ?_
    refine j_aload_n hO dL_law_1933 rfl 1 rfl ?_
    refine j_iload hO dL_law_1934 5 rfl ?_
    refine j_iconst hO dL_law_1936 ?_
    refine j_iadd hO dL_law_1937 ?_
    refine j_ti hO XtB_sc (by unfold ri_; omega) (by omega) (by omega) dL_law_1938 ?_
    refine j_aload_n hO dL_law_1939 rfl 1 rfl ?_
    refine j_iload hO dL_law_1940 5 rfl ?_
    refine j_iconst hO dL_law_1942 ?_
    refine j_iadd hO dL_law_1943 ?_
    refine j_ti hO XtB_sc (by unfold ri_; omega) (by omega) (by omega) dL_law_1944 ?_
    refine j_aload_n hO dL_law_1945 rfl 1 rfl ?_
    refine j_iload hO dL_law_1946 5 rfl ?_
    refine j_iconst hO dL_law_1948 ?_
    refine j_iadd hO dL_law_1949 ?_
    refine j_ti hO XtB_sc (by unfold ri_; omega) (by omega) (by omega) dL_law_1950 ?_
    refine j_aload_n hO dL_law_1951 rfl 1 rfl ?_
    refine j_iload hO dL_law_1952 5 rfl ?_
    refine j_iconst hO dL_law_1954 ?_
    refine j_iadd hO dL_law_1955 ?_
    refine j_ti hO XtB_sc (by unfold ri_; omega) (by omega) (by omega) dL_law_1956 ?_
    refine j_callVi hO (lfR hin (c_X12_holder (l := l) (D := D) (cy := cy) (ad := fun c => ad (286 + c)) (jIn_R hin))) rfl om_2320 ⟨rfl, rfl, Nat.le_of_ble_eq_true rfl, Nat.le_of_ble_eq_true rfl⟩ [.int (Ii (xs ((6 * (n : Int)) + 1).toNat)), .int (Ii (xs ((6 * (n : Int)) + 2).toNat)), .int (Ii (xs ((6 * (n : Int)) + 3).toNat)), .int (Ii (xs ((6 * (n : Int)) + 4).toNat))] mv_L_241 hd_X12_holderv kK_286 rfl rfl rfl (Nat.le_of_ble_eq_true rfl) dL_law_1957 (P := fun r M1 => ∃ R', jRg ftR ksR R' ∧ Q0 r R' ∧ M1 = jUpO 286 103 R' (jUp 286 C' M)) ⟨R, Q0, (jUp_R hRm), hRR, ⟨(xs ((6 * (n : Int)) + 1).toNat), (xs ((6 * (n : Int)) + 2).toNat), (xs ((6 * (n : Int)) + 3).toNat), (xs ((6 * (n : Int)) + 4).toNat), rfl, (hxs _), (hxs _), (hxs _), (hxs _), hw2⟩, fun r R' a b => ⟨R', a, b, rfl⟩⟩ (fun rb M2 grb q => ?_)
    obtain ⟨R', hRR', hq, rfl⟩ := q
    obtain ⟨q0, hRal⟩ := h3 _ R' hq
    refine j_istore (lv' := [(6, .int (Ii rb)), (5, .int (Ii 1)), (0, .ref (ad 910)), (1, .ref (ad 0)), (2, .ref (ad 286)), (3, .ref (ad 389)), (4, .int (Ii (6 * (n : Int))))]) hO dL_law_1960 (by decide) rfl ?_
    refine j_aload_n hO dL_law_1962 rfl 4 rfl ?_
    refine j_callVi hO (lfR hin (c_X12_thrown (l := l) (D := D) (cy := cy) (ad := fun c => ad (286 + c)) (jIn_R hin))) rfl om_2146 ⟨rfl, rfl, Nat.le_of_ble_eq_true rfl, Nat.le_of_ble_eq_true rfl⟩ [] mv_L_149 hd_X12_thrownv kK_286 rfl rfl rfl (Nat.le_of_ble_eq_true rfl) dL_law_1963 (P := fun r M1 => r = R' 0 0 ∧ M1 = jUpO 286 103 R' (jUp 286 C' M)) ⟨R', fun v M' => v = R' 0 0 ∧ M' = R', fun c hc => jUpO_R hc, hRR', ⟨rfl, fun v e1 _ => ⟨e1, rfl⟩⟩, fun r C9 _ b => ⟨b.1, by rw [b.2]; exact jUpO_i⟩⟩ (fun rt M3 grt q => ?_)
    obtain ⟨ert, rfl⟩ := q
    refine j_iload hO dL_law_1966 1 rfl ?_
    refine j_icmp_eq hO 1973 grt rk_1 dL_law_1968 (by decide) (fun _ => ?_) (fun z => absurd (by exact (ert.trans (by simpa using q0))) z)
    refine j_iload hO dL_law_1973 1 rfl ?_
    refine j_if_ne hO 1990 rk_1 dL_law_1975 (by decide) (fun _ => ?_) (fun z => absurd z (by decide))
    refine j_goto hO 3111 dL_law_1990 (by decide) ?_
    exact j_sub hO [2, 3, 4, 5, 6] rfl (hE.2.2 _ _ _ _ _ _ _ _ (by omega) (by omega) (hnext _ (InvL_n hRal hRC' hRR' (fun c hc => jUpO_lo hc) (fun c hc => jUpO_R hc))))
