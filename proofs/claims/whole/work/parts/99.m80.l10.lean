set_option maxHeartbeats 4000000 in
set_option maxRecDepth 100000 in
theorem lc_10 {l : Launch} {D : va_G} {cy : Nat → ClassId} {ad : Nat → Nat} {xs : Nat → Int} {L : Nat} {J : Nat → Nat → Nat → List (Nat × Value) → List Value → MM → Prop} (hst : l.stackTraces = false) (hin : jIn ad ksK.length) (hE : LwE l D cy ad xs L J) (hxs : ∀ j, ri_ (xs j)) {n : Nat} (hn : n < 512) (hL : 6 * n + 6 ≤ L) {M : MM} (hI : InvL n M) (hnext : ∀ M1, InvL (n + 1) M1 → J (390 + 3 * (n + 1)) (571600 + 18 * (n + 1)) 3111 [(0, .ref (ad 910)), (1, .ref (ad 0)), (2, .ref (ad 286)), (3, .ref (ad 389)), (4, .int (Ii (6 * (n : Int))))] [] M1) : J (390 + 3 * n) (571600 + 18 * n) 759 [(0, .ref (ad 910)), (1, .ref (ad 0)), (2, .ref (ad 286)), (3, .ref (ad 389)), (4, .int (Ii (6 * (n : Int))))] [] M := by
  have gi : ri_ (6 * (n : Int)) := by unfold ri_; omega
  obtain ⟨C, R, hR, hRC, hRR, hC, hRm⟩ := hI
  have hO := hE.1 (390 + 3 * n) (571600 + 18 * n) (by omega) (by omega)
  refine j_aload_n hO dL_law_759 rfl 1 rfl ?_
  refine j_aload_n hO dL_law_760 rfl 0 rfl ?_
  refine j_iload hO dL_law_761 4 rfl ?_
  refine j_iconst hO dL_law_763 ?_
  refine j_iadd hO dL_law_764 ?_
  refine j_ti hO XtB_sc (by unfold ri_; omega) (by omega) (by omega) dL_law_765 ?_
  refine j_aload_n hO dL_law_766 rfl 0 rfl ?_
  refine j_iload hO dL_law_767 4 rfl ?_
  refine j_iconst hO dL_law_769 ?_
  refine j_iadd hO dL_law_770 ?_
  refine j_ti hO XtB_sc (by unfold ri_; omega) (by omega) (by omega) dL_law_771 ?_
  by_cases zz : (xs ((6 * (n : Int)) + 2).toNat) = 0
  · refine j_if_eq hO 779 (hxs _) dL_law_772 (by decide) (fun _ => ?_) (fun z => absurd zz z)
    refine j_iconst hO dL_law_779 ?_
    obtain ⟨Q1, X1, hw1, h2, h4⟩ := v_root (p1 := (xs ((6 * (n : Int)) + 1).toNat)) (p2 := 0) (by omega) (by omega) (by decide) hR
    have hWL : WL_root ad (fun r M1 => ∃ C', jRg ftC ksC C' ∧ ((∃ r1, r = 0 ∧ Q1 r1 C' ∧ M1 = (jUp 286 C' M)) ∨ (r = 1 ∧ X1 "java/util/NoSuchElementException" C' ∧ M1 = jUp 286 C' M) ∨ (r = 2 ∧ X1 "java/lang/IllegalStateException" C' ∧ M1 = jUp 286 C' M))) [.ref (ad 0), .int (Ii (xs ((6 * (n : Int)) + 1).toNat)), .int (Ii 0)] M := by
      refine ⟨(xs ((6 * (n : Int)) + 1).toNat), 0, rfl, (hxs _), (by decide), ⟨C, Q1, X1, hC, hRC, hw1, fun r1 C' a b => ⟨C', a, Or.inl ⟨r1, rfl, b, rfl⟩⟩, fun E C' a m b => ?_⟩⟩
      simp only [List.mem_cons, List.not_mem_nil, or_false] at m
      rcases m with rfl | rfl
      · exact Or.inr (⟨rfl, C', a, Or.inr (Or.inr (⟨rfl, b, rfl⟩))⟩)
      · exact Or.inl ⟨rfl, C', a, Or.inr (Or.inl ⟨rfl, b, rfl⟩)⟩
    refine hE.2.1 _ _ 1 6 (by omega) (by omega) _ _ _ _ _ _ _ _ _ _ _ [.ref (ad 0), .int (Ii (xs ((6 * (n : Int)) + 1).toNat)), .int (Ii 0)] _ _ _ (cl_root (l := l) (D := D) (cy := cy) (xs := xs) (L := L) hst hin) rfl om_2180 ⟨rfl, rfl, Nat.le_of_ble_eq_true rfl, Nat.le_of_ble_eq_true rfl⟩ mv_L_167 hd_L_root rfl (Nat.le_of_ble_eq_true rfl) dL_law_780 hWL (fun rk1 M1 grk q => ?_)
    have hO := hE.1 (390 + 3 * n + 1) (571600 + 18 * n + 6) (by omega) (by omega)
    obtain ⟨C', hRC', q⟩ := q
    rcases q with ⟨r1, rfl, hq, rfl⟩ | ⟨rfl, hq, rfl⟩ | ⟨rfl, hq, rfl⟩
    · obtain ⟨Q0, hw2, h3⟩ := h2 _ C' hq
      refine j_istore (lv' := [(5, .int (Ii 0)), (0, .ref (ad 910)), (1, .ref (ad 0)), (2, .ref (ad 286)), (3, .ref (ad 389)), (4, .int (Ii (6 * (n : Int))))]) hO dL_law_783 (by decide) rfl ?_
      refine j_aload_n hO dL_law_785 rfl 3 rfl ?_
      refine j_aload_n hO dL_law_786 rfl 1 rfl ?_
      refine j_iload hO dL_law_787 5 rfl ?_
      refine j_iconst hO dL_law_789 ?_
      refine j_iadd hO dL_law_790 ?_
      refine j_ti hO XtB_sc (by unfold ri_; omega) (by omega) (by omega) dL_law_791 ?_
      refine j_aload_n hO dL_law_792 rfl 1 rfl ?_
      refine j_iload hO dL_law_793 5 rfl ?_
      refine j_iconst hO dL_law_795 ?_
      refine j_iadd hO dL_law_796 ?_
      refine j_ti hO XtB_sc (by unfold ri_; omega) (by omega) (by omega) dL_law_797 ?_
      refine j_if_eq hO 805 (hxs _) dL_law_798 (by decide) (fun _ => ?_) (fun z => absurd zz z)
      refine j_iconst hO dL_law_805 ?_
      refine j_callVv hO (lfR hin (c_X12_root (l := l) (D := D) (cy := cy) (ad := fun c => ad (286 + c)) (jIn_R hin))) rfl om_2183 ⟨rfl, rfl, Nat.le_of_ble_eq_true rfl, Nat.le_of_ble_eq_true rfl⟩ [.int (Ii (xs ((6 * (n : Int)) + 1).toNat)), .int (Ii 0)] mv_L_170 hd_X12_rootv kK_286 rfl rfl rfl (Nat.le_of_ble_eq_true rfl) dL_law_806 (P := fun r M1 => ∃ R', jRg ftR ksR R' ∧ Q0 r R' ∧ M1 = jUpO 286 103 R' (jUp 286 C' M)) ⟨R, Q0, (jUp_R hRm), hRR, ⟨(xs ((6 * (n : Int)) + 1).toNat), 0, rfl, (hxs _), (by decide), hw2⟩, fun r R' a b => ⟨R', a, b, rfl⟩⟩ (fun M2 q => ?_)
      obtain ⟨R', hRR', hq, rfl⟩ := q
      obtain ⟨q1, q0, hRal⟩ := h3 _ R' hq
      refine j_aload_n hO dL_law_809 rfl 3 rfl ?_
      refine j_callVi hO (lfR hin (c_X12_thrown (l := l) (D := D) (cy := cy) (ad := fun c => ad (286 + c)) (jIn_R hin))) rfl om_2146 ⟨rfl, rfl, Nat.le_of_ble_eq_true rfl, Nat.le_of_ble_eq_true rfl⟩ [] mv_L_149 hd_X12_thrownv kK_286 rfl rfl rfl (Nat.le_of_ble_eq_true rfl) dL_law_810 (P := fun r M1 => r = R' 0 0 ∧ M1 = jUpO 286 103 R' (jUp 286 C' M)) ⟨R', fun v M' => v = R' 0 0 ∧ M' = R', fun c hc => jUpO_R hc, hRR', ⟨rfl, fun v e1 _ => ⟨e1, rfl⟩⟩, fun r C9 _ b => ⟨b.1, by rw [b.2]; exact jUpO_i⟩⟩ (fun rt M3 grt q => ?_)
      obtain ⟨ert, rfl⟩ := q
      refine j_iload hO dL_law_813 0 rfl ?_
      refine j_icmp_eq hO 820 grt rk_0 dL_law_815 (by decide) (fun _ => ?_) (fun z => absurd (by exact (ert.trans q0)) z)
      refine j_goto hO 3111 dL_law_820 (by decide) ?_
      exact j_sub hO [1, 2, 3, 4, 5] rfl (hE.2.2 _ _ _ _ _ _ _ _ (by omega) (by omega) (hnext _ (InvL_n hRal hRC' hRR' (fun c hc => jUpO_lo hc) (fun c hc => jUpO_R hc))))
    · obtain ⟨Q0, hw2, h3⟩ := h4 _ C' hq
      refine j_istore (lv' := [(5, .int (Ii 1)), (0, .ref (ad 910)), (1, .ref (ad 0)), (2, .ref (ad 286)), (3, .ref (ad 389)), (4, .int (Ii (6 * (n : Int))))]) hO dL_law_783 (by decide) rfl ?_
      refine j_aload_n hO dL_law_785 rfl 3 rfl ?_
      refine j_aload_n hO dL_law_786 rfl 1 rfl ?_
      refine j_iload hO dL_law_787 5 rfl ?_
      refine j_iconst hO dL_law_789 ?_
      refine j_iadd hO dL_law_790 ?_
      refine j_ti hO XtB_sc (by unfold ri_; omega) (by omega) (by omega) dL_law_791 ?_
      refine j_aload_n hO dL_law_792 rfl 1 rfl ?_
      refine j_iload hO dL_law_793 5 rfl ?_
      refine j_iconst hO dL_law_795 ?_
      refine j_iadd hO dL_law_796 ?_
      refine j_ti hO XtB_sc (by unfold ri_; omega) (by omega) (by omega) dL_law_797 ?_
      refine j_if_eq hO 805 (hxs _) dL_law_798 (by decide) (fun _ => ?_) (fun z => absurd zz z)
      refine j_iconst hO dL_law_805 ?_
      refine j_callVv hO (lfR hin (c_X12_root (l := l) (D := D) (cy := cy) (ad := fun c => ad (286 + c)) (jIn_R hin))) rfl om_2183 ⟨rfl, rfl, Nat.le_of_ble_eq_true rfl, Nat.le_of_ble_eq_true rfl⟩ [.int (Ii (xs ((6 * (n : Int)) + 1).toNat)), .int (Ii 0)] mv_L_170 hd_X12_rootv kK_286 rfl rfl rfl (Nat.le_of_ble_eq_true rfl) dL_law_806 (P := fun r M1 => ∃ R', jRg ftR ksR R' ∧ Q0 r R' ∧ M1 = jUpO 286 103 R' (jUp 286 C' M)) ⟨R, Q0, (jUp_R hRm), hRR, ⟨(xs ((6 * (n : Int)) + 1).toNat), 0, rfl, (hxs _), (by decide), hw2⟩, fun r R' a b => ⟨R', a, b, rfl⟩⟩ (fun M2 q => ?_)
      obtain ⟨R', hRR', hq, rfl⟩ := q
      obtain ⟨q0, hRal⟩ := h3 _ R' hq
      refine j_aload_n hO dL_law_809 rfl 3 rfl ?_
      refine j_callVi hO (lfR hin (c_X12_thrown (l := l) (D := D) (cy := cy) (ad := fun c => ad (286 + c)) (jIn_R hin))) rfl om_2146 ⟨rfl, rfl, Nat.le_of_ble_eq_true rfl, Nat.le_of_ble_eq_true rfl⟩ [] mv_L_149 hd_X12_thrownv kK_286 rfl rfl rfl (Nat.le_of_ble_eq_true rfl) dL_law_810 (P := fun r M1 => r = R' 0 0 ∧ M1 = jUpO 286 103 R' (jUp 286 C' M)) ⟨R', fun v M' => v = R' 0 0 ∧ M' = R', fun c hc => jUpO_R hc, hRR', ⟨rfl, fun v e1 _ => ⟨e1, rfl⟩⟩, fun r C9 _ b => ⟨b.1, by rw [b.2]; exact jUpO_i⟩⟩ (fun rt M3 grt q => ?_)
      obtain ⟨ert, rfl⟩ := q
      refine j_iload hO dL_law_813 0 rfl ?_
      refine j_icmp_eq hO 820 grt rk_1 dL_law_815 (by decide) (fun _ => ?_) (fun z => absurd (by exact (ert.trans (by simpa using q0))) z)
      refine j_goto hO 3111 dL_law_820 (by decide) ?_
      exact j_sub hO [1, 2, 3, 4, 5] rfl (hE.2.2 _ _ _ _ _ _ _ _ (by omega) (by omega) (hnext _ (InvL_n hRal hRC' hRR' (fun c hc => jUpO_lo hc) (fun c hc => jUpO_R hc))))
    · obtain ⟨Q0, hw2, h3⟩ := h4 _ C' hq
      refine j_istore (lv' := [(5, .int (Ii 2)), (0, .ref (ad 910)), (1, .ref (ad 0)), (2, .ref (ad 286)), (3, .ref (ad 389)), (4, .int (Ii (6 * (n : Int))))]) hO dL_law_783 (by decide) rfl ?_
      refine j_aload_n hO dL_law_785 rfl 3 rfl ?_
      refine j_aload_n hO dL_law_786 rfl 1 rfl ?_
      refine j_iload hO dL_law_787 5 rfl ?_
      refine j_iconst hO dL_law_789 ?_
      refine j_iadd hO dL_law_790 ?_
      refine j_ti hO XtB_sc (by unfold ri_; omega) (by omega) (by omega) dL_law_791 ?_
      refine j_aload_n hO dL_law_792 rfl 1 rfl ?_
      refine j_iload hO dL_law_793 5 rfl ?_
      refine j_iconst hO dL_law_795 ?_
      refine j_iadd hO dL_law_796 ?_
      refine j_ti hO XtB_sc (by unfold ri_; omega) (by omega) (by omega) dL_law_797 ?_
      refine j_if_eq hO 805 (hxs _) dL_law_798 (by decide) (fun _ => ?_) (fun z => absurd zz z)
      refine j_iconst hO dL_law_805 ?_
      refine j_callVv hO (lfR hin (c_X12_root (l := l) (D := D) (cy := cy) (ad := fun c => ad (286 + c)) (jIn_R hin))) rfl om_2183 ⟨rfl, rfl, Nat.le_of_ble_eq_true rfl, Nat.le_of_ble_eq_true rfl⟩ [.int (Ii (xs ((6 * (n : Int)) + 1).toNat)), .int (Ii 0)] mv_L_170 hd_X12_rootv kK_286 rfl rfl rfl (Nat.le_of_ble_eq_true rfl) dL_law_806 (P := fun r M1 => ∃ R', jRg ftR ksR R' ∧ Q0 r R' ∧ M1 = jUpO 286 103 R' (jUp 286 C' M)) ⟨R, Q0, (jUp_R hRm), hRR, ⟨(xs ((6 * (n : Int)) + 1).toNat), 0, rfl, (hxs _), (by decide), hw2⟩, fun r R' a b => ⟨R', a, b, rfl⟩⟩ (fun M2 q => ?_)
      obtain ⟨R', hRR', hq, rfl⟩ := q
      obtain ⟨q0, hRal⟩ := h3 _ R' hq
      refine j_aload_n hO dL_law_809 rfl 3 rfl ?_
      refine j_callVi hO (lfR hin (c_X12_thrown (l := l) (D := D) (cy := cy) (ad := fun c => ad (286 + c)) (jIn_R hin))) rfl om_2146 ⟨rfl, rfl, Nat.le_of_ble_eq_true rfl, Nat.le_of_ble_eq_true rfl⟩ [] mv_L_149 hd_X12_thrownv kK_286 rfl rfl rfl (Nat.le_of_ble_eq_true rfl) dL_law_810 (P := fun r M1 => r = R' 0 0 ∧ M1 = jUpO 286 103 R' (jUp 286 C' M)) ⟨R', fun v M' => v = R' 0 0 ∧ M' = R', fun c hc => jUpO_R hc, hRR', ⟨rfl, fun v e1 _ => ⟨e1, rfl⟩⟩, fun r C9 _ b => ⟨b.1, by rw [b.2]; exact jUpO_i⟩⟩ (fun rt M3 grt q => ?_)
      obtain ⟨ert, rfl⟩ := q
      refine j_iload hO dL_law_813 0 rfl ?_
      refine j_icmp_eq hO 820 grt rk_2 dL_law_815 (by decide) (fun _ => ?_) (fun z => absurd (by exact (ert.trans (by simpa using q0))) z)
      refine j_goto hO 3111 dL_law_820 (by decide) ?_
      exact j_sub hO [1, 2, 3, 4, 5] rfl (hE.2.2 _ _ _ _ _ _ _ _ (by omega) (by omega) (hnext _ (InvL_n hRal hRC' hRR' (fun c hc => jUpO_lo hc) (fun c hc => jUpO_R hc))))
  · refine j_if_eq hO 779 (hxs _) dL_law_772 (by decide) (fun z => absurd z zz) (fun _ => ?_)
    refine j_iconst hO dL_law_775 ?_
    refine j_goto hO 780 dL_law_776 (by decide) ?_
    obtain ⟨Q1, X1, hw1, h2, h4⟩ := v_root (p1 := (xs ((6 * (n : Int)) + 1).toNat)) (p2 := 1) (by omega) (by omega) (by decide) hR
    have hWL : WL_root ad (fun r M1 => ∃ C', jRg ftC ksC C' ∧ ((∃ r1, r = 0 ∧ Q1 r1 C' ∧ M1 = (jUp 286 C' M)) ∨ (r = 1 ∧ X1 "java/util/NoSuchElementException" C' ∧ M1 = jUp 286 C' M) ∨ (r = 2 ∧ X1 "java/lang/IllegalStateException" C' ∧ M1 = jUp 286 C' M))) [.ref (ad 0), .int (Ii (xs ((6 * (n : Int)) + 1).toNat)), .int (Ii 1)] M := by
      refine ⟨(xs ((6 * (n : Int)) + 1).toNat), 1, rfl, (hxs _), (by decide), ⟨C, Q1, X1, hC, hRC, hw1, fun r1 C' a b => ⟨C', a, Or.inl ⟨r1, rfl, b, rfl⟩⟩, fun E C' a m b => ?_⟩⟩
      simp only [List.mem_cons, List.not_mem_nil, or_false] at m
      rcases m with rfl | rfl
      · exact Or.inr (⟨rfl, C', a, Or.inr (Or.inr (⟨rfl, b, rfl⟩))⟩)
      · exact Or.inl ⟨rfl, C', a, Or.inr (Or.inl ⟨rfl, b, rfl⟩)⟩
    refine hE.2.1 _ _ 1 6 (by omega) (by omega) _ _ _ _ _ _ _ _ _ _ _ [.ref (ad 0), .int (Ii (xs ((6 * (n : Int)) + 1).toNat)), .int (Ii 1)] _ _ _ (cl_root (l := l) (D := D) (cy := cy) (xs := xs) (L := L) hst hin) rfl om_2180 ⟨rfl, rfl, Nat.le_of_ble_eq_true rfl, Nat.le_of_ble_eq_true rfl⟩ mv_L_167 hd_L_root rfl (Nat.le_of_ble_eq_true rfl) dL_law_780 hWL (fun rk1 M1 grk q => ?_)
    have hO := hE.1 (390 + 3 * n + 1) (571600 + 18 * n + 6) (by omega) (by omega)
    obtain ⟨C', hRC', q⟩ := q
    rcases q with ⟨r1, rfl, hq, rfl⟩ | ⟨rfl, hq, rfl⟩ | ⟨rfl, hq, rfl⟩
    · obtain ⟨Q0, hw2, h3⟩ := h2 _ C' hq
      refine j_istore (lv' := [(5, .int (Ii 0)), (0, .ref (ad 910)), (1, .ref (ad 0)), (2, .ref (ad 286)), (3, .ref (ad 389)), (4, .int (Ii (6 * (n : Int))))]) hO dL_law_783 (by decide) rfl ?_
      refine j_aload_n hO dL_law_785 rfl 3 rfl ?_
      refine j_aload_n hO dL_law_786 rfl 1 rfl ?_
      refine j_iload hO dL_law_787 5 rfl ?_
      refine j_iconst hO dL_law_789 ?_
      refine j_iadd hO dL_law_790 ?_
      refine j_ti hO XtB_sc (by unfold ri_; omega) (by omega) (by omega) dL_law_791 ?_
      refine j_aload_n hO dL_law_792 rfl 1 rfl ?_
      refine j_iload hO dL_law_793 5 rfl ?_
      refine j_iconst hO dL_law_795 ?_
      refine j_iadd hO dL_law_796 ?_
      refine j_ti hO XtB_sc (by unfold ri_; omega) (by omega) (by omega) dL_law_797 ?_
      refine j_if_eq hO 805 (hxs _) dL_law_798 (by decide) (fun z => absurd z zz) (fun _ => ?_)
      refine j_iconst hO dL_law_801 ?_
      refine j_goto hO 806 dL_law_802 (by decide) ?_
      refine j_callVv hO (lfR hin (c_X12_root (l := l) (D := D) (cy := cy) (ad := fun c => ad (286 + c)) (jIn_R hin))) rfl om_2183 ⟨rfl, rfl, Nat.le_of_ble_eq_true rfl, Nat.le_of_ble_eq_true rfl⟩ [.int (Ii (xs ((6 * (n : Int)) + 1).toNat)), .int (Ii 1)] mv_L_170 hd_X12_rootv kK_286 rfl rfl rfl (Nat.le_of_ble_eq_true rfl) dL_law_806 (P := fun r M1 => ∃ R', jRg ftR ksR R' ∧ Q0 r R' ∧ M1 = jUpO 286 103 R' (jUp 286 C' M)) ⟨R, Q0, (jUp_R hRm), hRR, ⟨(xs ((6 * (n : Int)) + 1).toNat), 1, rfl, (hxs _), (by decide), hw2⟩, fun r R' a b => ⟨R', a, b, rfl⟩⟩ (fun M2 q => ?_)
      obtain ⟨R', hRR', hq, rfl⟩ := q
      obtain ⟨q1, q0, hRal⟩ := h3 _ R' hq
      refine j_aload_n hO dL_law_809 rfl 3 rfl ?_
      refine j_callVi hO (lfR hin (c_X12_thrown (l := l) (D := D) (cy := cy) (ad := fun c => ad (286 + c)) (jIn_R hin))) rfl om_2146 ⟨rfl, rfl, Nat.le_of_ble_eq_true rfl, Nat.le_of_ble_eq_true rfl⟩ [] mv_L_149 hd_X12_thrownv kK_286 rfl rfl rfl (Nat.le_of_ble_eq_true rfl) dL_law_810 (P := fun r M1 => r = R' 0 0 ∧ M1 = jUpO 286 103 R' (jUp 286 C' M)) ⟨R', fun v M' => v = R' 0 0 ∧ M' = R', fun c hc => jUpO_R hc, hRR', ⟨rfl, fun v e1 _ => ⟨e1, rfl⟩⟩, fun r C9 _ b => ⟨b.1, by rw [b.2]; exact jUpO_i⟩⟩ (fun rt M3 grt q => ?_)
      obtain ⟨ert, rfl⟩ := q
      refine j_iload hO dL_law_813 0 rfl ?_
      refine j_icmp_eq hO 820 grt rk_0 dL_law_815 (by decide) (fun _ => ?_) (fun z => absurd (by exact (ert.trans q0)) z)
      refine j_goto hO 3111 dL_law_820 (by decide) ?_
      exact j_sub hO [1, 2, 3, 4, 5] rfl (hE.2.2 _ _ _ _ _ _ _ _ (by omega) (by omega) (hnext _ (InvL_n hRal hRC' hRR' (fun c hc => jUpO_lo hc) (fun c hc => jUpO_R hc))))
    · obtain ⟨Q0, hw2, h3⟩ := h4 _ C' hq
      refine j_istore (lv' := [(5, .int (Ii 1)), (0, .ref (ad 910)), (1, .ref (ad 0)), (2, .ref (ad 286)), (3, .ref (ad 389)), (4, .int (Ii (6 * (n : Int))))]) hO dL_law_783 (by decide) rfl ?_
      refine j_aload_n hO dL_law_785 rfl 3 rfl ?_
      refine j_aload_n hO dL_law_786 rfl 1 rfl ?_
      refine j_iload hO dL_law_787 5 rfl ?_
      refine j_iconst hO dL_law_789 ?_
      refine j_iadd hO dL_law_790 ?_
      refine j_ti hO XtB_sc (by unfold ri_; omega) (by omega) (by omega) dL_law_791 ?_
      refine j_aload_n hO dL_law_792 rfl 1 rfl ?_
      refine j_iload hO dL_law_793 5 rfl ?_
      refine j_iconst hO dL_law_795 ?_
      refine j_iadd hO dL_law_796 ?_
      refine j_ti hO XtB_sc (by unfold ri_; omega) (by omega) (by omega) dL_law_797 ?_
      refine j_if_eq hO 805 (hxs _) dL_law_798 (by decide) (fun z => absurd z zz) (fun _ => ?_)
      refine j_iconst hO dL_law_801 ?_
      refine j_goto hO 806 dL_law_802 (by decide) ?_
      refine j_callVv hO (lfR hin (c_X12_root (l := l) (D := D) (cy := cy) (ad := fun c => ad (286 + c)) (jIn_R hin))) rfl om_2183 ⟨rfl, rfl, Nat.le_of_ble_eq_true rfl, Nat.le_of_ble_eq_true rfl⟩ [.int (Ii (xs ((6 * (n : Int)) + 1).toNat)), .int (Ii 1)] mv_L_170 hd_X12_rootv kK_286 rfl rfl rfl (Nat.le_of_ble_eq_true rfl) dL_law_806 (P := fun r M1 => ∃ R', jRg ftR ksR R' ∧ Q0 r R' ∧ M1 = jUpO 286 103 R' (jUp 286 C' M)) ⟨R, Q0, (jUp_R hRm), hRR, ⟨(xs ((6 * (n : Int)) + 1).toNat), 1, rfl, (hxs _), (by decide), hw2⟩, fun r R' a b => ⟨R', a, b, rfl⟩⟩ (fun M2 q => ?_)
      obtain ⟨R', hRR', hq, rfl⟩ := q
      obtain ⟨q0, hRal⟩ := h3 _ R' hq
      refine j_aload_n hO dL_law_809 rfl 3 rfl ?_
      refine j_callVi hO (lfR hin (c_X12_thrown (l := l) (D := D) (cy := cy) (ad := fun c => ad (286 + c)) (jIn_R hin))) rfl om_2146 ⟨rfl, rfl, Nat.le_of_ble_eq_true rfl, Nat.le_of_ble_eq_true rfl⟩ [] mv_L_149 hd_X12_thrownv kK_286 rfl rfl rfl (Nat.le_of_ble_eq_true rfl) dL_law_810 (P := fun r M1 => r = R' 0 0 ∧ M1 = jUpO 286 103 R' (jUp 286 C' M)) ⟨R', fun v M' => v = R' 0 0 ∧ M' = R', fun c hc => jUpO_R hc, hRR', ⟨rfl, fun v e1 _ => ⟨e1, rfl⟩⟩, fun r C9 _ b => ⟨b.1, by rw [b.2]; exact jUpO_i⟩⟩ (fun rt M3 grt q => ?_)
      obtain ⟨ert, rfl⟩ := q
      refine j_iload hO dL_law_813 0 rfl ?_
      refine j_icmp_eq hO 820 grt rk_1 dL_law_815 (by decide) (fun _ => ?_) (fun z => absurd (by exact (ert.trans (by simpa using q0))) z)
      refine j_goto hO 3111 dL_law_820 (by decide) ?_
      exact j_sub hO [1, 2, 3, 4, 5] rfl (hE.2.2 _ _ _ _ _ _ _ _ (by omega) (by omega) (hnext _ (InvL_n hRal hRC' hRR' (fun c hc => jUpO_lo hc) (fun c hc => jUpO_R hc))))
    · obtain ⟨Q0, hw2, h3⟩ := h4 _ C' hq
      refine j_istore (lv' := [(5, .int (Ii 2)), (0, .ref (ad 910)), (1, .ref (ad 0)), (2, .ref (ad 286)), (3, .ref (ad 389)), (4, .int (Ii (6 * (n : Int))))]) hO dL_law_783 (by decide) rfl ?_
      refine j_aload_n hO dL_law_785 rfl 3 rfl ?_
      refine j_aload_n hO dL_law_786 rfl 1 rfl ?_
      refine j_iload hO dL_law_787 5 rfl ?_
      refine j_iconst hO dL_law_789 ?_
      refine j_iadd hO dL_law_790 ?_
      refine j_ti hO XtB_sc (by unfold ri_; omega) (by omega) (by omega) dL_law_791 ?_
      refine j_aload_n hO dL_law_792 rfl 1 rfl ?_
      refine j_iload hO dL_law_793 5 rfl ?_
      refine j_iconst hO dL_law_795 ?_
      refine j_iadd hO dL_law_796 ?_
      refine j_ti hO XtB_sc (by unfold ri_; omega) (by omega) (by omega) dL_law_797 ?_
      refine j_if_eq hO 805 (hxs _) dL_law_798 (by decide) (fun z => absurd z zz) (fun _ => ?_)
      refine j_iconst hO dL_law_801 ?_
      refine j_goto hO 806 dL_law_802 (by decide) ?_
      refine j_callVv hO (lfR hin (c_X12_root (l := l) (D := D) (cy := cy) (ad := fun c => ad (286 + c)) (jIn_R hin))) rfl om_2183 ⟨rfl, rfl, Nat.le_of_ble_eq_true rfl, Nat.le_of_ble_eq_true rfl⟩ [.int (Ii (xs ((6 * (n : Int)) + 1).toNat)), .int (Ii 1)] mv_L_170 hd_X12_rootv kK_286 rfl rfl rfl (Nat.le_of_ble_eq_true rfl) dL_law_806 (P := fun r M1 => ∃ R', jRg ftR ksR R' ∧ Q0 r R' ∧ M1 = jUpO 286 103 R' (jUp 286 C' M)) ⟨R, Q0, (jUp_R hRm), hRR, ⟨(xs ((6 * (n : Int)) + 1).toNat), 1, rfl, (hxs _), (by decide), hw2⟩, fun r R' a b => ⟨R', a, b, rfl⟩⟩ (fun M2 q => ?_)
      obtain ⟨R', hRR', hq, rfl⟩ := q
      obtain ⟨q0, hRal⟩ := h3 _ R' hq
      refine j_aload_n hO dL_law_809 rfl 3 rfl ?_
      refine j_callVi hO (lfR hin (c_X12_thrown (l := l) (D := D) (cy := cy) (ad := fun c => ad (286 + c)) (jIn_R hin))) rfl om_2146 ⟨rfl, rfl, Nat.le_of_ble_eq_true rfl, Nat.le_of_ble_eq_true rfl⟩ [] mv_L_149 hd_X12_thrownv kK_286 rfl rfl rfl (Nat.le_of_ble_eq_true rfl) dL_law_810 (P := fun r M1 => r = R' 0 0 ∧ M1 = jUpO 286 103 R' (jUp 286 C' M)) ⟨R', fun v M' => v = R' 0 0 ∧ M' = R', fun c hc => jUpO_R hc, hRR', ⟨rfl, fun v e1 _ => ⟨e1, rfl⟩⟩, fun r C9 _ b => ⟨b.1, by rw [b.2]; exact jUpO_i⟩⟩ (fun rt M3 grt q => ?_)
      obtain ⟨ert, rfl⟩ := q
      refine j_iload hO dL_law_813 0 rfl ?_
      refine j_icmp_eq hO 820 grt rk_2 dL_law_815 (by decide) (fun _ => ?_) (fun z => absurd (by exact (ert.trans (by simpa using q0))) z)
      refine j_goto hO 3111 dL_law_820 (by decide) ?_
      exact j_sub hO [1, 2, 3, 4, 5] rfl (hE.2.2 _ _ _ _ _ _ _ _ (by omega) (by omega) (hnext _ (InvL_n hRal hRC' hRR' (fun c hc => jUpO_lo hc) (fun c hc => jUpO_R hc))))
set_option maxHeartbeats 4000000 in
set_option maxRecDepth 100000 in
theorem lc_11 {l : Launch} {D : va_G} {cy : Nat → ClassId} {ad : Nat → Nat} {xs : Nat → Int} {L : Nat} {J : Nat → Nat → Nat → List (Nat × Value) → List Value → MM → Prop} (hst : l.stackTraces = false) (hin : jIn ad ksK.length) (hE : LwE l D cy ad xs L J) (hxs : ∀ j, ri_ (xs j)) {n : Nat} (hn : n < 512) (hL : 6 * n + 6 ≤ L) {M : MM} (hI : InvL n M) (hnext : ∀ M1, InvL (n + 1) M1 → J (390 + 3 * (n + 1)) (571600 + 18 * (n + 1)) 3111 [(0, .ref (ad 910)), (1, .ref (ad 0)), (2, .ref (ad 286)), (3, .ref (ad 389)), (4, .int (Ii (6 * (n : Int))))] [] M1) : J (390 + 3 * n) (571600 + 18 * n) 823 [(0, .ref (ad 910)), (1, .ref (ad 0)), (2, .ref (ad 286)), (3, .ref (ad 389)), (4, .int (Ii (6 * (n : Int))))] [] M := by
  have gi : ri_ (6 * (n : Int)) := by unfold ri_; omega
  obtain ⟨C, R, hR, hRC, hRR, hC, hRm⟩ := hI
  have hO := hE.1 (390 + 3 * n) (571600 + 18 * n) (by omega) (by omega)
  refine j_aload_n hO dL_law_823 rfl 1 rfl ?_
  refine j_aload_n hO dL_law_824 rfl 0 rfl ?_
  refine j_iload hO dL_law_825 4 rfl ?_
  refine j_iconst hO dL_law_827 ?_
  refine j_iadd hO dL_law_828 ?_
  refine j_ti hO XtB_sc (by unfold ri_; omega) (by omega) (by omega) dL_law_829 ?_
  refine j_aload_n hO dL_law_830 rfl 0 rfl ?_
  refine j_iload hO dL_law_831 4 rfl ?_
  refine j_iconst hO dL_law_833 ?_
  refine j_iadd hO dL_law_834 ?_
  refine j_ti hO XtB_sc (by unfold ri_; omega) (by omega) (by omega) dL_law_835 ?_
  refine j_aload_n hO dL_law_836 rfl 0 rfl ?_
  refine j_iload hO dL_law_837 4 rfl ?_
  refine j_iconst hO dL_law_839 ?_
  refine j_iadd hO dL_law_840 ?_
  refine j_ti hO XtB_sc (by unfold ri_; omega) (by omega) (by omega) dL_law_841 ?_
  refine j_i2l hO (hxs _) dL_law_842 ?_
  refine j_bipush hO dL_law_843 (by decide) ?_
  refine j_lshl hO dL_law_845 ?_
  refine j_aload_n hO dL_law_846 rfl 0 rfl ?_
  refine j_iload hO dL_law_847 4 rfl ?_
  refine j_iconst hO dL_law_849 ?_
  refine j_iadd hO dL_law_850 ?_
  refine j_ti hO XtB_sc (by unfold ri_; omega) (by omega) (by omega) dL_law_851 ?_
  refine j_i2l hO (hxs _) dL_law_852 ?_
  refine j_ldc2 hO 4294967295 om_2187 (by decide) dL_law_853 ?_
  refine j_land hO dL_law_856 ?_
  refine j_lor hO dL_law_857 ?_
  refine j_aload_n hO dL_law_858 rfl 3 rfl ?_
  obtain ⟨Q1, X1, hw1, h2, h4⟩ := v_set (p1 := (xs ((6 * (n : Int)) + 1).toNat)) (p2 := (xs ((6 * (n : Int)) + 2).toNat)) (p3 := (jlor (jlshl (xs ((6 * (n : Int)) + 3).toNat) 32) (jland (xs ((6 * (n : Int)) + 4).toNat) 4294967295))) (by omega) (by omega) hR
  have hWL : WL_set ad (fun r M1 => ∃ C', jRg ftC ksC C' ∧ ((∃ r1, r = 0 ∧ Q1 r1 C' ∧ M1 = (ux_ (jUp 286 C' M) 389 0 r1)) ∨ (r = 1 ∧ X1 "java/util/NoSuchElementException" C' ∧ M1 = jUp 286 C' M) ∨ (r = 2 ∧ X1 "java/lang/IllegalArgumentException" C' ∧ M1 = jUp 286 C' M))) [.ref (ad 0), .int (Ii (xs ((6 * (n : Int)) + 1).toNat)), .int (Ii (xs ((6 * (n : Int)) + 2).toNat)), .long (Ll (jlor (jlshl (xs ((6 * (n : Int)) + 3).toNat) 32) (jland (xs ((6 * (n : Int)) + 4).toNat) 4294967295))), .ref (ad 389)] M := by
    refine ⟨(xs ((6 * (n : Int)) + 1).toNat), (xs ((6 * (n : Int)) + 2).toNat), (jlor (jlshl (xs ((6 * (n : Int)) + 3).toNat) 32) (jland (xs ((6 * (n : Int)) + 4).toNat) 4294967295)), rfl, (hxs _), (hxs _), (rl_of _), ⟨C, Q1, X1, hC, hRC, hw1, fun r1 C' a b => ⟨C', a, Or.inl ⟨r1, rfl, b, rfl⟩⟩, fun E C' a m b => ?_⟩⟩
    simp only [List.mem_cons, List.not_mem_nil, or_false] at m
    rcases m with rfl | rfl
    · exact Or.inr (⟨rfl, C', a, Or.inr (Or.inr (⟨rfl, b, rfl⟩))⟩)
    · exact Or.inl ⟨rfl, C', a, Or.inr (Or.inl ⟨rfl, b, rfl⟩)⟩
  refine hE.2.1 _ _ 1 6 (by omega) (by omega) _ _ _ _ _ _ _ _ _ _ _ [.ref (ad 0), .int (Ii (xs ((6 * (n : Int)) + 1).toNat)), .int (Ii (xs ((6 * (n : Int)) + 2).toNat)), .long (Ll (jlor (jlshl (xs ((6 * (n : Int)) + 3).toNat) 32) (jland (xs ((6 * (n : Int)) + 4).toNat) 4294967295))), .ref (ad 389)] _ _ _ (cl_set (l := l) (D := D) (cy := cy) (xs := xs) (L := L) hst hin) rfl om_2188 ⟨rfl, rfl, Nat.le_of_ble_eq_true rfl, Nat.le_of_ble_eq_true rfl⟩ mv_L_173 hd_L_set rfl (Nat.le_of_ble_eq_true rfl) dL_law_859 hWL (fun rk1 M1 grk q => ?_)
  have hO := hE.1 (390 + 3 * n + 1) (571600 + 18 * n + 6) (by omega) (by omega)
  obtain ⟨C', hRC', q⟩ := q
  rcases q with ⟨r1, rfl, hq, rfl⟩ | ⟨rfl, hq, rfl⟩ | ⟨rfl, hq, rfl⟩
  · obtain ⟨Q0, hw2, h3⟩ := h2 _ C' hq
    refine j_istore (lv' := [(5, .int (Ii 0)), (0, .ref (ad 910)), (1, .ref (ad 0)), (2, .ref (ad 286)), (3, .ref (ad 389)), (4, .int (Ii (6 * (n : Int))))]) hO dL_law_862 (by decide) rfl ?_
    refine j_aload_n hO dL_law_864 rfl 3 rfl ?_
    refine j_aload_n hO dL_law_865 rfl 1 rfl ?_
    refine j_iload hO dL_law_866 5 rfl ?_
    refine j_iconst hO dL_law_868 ?_
    refine j_iadd hO dL_law_869 ?_
    refine j_ti hO XtB_sc (by unfold ri_; omega) (by omega) (by omega) dL_law_870 ?_
    refine j_aload_n hO dL_law_871 rfl 1 rfl ?_
    refine j_iload hO dL_law_872 5 rfl ?_
    refine j_iconst hO dL_law_874 ?_
    refine j_iadd hO dL_law_875 ?_
    refine j_ti hO XtB_sc (by unfold ri_; omega) (by omega) (by omega) dL_law_876 ?_
    refine j_aload_n hO dL_law_877 rfl 1 rfl ?_
    refine j_iload hO dL_law_878 5 rfl ?_
    refine j_iconst hO dL_law_880 ?_
    refine j_iadd hO dL_law_881 ?_
    refine j_ti hO XtB_sc (by unfold ri_; omega) (by omega) (by omega) dL_law_882 ?_
    refine j_i2l hO (hxs _) dL_law_883 ?_
    refine j_bipush hO dL_law_884 (by decide) ?_
    refine j_lshl hO dL_law_886 ?_
    refine j_aload_n hO dL_law_887 rfl 1 rfl ?_
    refine j_iload hO dL_law_888 5 rfl ?_
    refine j_iconst hO dL_law_890 ?_
    refine j_iadd hO dL_law_891 ?_
    refine j_ti hO XtB_sc (by unfold ri_; omega) (by omega) (by omega) dL_law_892 ?_
    refine j_i2l hO (hxs _) dL_law_893 ?_
    refine j_ldc2 hO 4294967295 om_2187 (by decide) dL_law_894 ?_
    refine j_land hO dL_law_897 ?_
    refine j_lor hO dL_law_898 ?_
    refine j_callVi hO (lfR hin (c_X12_set (l := l) (D := D) (cy := cy) (ad := fun c => ad (286 + c)) (jIn_R hin))) rfl om_2191 ⟨rfl, rfl, Nat.le_of_ble_eq_true rfl, Nat.le_of_ble_eq_true rfl⟩ [.int (Ii (xs ((6 * (n : Int)) + 1).toNat)), .int (Ii (xs ((6 * (n : Int)) + 2).toNat)), .long (Ll (jlor (jlshl (xs ((6 * (n : Int)) + 3).toNat) 32) (jland (xs ((6 * (n : Int)) + 4).toNat) 4294967295)))] mv_L_176 hd_X12_setv kK_286 rfl rfl rfl (Nat.le_of_ble_eq_true rfl) dL_law_899 (P := fun r M1 => ∃ R', jRg ftR ksR R' ∧ Q0 r R' ∧ M1 = jUpO 286 103 R' (ux_ (jUp 286 C' M) 389 0 r1)) ⟨R, Q0, (jUp_U hRm), hRR, ⟨(xs ((6 * (n : Int)) + 1).toNat), (xs ((6 * (n : Int)) + 2).toNat), (jlor (jlshl (xs ((6 * (n : Int)) + 3).toNat) 32) (jland (xs ((6 * (n : Int)) + 4).toNat) 4294967295)), rfl, (hxs _), (hxs _), (rl_of _), hw2⟩, fun r R' a b => ⟨R', a, b, rfl⟩⟩ (fun rb M2 grb q => ?_)
    obtain ⟨R', hRR', hq, rfl⟩ := q
    obtain ⟨q1, q0, hRal⟩ := h3 _ R' hq
    refine j_istore (lv' := [(6, .int (Ii rb)), (5, .int (Ii 0)), (0, .ref (ad 910)), (1, .ref (ad 0)), (2, .ref (ad 286)), (3, .ref (ad 389)), (4, .int (Ii (6 * (n : Int))))]) hO dL_law_902 (by decide) rfl ?_
    refine j_aload_n hO dL_law_904 rfl 4 rfl ?_
    refine j_callVi hO (lfR hin (c_X12_thrown (l := l) (D := D) (cy := cy) (ad := fun c => ad (286 + c)) (jIn_R hin))) rfl om_2146 ⟨rfl, rfl, Nat.le_of_ble_eq_true rfl, Nat.le_of_ble_eq_true rfl⟩ [] mv_L_149 hd_X12_thrownv kK_286 rfl rfl rfl (Nat.le_of_ble_eq_true rfl) dL_law_905 (P := fun r M1 => r = R' 0 0 ∧ M1 = jUpO 286 103 R' (ux_ (jUp 286 C' M) 389 0 r1)) ⟨R', fun v M' => v = R' 0 0 ∧ M' = R', fun c hc => jUpO_R hc, hRR', ⟨rfl, fun v e1 _ => ⟨e1, rfl⟩⟩, fun r C9 _ b => ⟨b.1, by rw [b.2]; exact jUpO_i⟩⟩ (fun rt M3 grt q => ?_)
    obtain ⟨ert, rfl⟩ := q
    refine j_iload hO dL_law_908 1 rfl ?_
    refine j_icmp_eq hO 915 grt rk_0 dL_law_910 (by decide) (fun _ => ?_) (fun z => absurd (by exact (ert.trans q0)) z)
    refine j_iload hO dL_law_915 1 rfl ?_
    refine j_if_ne hO 932 rk_0 dL_law_917 (by decide) (fun z => absurd z (by decide)) (fun _ => ?_)
    refine j_aload_n hO dL_law_920 rfl 5 rfl ?_
    refine j_iconst hO dL_law_921 ?_
    refine j_lald hO rk_0 kK_389 (by decide) (by decide) dL_law_922 (fun v922 ev922 gv922 => ?_)
    refine j_iload hO dL_law_923 0 rfl ?_
    refine j_i2l hO grb dL_law_925 ?_
    refine j_lcmp_eq hO 932 gv922 (rl_ri grb) dL_law_926 dL_law_927 (by decide) (fun _ => ?_) (fun z => absurd (by rw [ev922]; exact (jUpO_o 389 (by decide)).trans ((ux_s _ _ _ _).trans q1)) z)
    refine j_goto hO 3111 dL_law_932 (by decide) ?_
    exact j_sub hO [2, 3, 4, 5, 6] rfl (hE.2.2 _ _ _ _ _ _ _ _ (by omega) (by omega) (hnext _ (InvL_n hRal hRC' hRR' (fun c hc => jUpO_lu hc) (fun c hc => jUpO_R hc))))
  · obtain ⟨Q0, hw2, h3⟩ := h4 _ C' hq
    refine j_istore (lv' := [(5, .int (Ii 1)), (0, .ref (ad 910)), (1, .ref (ad 0)), (2, .ref (ad 286)), (3, .ref (ad 389)), (4, .int (Ii (6 * (n : Int))))]) hO dL_law_862 (by decide) rfl ?_
    refine j_aload_n hO dL_law_864 rfl 3 rfl ?_
    refine j_aload_n hO dL_law_865 rfl 1 rfl ?_
    refine j_iload hO dL_law_866 5 rfl ?_
    refine j_iconst hO dL_law_868 ?_
    refine j_iadd hO dL_law_869 ?_
    refine j_ti hO XtB_sc (by unfold ri_; omega) (by omega) (by omega) dL_law_870 ?_
    refine j_aload_n hO dL_law_871 rfl 1 rfl ?_
    refine j_iload hO dL_law_872 5 rfl ?_
    refine j_iconst hO dL_law_874 ?_
    refine j_iadd hO dL_law_875 ?_
    refine j_ti hO XtB_sc (by unfold ri_; omega) (by omega) (by omega) dL_law_876 ?_
    refine j_aload_n hO dL_law_877 rfl 1 rfl ?_
    refine j_iload hO dL_law_878 5 rfl ?_
    refine j_iconst hO dL_law_880 ?_
    refine j_iadd hO dL_law_881 ?_
    refine j_ti hO XtB_sc (by unfold ri_; omega) (by omega) (by omega) dL_law_882 ?_
    refine j_i2l hO (hxs _) dL_law_883 ?_
    refine j_bipush hO dL_law_884 (by decide) ?_
    refine j_lshl hO dL_law_886 ?_
    refine j_aload_n hO dL_law_887 rfl 1 rfl ?_
    refine j_iload hO dL_law_888 5 rfl ?_
    refine j_iconst hO dL_law_890 ?_
    refine j_iadd hO dL_law_891 ?_
    refine j_ti hO XtB_sc (by unfold ri_; omega) (by omega) (by omega) dL_law_892 ?_
    refine j_i2l hO (hxs _) dL_law_893 ?_
    refine j_ldc2 hO 4294967295 om_2187 (by decide) dL_law_894 ?_
    refine j_land hO dL_law_897 ?_
    refine j_lor hO dL_law_898 ?_
    refine j_callVi hO (lfR hin (c_X12_set (l := l) (D := D) (cy := cy) (ad := fun c => ad (286 + c)) (jIn_R hin))) rfl om_2191 ⟨rfl, rfl, Nat.le_of_ble_eq_true rfl, Nat.le_of_ble_eq_true rfl⟩ [.int (Ii (xs ((6 * (n : Int)) + 1).toNat)), .int (Ii (xs ((6 * (n : Int)) + 2).toNat)), .long (Ll (jlor (jlshl (xs ((6 * (n : Int)) + 3).toNat) 32) (jland (xs ((6 * (n : Int)) + 4).toNat) 4294967295)))] mv_L_176 hd_X12_setv kK_286 rfl rfl rfl (Nat.le_of_ble_eq_true rfl) dL_law_899 (P := fun r M1 => ∃ R', jRg ftR ksR R' ∧ Q0 r R' ∧ M1 = jUpO 286 103 R' (jUp 286 C' M)) ⟨R, Q0, (jUp_R hRm), hRR, ⟨(xs ((6 * (n : Int)) + 1).toNat), (xs ((6 * (n : Int)) + 2).toNat), (jlor (jlshl (xs ((6 * (n : Int)) + 3).toNat) 32) (jland (xs ((6 * (n : Int)) + 4).toNat) 4294967295)), rfl, (hxs _), (hxs _), (rl_of _), hw2⟩, fun r R' a b => ⟨R', a, b, rfl⟩⟩ (fun rb M2 grb q => ?_)
    obtain ⟨R', hRR', hq, rfl⟩ := q
    obtain ⟨q0, hRal⟩ := h3 _ R' hq
    refine j_istore (lv' := [(6, .int (Ii rb)), (5, .int (Ii 1)), (0, .ref (ad 910)), (1, .ref (ad 0)), (2, .ref (ad 286)), (3, .ref (ad 389)), (4, .int (Ii (6 * (n : Int))))]) hO dL_law_902 (by decide) rfl ?_
    refine j_aload_n hO dL_law_904 rfl 4 rfl ?_
    refine j_callVi hO (lfR hin (c_X12_thrown (l := l) (D := D) (cy := cy) (ad := fun c => ad (286 + c)) (jIn_R hin))) rfl om_2146 ⟨rfl, rfl, Nat.le_of_ble_eq_true rfl, Nat.le_of_ble_eq_true rfl⟩ [] mv_L_149 hd_X12_thrownv kK_286 rfl rfl rfl (Nat.le_of_ble_eq_true rfl) dL_law_905 (P := fun r M1 => r = R' 0 0 ∧ M1 = jUpO 286 103 R' (jUp 286 C' M)) ⟨R', fun v M' => v = R' 0 0 ∧ M' = R', fun c hc => jUpO_R hc, hRR', ⟨rfl, fun v e1 _ => ⟨e1, rfl⟩⟩, fun r C9 _ b => ⟨b.1, by rw [b.2]; exact jUpO_i⟩⟩ (fun rt M3 grt q => ?_)
    obtain ⟨ert, rfl⟩ := q
    refine j_iload hO dL_law_908 1 rfl ?_
    refine j_icmp_eq hO 915 grt rk_1 dL_law_910 (by decide) (fun _ => ?_) (fun z => absurd (by exact (ert.trans (by simpa using q0))) z)
    refine j_iload hO dL_law_915 1 rfl ?_
    refine j_if_ne hO 932 rk_1 dL_law_917 (by decide) (fun _ => ?_) (fun z => absurd z (by decide))
    refine j_goto hO 3111 dL_law_932 (by decide) ?_
    exact j_sub hO [2, 3, 4, 5, 6] rfl (hE.2.2 _ _ _ _ _ _ _ _ (by omega) (by omega) (hnext _ (InvL_n hRal hRC' hRR' (fun c hc => jUpO_lo hc) (fun c hc => jUpO_R hc))))
  · obtain ⟨Q0, hw2, h3⟩ := h4 _ C' hq
    refine j_istore (lv' := [(5, .int (Ii 2)), (0, .ref (ad 910)), (1, .ref (ad 0)), (2, .ref (ad 286)), (3, .ref (ad 389)), (4, .int (Ii (6 * (n : Int))))]) hO dL_law_862 (by decide) rfl ?_
    refine j_aload_n hO dL_law_864 rfl 3 rfl ?_
    refine j_aload_n hO dL_law_865 rfl 1 rfl ?_
    refine j_iload hO dL_law_866 5 rfl ?_
    refine j_iconst hO dL_law_868 ?_
    refine j_iadd hO dL_law_869 ?_
    refine j_ti hO XtB_sc (by unfold ri_; omega) (by omega) (by omega) dL_law_870 ?_
    refine j_aload_n hO dL_law_871 rfl 1 rfl ?_
    refine j_iload hO dL_law_872 5 rfl ?_
    refine j_iconst hO dL_law_874 ?_
    refine j_iadd hO dL_law_875 ?_
    refine j_ti hO XtB_sc (by unfold ri_; omega) (by omega) (by omega) dL_law_876 ?_
    refine j_aload_n hO dL_law_877 rfl 1 rfl ?_
    refine j_iload hO dL_law_878 5 rfl ?_
    refine j_iconst hO dL_law_880 ?_
    refine j_iadd hO dL_law_881 ?_
    refine j_ti hO XtB_sc (by unfold ri_; omega) (by omega) (by omega) dL_law_882 ?_
    refine j_i2l hO (hxs _) dL_law_883 ?_
    refine j_bipush hO dL_law_884 (by decide) ?_
    refine j_lshl hO dL_law_886 ?_
    refine j_aload_n hO dL_law_887 rfl 1 rfl ?_
    refine j_iload hO dL_law_888 5 rfl ?_
    refine j_iconst hO dL_law_890 ?_
    refine j_iadd hO dL_law_891 ?_
    refine j_ti hO XtB_sc (by unfold ri_; omega) (by omega) (by omega) dL_law_892 ?_
    refine j_i2l hO (hxs _) dL_law_893 ?_
    refine j_ldc2 hO 4294967295 om_2187 (by decide) dL_law_894 ?_
    refine j_land hO dL_law_897 ?_
    refine j_lor hO dL_law_898 ?_
    refine j_callVi hO (lfR hin (c_X12_set (l := l) (D := D) (cy := cy) (ad := fun c => ad (286 + c)) (jIn_R hin))) rfl om_2191 ⟨rfl, rfl, Nat.le_of_ble_eq_true rfl, Nat.le_of_ble_eq_true rfl⟩ [.int (Ii (xs ((6 * (n : Int)) + 1).toNat)), .int (Ii (xs ((6 * (n : Int)) + 2).toNat)), .long (Ll (jlor (jlshl (xs ((6 * (n : Int)) + 3).toNat) 32) (jland (xs ((6 * (n : Int)) + 4).toNat) 4294967295)))] mv_L_176 hd_X12_setv kK_286 rfl rfl rfl (Nat.le_of_ble_eq_true rfl) dL_law_899 (P := fun r M1 => ∃ R', jRg ftR ksR R' ∧ Q0 r R' ∧ M1 = jUpO 286 103 R' (jUp 286 C' M)) ⟨R, Q0, (jUp_R hRm), hRR, ⟨(xs ((6 * (n : Int)) + 1).toNat), (xs ((6 * (n : Int)) + 2).toNat), (jlor (jlshl (xs ((6 * (n : Int)) + 3).toNat) 32) (jland (xs ((6 * (n : Int)) + 4).toNat) 4294967295)), rfl, (hxs _), (hxs _), (rl_of _), hw2⟩, fun r R' a b => ⟨R', a, b, rfl⟩⟩ (fun rb M2 grb q => ?_)
    obtain ⟨R', hRR', hq, rfl⟩ := q
    obtain ⟨q0, hRal⟩ := h3 _ R' hq
    refine j_istore (lv' := [(6, .int (Ii rb)), (5, .int (Ii 2)), (0, .ref (ad 910)), (1, .ref (ad 0)), (2, .ref (ad 286)), (3, .ref (ad 389)), (4, .int (Ii (6 * (n : Int))))]) hO dL_law_902 (by decide) rfl ?_
    refine j_aload_n hO dL_law_904 rfl 4 rfl ?_
    refine j_callVi hO (lfR hin (c_X12_thrown (l := l) (D := D) (cy := cy) (ad := fun c => ad (286 + c)) (jIn_R hin))) rfl om_2146 ⟨rfl, rfl, Nat.le_of_ble_eq_true rfl, Nat.le_of_ble_eq_true rfl⟩ [] mv_L_149 hd_X12_thrownv kK_286 rfl rfl rfl (Nat.le_of_ble_eq_true rfl) dL_law_905 (P := fun r M1 => r = R' 0 0 ∧ M1 = jUpO 286 103 R' (jUp 286 C' M)) ⟨R', fun v M' => v = R' 0 0 ∧ M' = R', fun c hc => jUpO_R hc, hRR', ⟨rfl, fun v e1 _ => ⟨e1, rfl⟩⟩, fun r C9 _ b => ⟨b.1, by rw [b.2]; exact jUpO_i⟩⟩ (fun rt M3 grt q => ?_)
    obtain ⟨ert, rfl⟩ := q
    refine j_iload hO dL_law_908 1 rfl ?_
    refine j_icmp_eq hO 915 grt rk_2 dL_law_910 (by decide) (fun _ => ?_) (fun z => absurd (by exact (ert.trans (by simpa using q0))) z)
    refine j_iload hO dL_law_915 1 rfl ?_
    refine j_if_ne hO 932 rk_2 dL_law_917 (by decide) (fun _ => ?_) (fun z => absurd z (by decide))
    refine j_goto hO 3111 dL_law_932 (by decide) ?_
    exact j_sub hO [2, 3, 4, 5, 6] rfl (hE.2.2 _ _ _ _ _ _ _ _ (by omega) (by omega) (hnext _ (InvL_n hRal hRC' hRR' (fun c hc => jUpO_lo hc) (fun c hc => jUpO_R hc))))
set_option maxHeartbeats 4000000 in
set_option maxRecDepth 100000 in
theorem lc_12 {l : Launch} {D : va_G} {cy : Nat → ClassId} {ad : Nat → Nat} {xs : Nat → Int} {L : Nat} {J : Nat → Nat → Nat → List (Nat × Value) → List Value → MM → Prop} (hst : l.stackTraces = false) (hin : jIn ad ksK.length) (hE : LwE l D cy ad xs L J) (hxs : ∀ j, ri_ (xs j)) {n : Nat} (hn : n < 512) (hL : 6 * n + 6 ≤ L) {M : MM} (hI : InvL n M) (hnext : ∀ M1, InvL (n + 1) M1 → J (390 + 3 * (n + 1)) (571600 + 18 * (n + 1)) 3111 [(0, .ref (ad 910)), (1, .ref (ad 0)), (2, .ref (ad 286)), (3, .ref (ad 389)), (4, .int (Ii (6 * (n : Int))))] [] M1) : J (390 + 3 * n) (571600 + 18 * n) 935 [(0, .ref (ad 910)), (1, .ref (ad 0)), (2, .ref (ad 286)), (3, .ref (ad 389)), (4, .int (Ii (6 * (n : Int))))] [] M := by
  have gi : ri_ (6 * (n : Int)) := by unfold ri_; omega
  obtain ⟨C, R, hR, hRC, hRR, hC, hRm⟩ := hI
  have hO := hE.1 (390 + 3 * n) (571600 + 18 * n) (by omega) (by omega)
  refine j_aload_n hO dL_law_935 rfl 1 rfl ?_
  refine j_aload_n hO dL_law_936 rfl 0 rfl ?_
  refine j_iload hO dL_law_937 4 rfl ?_
  refine j_iconst hO dL_law_939 ?_
  refine j_iadd hO dL_law_940 ?_
  refine j_ti hO XtB_sc (by unfold ri_; omega) (by omega) (by omega) dL_law_941 ?_
  refine j_aload_n hO dL_law_942 rfl 0 rfl ?_
  refine j_iload hO dL_law_943 4 rfl ?_
  refine j_iconst hO dL_law_945 ?_
  refine j_iadd hO dL_law_946 ?_
  refine j_ti hO XtB_sc (by unfold ri_; omega) (by omega) (by omega) dL_law_947 ?_
  refine j_aload_n hO dL_law_948 rfl 0 rfl ?_
  refine j_iload hO dL_law_949 4 rfl ?_
  refine j_iconst hO dL_law_951 ?_
  refine j_iadd hO dL_law_952 ?_
  refine j_ti hO XtB_sc (by unfold ri_; omega) (by omega) (by omega) dL_law_953 ?_
  refine j_i2l hO (hxs _) dL_law_954 ?_
  refine j_bipush hO dL_law_955 (by decide) ?_
  refine j_lshl hO dL_law_957 ?_
  refine j_aload_n hO dL_law_958 rfl 0 rfl ?_
  refine j_iload hO dL_law_959 4 rfl ?_
  refine j_iconst hO dL_law_961 ?_
  refine j_iadd hO dL_law_962 ?_
  refine j_ti hO XtB_sc (by unfold ri_; omega) (by omega) (by omega) dL_law_963 ?_
  refine j_i2l hO (hxs _) dL_law_964 ?_
  refine j_ldc2 hO 4294967295 om_2187 (by decide) dL_law_965 ?_
  refine j_land hO dL_law_968 ?_
  refine j_lor hO dL_law_969 ?_
  refine j_aload_n hO dL_law_970 rfl 3 rfl ?_
  obtain ⟨Q1, X1, hw1, h2, h4⟩ := v_setStatic (p1 := (xs ((6 * (n : Int)) + 1).toNat)) (p2 := (xs ((6 * (n : Int)) + 2).toNat)) (p3 := (jlor (jlshl (xs ((6 * (n : Int)) + 3).toNat) 32) (jland (xs ((6 * (n : Int)) + 4).toNat) 4294967295))) (by omega) (by omega) hR
  have hWL : WL_setStatic ad (fun r M1 => ∃ C', jRg ftC ksC C' ∧ ((∃ r1, r = 0 ∧ Q1 r1 C' ∧ M1 = (ux_ (jUp 286 C' M) 389 0 r1)) ∨ (r = 1 ∧ X1 "java/util/NoSuchElementException" C' ∧ M1 = jUp 286 C' M) ∨ (r = 2 ∧ X1 "java/lang/IllegalArgumentException" C' ∧ M1 = jUp 286 C' M))) [.ref (ad 0), .int (Ii (xs ((6 * (n : Int)) + 1).toNat)), .int (Ii (xs ((6 * (n : Int)) + 2).toNat)), .long (Ll (jlor (jlshl (xs ((6 * (n : Int)) + 3).toNat) 32) (jland (xs ((6 * (n : Int)) + 4).toNat) 4294967295))), .ref (ad 389)] M := by
    refine ⟨(xs ((6 * (n : Int)) + 1).toNat), (xs ((6 * (n : Int)) + 2).toNat), (jlor (jlshl (xs ((6 * (n : Int)) + 3).toNat) 32) (jland (xs ((6 * (n : Int)) + 4).toNat) 4294967295)), rfl, (hxs _), (hxs _), (rl_of _), ⟨C, Q1, X1, hC, hRC, hw1, fun r1 C' a b => ⟨C', a, Or.inl ⟨r1, rfl, b, rfl⟩⟩, fun E C' a m b => ?_⟩⟩
    simp only [List.mem_cons, List.not_mem_nil, or_false] at m
    rcases m with rfl | rfl
    · exact Or.inr (⟨rfl, C', a, Or.inr (Or.inr (⟨rfl, b, rfl⟩))⟩)
    · exact Or.inl ⟨rfl, C', a, Or.inr (Or.inl ⟨rfl, b, rfl⟩)⟩
  refine hE.2.1 _ _ 1 6 (by omega) (by omega) _ _ _ _ _ _ _ _ _ _ _ [.ref (ad 0), .int (Ii (xs ((6 * (n : Int)) + 1).toNat)), .int (Ii (xs ((6 * (n : Int)) + 2).toNat)), .long (Ll (jlor (jlshl (xs ((6 * (n : Int)) + 3).toNat) 32) (jland (xs ((6 * (n : Int)) + 4).toNat) 4294967295))), .ref (ad 389)] _ _ _ (cl_setStatic (l := l) (D := D) (cy := cy) (xs := xs) (L := L) hst hin) rfl om_2195 ⟨rfl, rfl, Nat.le_of_ble_eq_true rfl, Nat.le_of_ble_eq_true rfl⟩ mv_L_177 hd_L_setStatic rfl (Nat.le_of_ble_eq_true rfl) dL_law_971 hWL (fun rk1 M1 grk q => ?_)
  have hO := hE.1 (390 + 3 * n + 1) (571600 + 18 * n + 6) (by omega) (by omega)
  obtain ⟨C', hRC', q⟩ := q
  rcases q with ⟨r1, rfl, hq, rfl⟩ | ⟨rfl, hq, rfl⟩ | ⟨rfl, hq, rfl⟩
  · obtain ⟨Q0, hw2, h3⟩ := h2 _ C' hq
    refine j_istore (lv' := [(5, .int (Ii 0)), (0, .ref (ad 910)), (1, .ref (ad 0)), (2, .ref (ad 286)), (3, .ref (ad 389)), (4, .int (Ii (6 * (n : Int))))]) hO dL_law_974 (by decide) rfl ?_
    refine j_aload_n hO dL_law_976 rfl 3 rfl ?_
    refine j_aload_n hO dL_law_977 rfl 1 rfl ?_
    refine j_iload hO dL_law_978 5 rfl ?_
    refine j_iconst hO dL_law_980 ?_
    refine j_iadd hO dL_law_981 ?_
    refine j_ti hO XtB_sc (by unfold ri_; omega) (by omega) (by omega) dL_law_982 ?_
    refine j_aload_n hO dL_law_983 rfl 1 rfl ?_
    refine j_iload hO dL_law_984 5 rfl ?_
    refine j_iconst hO dL_law_986 ?_
    refine j_iadd hO dL_law_987 ?_
    refine j_ti hO XtB_sc (by unfold ri_; omega) (by omega) (by omega) dL_law_988 ?_
    refine j_aload_n hO dL_law_989 rfl 1 rfl ?_
    refine j_iload hO dL_law_990 5 rfl ?_
    refine j_iconst hO dL_law_992 ?_
    refine j_iadd hO dL_law_993 ?_
    refine j_ti hO XtB_sc (by unfold ri_; omega) (by omega) (by omega) dL_law_994 ?_
    refine j_i2l hO (hxs _) dL_law_995 ?_
    refine j_bipush hO dL_law_996 (by decide) ?_
    refine j_lshl hO dL_law_998 ?_
    refine j_aload_n hO dL_law_999 rfl 1 rfl ?_
    refine j_iload hO dL_law_1000 5 rfl ?_
    refine j_iconst hO dL_law_1002 ?_
    refine j_iadd hO dL_law_1003 ?_
    refine j_ti hO XtB_sc (by unfold ri_; omega) (by omega) (by omega) dL_law_1004 ?_
    refine j_i2l hO (hxs _) dL_law_1005 ?_
    refine j_ldc2 hO 4294967295 om_2187 (by decide) dL_law_1006 ?_
    refine j_land hO dL_law_1009 ?_
    refine j_lor hO dL_law_1010 ?_
    refine j_callVi hO (lfR hin (c_X12_setStatic (l := l) (D := D) (cy := cy) (ad := fun c => ad (286 + c)) (jIn_R hin))) rfl om_2198 ⟨rfl, rfl, Nat.le_of_ble_eq_true rfl, Nat.le_of_ble_eq_true rfl⟩ [.int (Ii (xs ((6 * (n : Int)) + 1).toNat)), .int (Ii (xs ((6 * (n : Int)) + 2).toNat)), .long (Ll (jlor (jlshl (xs ((6 * (n : Int)) + 3).toNat) 32) (jland (xs ((6 * (n : Int)) + 4).toNat) 4294967295)))] mv_L_179 hd_X12_setStaticv kK_286 rfl rfl rfl (Nat.le_of_ble_eq_true rfl) dL_law_1011 (P := fun r M1 => ∃ R', jRg ftR ksR R' ∧ Q0 r R' ∧ M1 = jUpO 286 103 R' (ux_ (jUp 286 C' M) 389 0 r1)) ⟨R, Q0, (jUp_U hRm), hRR, ⟨(xs ((6 * (n : Int)) + 1).toNat), (xs ((6 * (n : Int)) + 2).toNat), (jlor (jlshl (xs ((6 * (n : Int)) + 3).toNat) 32) (jland (xs ((6 * (n : Int)) + 4).toNat) 4294967295)), rfl, (hxs _), (hxs _), (rl_of _), hw2⟩, fun r R' a b => ⟨R', a, b, rfl⟩⟩ (fun rb M2 grb q => ?_)
    obtain ⟨R', hRR', hq, rfl⟩ := q
    obtain ⟨q1, q0, hRal⟩ := h3 _ R' hq
    refine j_istore (lv' := [(6, .int (Ii rb)), (5, .int (Ii 0)), (0, .ref (ad 910)), (1, .ref (ad 0)), (2, .ref (ad 286)), (3, .ref (ad 389)), (4, .int (Ii (6 * (n : Int))))]) hO dL_law_1014 (by decide) rfl ?_
    refine j_aload_n hO dL_law_1016 rfl 4 rfl ?_
    refine j_callVi hO (lfR hin (c_X12_thrown (l := l) (D := D) (cy := cy) (ad := fun c => ad (286 + c)) (jIn_R hin))) rfl om_2146 ⟨rfl, rfl, Nat.le_of_ble_eq_true rfl, Nat.le_of_ble_eq_true rfl⟩ [] mv_L_149 hd_X12_thrownv kK_286 rfl rfl rfl (Nat.le_of_ble_eq_true rfl) dL_law_1017 (P := fun r M1 => r = R' 0 0 ∧ M1 = jUpO 286 103 R' (ux_ (jUp 286 C' M) 389 0 r1)) ⟨R', fun v M' => v = R' 0 0 ∧ M' = R', fun c hc => jUpO_R hc, hRR', ⟨rfl, fun v e1 _ => ⟨e1, rfl⟩⟩, fun r C9 _ b => ⟨b.1, by rw [b.2]; exact jUpO_i⟩⟩ (fun rt M3 grt q => ?_)
    obtain ⟨ert, rfl⟩ := q
    refine j_iload hO dL_law_1020 1 rfl ?_
    refine j_icmp_eq hO 1027 grt rk_0 dL_law_1022 (by decide) (fun _ => ?_) (fun z => absurd (by exact (ert.trans q0)) z)
    refine j_iload hO dL_law_1027 1 rfl ?_
    refine j_if_ne hO 1044 rk_0 dL_law_1029 (by decide) (fun z => absurd z (by decide)) (fun _ => ?_)
    refine j_aload_n hO dL_law_1032 rfl 5 rfl ?_
    refine j_iconst hO dL_law_1033 ?_
    refine j_lald hO rk_0 kK_389 (by decide) (by decide) dL_law_1034 (fun v1034 ev1034 gv1034 => ?_)
    refine j_iload hO dL_law_1035 0 rfl ?_
    refine j_i2l hO grb dL_law_1037 ?_
    refine j_lcmp_eq hO 1044 gv1034 (rl_ri grb) dL_law_1038 dL_law_1039 (by decide) (fun _ => ?_) (fun z => absurd (by rw [ev1034]; exact (jUpO_o 389 (by decide)).trans ((ux_s _ _ _ _).trans q1)) z)
    refine j_goto hO 3111 dL_law_1044 (by decide) ?_
    exact j_sub hO [2, 3, 4, 5, 6] rfl (hE.2.2 _ _ _ _ _ _ _ _ (by omega) (by omega) (hnext _ (InvL_n hRal hRC' hRR' (fun c hc => jUpO_lu hc) (fun c hc => jUpO_R hc))))
  · obtain ⟨Q0, hw2, h3⟩ := h4 _ C' hq
    refine j_istore (lv' := [(5, .int (Ii 1)), (0, .ref (ad 910)), (1, .ref (ad 0)), (2, .ref (ad 286)), (3, .ref (ad 389)), (4, .int (Ii (6 * (n : Int))))]) hO dL_law_974 (by decide) rfl ?_
    refine j_aload_n hO dL_law_976 rfl 3 rfl ?_
    refine j_aload_n hO dL_law_977 rfl 1 rfl ?_
    refine j_iload hO dL_law_978 5 rfl ?_
    refine j_iconst hO dL_law_980 ?_
    refine j_iadd hO dL_law_981 ?_
    refine j_ti hO XtB_sc (by unfold ri_; omega) (by omega) (by omega) dL_law_982 ?_
    refine j_aload_n hO dL_law_983 rfl 1 rfl ?_
    refine j_iload hO dL_law_984 5 rfl ?_
    refine j_iconst hO dL_law_986 ?_
    refine j_iadd hO dL_law_987 ?_
    refine j_ti hO XtB_sc (by unfold ri_; omega) (by omega) (by omega) dL_law_988 ?_
    refine j_aload_n hO dL_law_989 rfl 1 rfl ?_
    refine j_iload hO dL_law_990 5 rfl ?_
    refine j_iconst hO dL_law_992 ?_
    refine j_iadd hO dL_law_993 ?_
    refine j_ti hO XtB_sc (by unfold ri_; omega) (by omega) (by omega) dL_law_994 ?_
    refine j_i2l hO (hxs _) dL_law_995 ?_
    refine j_bipush hO dL_law_996 (by decide) ?_
    refine j_lshl hO dL_law_998 ?_
    refine j_aload_n hO dL_law_999 rfl 1 rfl ?_
    refine j_iload hO dL_law_1000 5 rfl ?_
    refine j_iconst hO dL_law_1002 ?_
    refine j_iadd hO dL_law_1003 ?_
    refine j_ti hO XtB_sc (by unfold ri_; omega) (by omega) (by omega) dL_law_1004 ?_
    refine j_i2l hO (hxs _) dL_law_1005 ?_
    refine j_ldc2 hO 4294967295 om_2187 (by decide) dL_law_1006 ?_
    refine j_land hO dL_law_1009 ?_
    refine j_lor hO dL_law_1010 ?_
    refine j_callVi hO (lfR hin (c_X12_setStatic (l := l) (D := D) (cy := cy) (ad := fun c => ad (286 + c)) (jIn_R hin))) rfl om_2198 ⟨rfl, rfl, Nat.le_of_ble_eq_true rfl, Nat.le_of_ble_eq_true rfl⟩ [.int (Ii (xs ((6 * (n : Int)) + 1).toNat)), .int (Ii (xs ((6 * (n : Int)) + 2).toNat)), .long (Ll (jlor (jlshl (xs ((6 * (n : Int)) + 3).toNat) 32) (jland (xs ((6 * (n : Int)) + 4).toNat) 4294967295)))] mv_L_179 hd_X12_setStaticv kK_286 rfl rfl rfl (Nat.le_of_ble_eq_true rfl) dL_law_1011 (P := fun r M1 => ∃ R', jRg ftR ksR R' ∧ Q0 r R' ∧ M1 = jUpO 286 103 R' (jUp 286 C' M)) ⟨R, Q0, (jUp_R hRm), hRR, ⟨(xs ((6 * (n : Int)) + 1).toNat), (xs ((6 * (n : Int)) + 2).toNat), (jlor (jlshl (xs ((6 * (n : Int)) + 3).toNat) 32) (jland (xs ((6 * (n : Int)) + 4).toNat) 4294967295)), rfl, (hxs _), (hxs _), (rl_of _), hw2⟩, fun r R' a b => ⟨R', a, b, rfl⟩⟩ (fun rb M2 grb q => ?_)
    obtain ⟨R', hRR', hq, rfl⟩ := q
    obtain ⟨q0, hRal⟩ := h3 _ R' hq
    refine j_istore (lv' := [(6, .int (Ii rb)), (5, .int (Ii 1)), (0, .ref (ad 910)), (1, .ref (ad 0)), (2, .ref (ad 286)), (3, .ref (ad 389)), (4, .int (Ii (6 * (n : Int))))]) hO dL_law_1014 (by decide) rfl ?_
    refine j_aload_n hO dL_law_1016 rfl 4 rfl ?_
    refine j_callVi hO (lfR hin (c_X12_thrown (l := l) (D := D) (cy := cy) (ad := fun c => ad (286 + c)) (jIn_R hin))) rfl om_2146 ⟨rfl, rfl, Nat.le_of_ble_eq_true rfl, Nat.le_of_ble_eq_true rfl⟩ [] mv_L_149 hd_X12_thrownv kK_286 rfl rfl rfl (Nat.le_of_ble_eq_true rfl) dL_law_1017 (P := fun r M1 => r = R' 0 0 ∧ M1 = jUpO 286 103 R' (jUp 286 C' M)) ⟨R', fun v M' => v = R' 0 0 ∧ M' = R', fun c hc => jUpO_R hc, hRR', ⟨rfl, fun v e1 _ => ⟨e1, rfl⟩⟩, fun r C9 _ b => ⟨b.1, by rw [b.2]; exact jUpO_i⟩⟩ (fun rt M3 grt q => ?_)
    obtain ⟨ert, rfl⟩ := q
    refine j_iload hO dL_law_1020 1 rfl ?_
    refine j_icmp_eq hO 1027 grt rk_1 dL_law_1022 (by decide) (fun _ => ?_) (fun z => absurd (by exact (ert.trans (by simpa using q0))) z)
    refine j_iload hO dL_law_1027 1 rfl ?_
    refine j_if_ne hO 1044 rk_1 dL_law_1029 (by decide) (fun _ => ?_) (fun z => absurd z (by decide))
    refine j_goto hO 3111 dL_law_1044 (by decide) ?_
    exact j_sub hO [2, 3, 4, 5, 6] rfl (hE.2.2 _ _ _ _ _ _ _ _ (by omega) (by omega) (hnext _ (InvL_n hRal hRC' hRR' (fun c hc => jUpO_lo hc) (fun c hc => jUpO_R hc))))
  · obtain ⟨Q0, hw2, h3⟩ := h4 _ C' hq
    refine j_istore (lv' := [(5, .int (Ii 2)), (0, .ref (ad 910)), (1, .ref (ad 0)), (2, .ref (ad 286)), (3, .ref (ad 389)), (4, .int (Ii (6 * (n : Int))))]) hO dL_law_974 (by decide) rfl ?_
    refine j_aload_n hO dL_law_976 rfl 3 rfl ?_
    refine j_aload_n hO dL_law_977 rfl 1 rfl ?_
    refine j_iload hO dL_law_978 5 rfl ?_
    refine j_iconst hO dL_law_980 ?_
    refine j_iadd hO dL_law_981 ?_
    refine j_ti hO XtB_sc (by unfold ri_; omega) (by omega) (by omega) dL_law_982 ?_
    refine j_aload_n hO dL_law_983 rfl 1 rfl ?_
    refine j_iload hO dL_law_984 5 rfl ?_
    refine j_iconst hO dL_law_986 ?_
    refine j_iadd hO dL_law_987 ?_
    refine j_ti hO XtB_sc (by unfold ri_; omega) (by omega) (by omega) dL_law_988 ?_
    refine j_aload_n hO dL_law_989 rfl 1 rfl ?_
    refine j_iload hO dL_law_990 5 rfl ?_
    refine j_iconst hO dL_law_992 ?_
    refine j_iadd hO dL_law_993 ?_
    refine j_ti hO XtB_sc (by unfold ri_; omega) (by omega) (by omega) dL_law_994 ?_
    refine j_i2l hO (hxs _) dL_law_995 ?_
    refine j_bipush hO dL_law_996 (by decide) ?_
    refine j_lshl hO dL_law_998 ?_
    refine j_aload_n hO dL_law_999 rfl 1 rfl ?_
    refine j_iload hO dL_law_1000 5 rfl ?_
    refine j_iconst hO dL_law_1002 ?_
    refine j_iadd hO dL_law_1003 ?_
    refine j_ti hO XtB_sc (by unfold ri_; omega) (by omega) (by omega) dL_law_1004 ?_
    refine j_i2l hO (hxs _) dL_law_1005 ?_
    refine j_ldc2 hO 4294967295 om_2187 (by decide) dL_law_1006 ?_
    refine j_land hO dL_law_1009 ?_
    refine j_lor hO dL_law_1010 ?_
    refine j_callVi hO (lfR hin (c_X12_setStatic (l := l) (D := D) (cy := cy) (ad := fun c => ad (286 + c)) (jIn_R hin))) rfl om_2198 ⟨rfl, rfl, Nat.le_of_ble_eq_true rfl, Nat.le_of_ble_eq_true rfl⟩ [.int (Ii (xs ((6 * (n : Int)) + 1).toNat)), .int (Ii (xs ((6 * (n : Int)) + 2).toNat)), .long (Ll (jlor (jlshl (xs ((6 * (n : Int)) + 3).toNat) 32) (jland (xs ((6 * (n : Int)) + 4).toNat) 4294967295)))] mv_L_179 hd_X12_setStaticv kK_286 rfl rfl rfl (Nat.le_of_ble_eq_true rfl) dL_law_1011 (P := fun r M1 => ∃ R', jRg ftR ksR R' ∧ Q0 r R' ∧ M1 = jUpO 286 103 R' (jUp 286 C' M)) ⟨R, Q0, (jUp_R hRm), hRR, ⟨(xs ((6 * (n : Int)) + 1).toNat), (xs ((6 * (n : Int)) + 2).toNat), (jlor (jlshl (xs ((6 * (n : Int)) + 3).toNat) 32) (jland (xs ((6 * (n : Int)) + 4).toNat) 4294967295)), rfl, (hxs _), (hxs _), (rl_of _), hw2⟩, fun r R' a b => ⟨R', a, b, rfl⟩⟩ (fun rb M2 grb q => ?_)
    obtain ⟨R', hRR', hq, rfl⟩ := q
    obtain ⟨q0, hRal⟩ := h3 _ R' hq
    refine j_istore (lv' := [(6, .int (Ii rb)), (5, .int (Ii 2)), (0, .ref (ad 910)), (1, .ref (ad 0)), (2, .ref (ad 286)), (3, .ref (ad 389)), (4, .int (Ii (6 * (n : Int))))]) hO dL_law_1014 (by decide) rfl ?_
    refine j_aload_n hO dL_law_1016 rfl 4 rfl ?_
    refine j_callVi hO (lfR hin (c_X12_thrown (l := l) (D := D) (cy := cy) (ad := fun c => ad (286 + c)) (jIn_R hin))) rfl om_2146 ⟨rfl, rfl, Nat.le_of_ble_eq_true rfl, Nat.le_of_ble_eq_true rfl⟩ [] mv_L_149 hd_X12_thrownv kK_286 rfl rfl rfl (Nat.le_of_ble_eq_true rfl) dL_law_1017 (P := fun r M1 => r = R' 0 0 ∧ M1 = jUpO 286 103 R' (jUp 286 C' M)) ⟨R', fun v M' => v = R' 0 0 ∧ M' = R', fun c hc => jUpO_R hc, hRR', ⟨rfl, fun v e1 _ => ⟨e1, rfl⟩⟩, fun r C9 _ b => ⟨b.1, by rw [b.2]; exact jUpO_i⟩⟩ (fun rt M3 grt q => ?_)
    obtain ⟨ert, rfl⟩ := q
    refine j_iload hO dL_law_1020 1 rfl ?_
    refine j_icmp_eq hO 1027 grt rk_2 dL_law_1022 (by decide) (fun _ => ?_) (fun z => absurd (by exact (ert.trans (by simpa using q0))) z)
    refine j_iload hO dL_law_1027 1 rfl ?_
    refine j_if_ne hO 1044 rk_2 dL_law_1029 (by decide) (fun _ => ?_) (fun z => absurd z (by decide))
    refine j_goto hO 3111 dL_law_1044 (by decide) ?_
    exact j_sub hO [2, 3, 4, 5, 6] rfl (hE.2.2 _ _ _ _ _ _ _ _ (by omega) (by omega) (hnext _ (InvL_n hRal hRC' hRR' (fun c hc => jUpO_lo hc) (fun c hc => jUpO_R hc))))
set_option maxHeartbeats 4000000 in
set_option maxRecDepth 100000 in
theorem lc_13 {l : Launch} {D : va_G} {cy : Nat → ClassId} {ad : Nat → Nat} {xs : Nat → Int} {L : Nat} {J : Nat → Nat → Nat → List (Nat × Value) → List Value → MM → Prop} (hst : l.stackTraces = false) (hin : jIn ad ksK.length) (hE : LwE l D cy ad xs L J) (hxs : ∀ j, ri_ (xs j)) {n : Nat} (hn : n < 512) (hL : 6 * n + 6 ≤ L) {M : MM} (hI : InvL n M) (hnext : ∀ M1, InvL (n + 1) M1 → J (390 + 3 * (n + 1)) (571600 + 18 * (n + 1)) 3111 [(0, .ref (ad 910)), (1, .ref (ad 0)), (2, .ref (ad 286)), (3, .ref (ad 389)), (4, .int (Ii (6 * (n : Int))))] [] M1) : J (390 + 3 * n) (571600 + 18 * n) 1047 [(0, .ref (ad 910)), (1, .ref (ad 0)), (2, .ref (ad 286)), (3, .ref (ad 389)), (4, .int (Ii (6 * (n : Int))))] [] M := by
  have gi : ri_ (6 * (n : Int)) := by unfold ri_; omega
  obtain ⟨C, R, hR, hRC, hRR, hC, hRm⟩ := hI
  have hO := hE.1 (390 + 3 * n) (571600 + 18 * n) (by omega) (by omega)
  refine j_aload_n hO dL_law_1047 rfl 1 rfl ?_
  refine j_aload_n hO dL_law_1048 rfl 0 rfl ?_
  refine j_iload hO dL_law_1049 4 rfl ?_
  refine j_iconst hO dL_law_1051 ?_
  refine j_iadd hO dL_law_1052 ?_
  refine j_ti hO XtB_sc (by unfold ri_; omega) (by omega) (by omega) dL_law_1053 ?_
  refine j_aload_n hO dL_law_1054 rfl 0 rfl ?_
  refine j_iload hO dL_law_1055 4 rfl ?_
  refine j_iconst hO dL_law_1057 ?_
  refine j_iadd hO dL_law_1058 ?_
  refine j_ti hO XtB_sc (by unfold ri_; omega) (by omega) (by omega) dL_law_1059 ?_
  refine j_aload_n hO dL_law_1060 rfl 3 rfl ?_
  obtain ⟨Q1, X1, hw1, h2, h4⟩ := v_get (p1 := (xs ((6 * (n : Int)) + 1).toNat)) (p2 := (xs ((6 * (n : Int)) + 2).toNat)) (by omega) (by omega) hR
  have hWL : WL_get ad (fun r M1 => ∃ C', jRg ftC ksC C' ∧ ((∃ r1, r = 0 ∧ Q1 r1 C' ∧ M1 = (ux_ (jUp 286 C' M) 389 0 r1)) ∨ (r = 1 ∧ X1 "java/util/NoSuchElementException" C' ∧ M1 = jUp 286 C' M))) [.ref (ad 0), .int (Ii (xs ((6 * (n : Int)) + 1).toNat)), .int (Ii (xs ((6 * (n : Int)) + 2).toNat)), .ref (ad 389)] M := by
    refine ⟨(xs ((6 * (n : Int)) + 1).toNat), (xs ((6 * (n : Int)) + 2).toNat), rfl, (hxs _), (hxs _), ⟨C, Q1, X1, hC, hRC, hw1, fun r1 C' a b => ⟨C', a, Or.inl ⟨r1, rfl, b, rfl⟩⟩, fun E C' a m b => ?_⟩⟩
    simp only [List.mem_cons, List.not_mem_nil, or_false] at m
    rcases m with rfl
    · exact ⟨rfl, C', a, Or.inr (⟨rfl, b, rfl⟩)⟩
  refine hE.2.1 _ _ 1 6 (by omega) (by omega) _ _ _ _ _ _ _ _ _ _ _ [.ref (ad 0), .int (Ii (xs ((6 * (n : Int)) + 1).toNat)), .int (Ii (xs ((6 * (n : Int)) + 2).toNat)), .ref (ad 389)] _ _ _ (cl_get (l := l) (D := D) (cy := cy) (xs := xs) (L := L) hst hin) rfl om_2202 ⟨rfl, rfl, Nat.le_of_ble_eq_true rfl, Nat.le_of_ble_eq_true rfl⟩ mv_L_180 hd_L_get rfl (Nat.le_of_ble_eq_true rfl) dL_law_1061 hWL (fun rk1 M1 grk q => ?_)
  have hO := hE.1 (390 + 3 * n + 1) (571600 + 18 * n + 6) (by omega) (by omega)
  obtain ⟨C', hRC', q⟩ := q
  rcases q with ⟨r1, rfl, hq, rfl⟩ | ⟨rfl, hq, rfl⟩
  · obtain ⟨Q0, hw2, h3⟩ := h2 _ C' hq
    refine j_istore (lv' := [(5, .int (Ii 0)), (0, .ref (ad 910)), (1, .ref (ad 0)), (2, .ref (ad 286)), (3, .ref (ad 389)), (4, .int (Ii (6 * (n : Int))))]) hO dL_law_1064 (by decide) rfl ?_
    refine j_aload_n hO dL_law_1066 rfl 3 rfl ?_
    refine j_aload_n hO dL_law_1067 rfl 1 rfl ?_
    refine j_iload hO dL_law_1068 5 rfl ?_
    refine j_iconst hO dL_law_1070 ?_
    refine j_iadd hO dL_law_1071 ?_
    refine j_ti hO XtB_sc (by unfold ri_; omega) (by omega) (by omega) dL_law_1072 ?_
    refine j_aload_n hO dL_law_1073 rfl 1 rfl ?_
    refine j_iload hO dL_law_1074 5 rfl ?_
    refine j_iconst hO dL_law_1076 ?_
    refine j_iadd hO dL_law_1077 ?_
    refine j_ti hO XtB_sc (by unfold ri_; omega) (by omega) (by omega) dL_law_1078 ?_
    refine j_callVl hO (lfR hin (c_X12_get (l := l) (D := D) (cy := cy) (ad := fun c => ad (286 + c)) (jIn_R hin))) rfl om_2205 ⟨rfl, rfl, Nat.le_of_ble_eq_true rfl, Nat.le_of_ble_eq_true rfl⟩ [.int (Ii (xs ((6 * (n : Int)) + 1).toNat)), .int (Ii (xs ((6 * (n : Int)) + 2).toNat))] mv_L_182 hd_X12_getv kK_286 rfl rfl rfl (Nat.le_of_ble_eq_true rfl) dL_law_1079 (P := fun r M1 => ∃ R', jRg ftR ksR R' ∧ Q0 r R' ∧ M1 = jUpO 286 103 R' (ux_ (jUp 286 C' M) 389 0 r1)) ⟨R, Q0, (jUp_U hRm), hRR, ⟨(xs ((6 * (n : Int)) + 1).toNat), (xs ((6 * (n : Int)) + 2).toNat), rfl, (hxs _), (hxs _), hw2⟩, fun r R' a b => ⟨R', a, b, rfl⟩⟩ (fun rb M2 grb q => ?_)
    obtain ⟨R', hRR', hq, rfl⟩ := q
    obtain ⟨q1, q0, hRal⟩ := h3 _ R' hq
    refine j_lstore (lv' := [(6, .long (Ll rb)), (5, .int (Ii 0)), (0, .ref (ad 910)), (1, .ref (ad 0)), (2, .ref (ad 286)), (3, .ref (ad 389)), (4, .int (Ii (6 * (n : Int))))]) hO dL_law_1082 (by decide) rfl ?_
    refine j_aload_n hO dL_law_1084 rfl 4 rfl ?_
    refine j_callVi hO (lfR hin (c_X12_thrown (l := l) (D := D) (cy := cy) (ad := fun c => ad (286 + c)) (jIn_R hin))) rfl om_2146 ⟨rfl, rfl, Nat.le_of_ble_eq_true rfl, Nat.le_of_ble_eq_true rfl⟩ [] mv_L_149 hd_X12_thrownv kK_286 rfl rfl rfl (Nat.le_of_ble_eq_true rfl) dL_law_1085 (P := fun r M1 => r = R' 0 0 ∧ M1 = jUpO 286 103 R' (ux_ (jUp 286 C' M) 389 0 r1)) ⟨R', fun v M' => v = R' 0 0 ∧ M' = R', fun c hc => jUpO_R hc, hRR', ⟨rfl, fun v e1 _ => ⟨e1, rfl⟩⟩, fun r C9 _ b => ⟨b.1, by rw [b.2]; exact jUpO_i⟩⟩ (fun rt M3 grt q => ?_)
    obtain ⟨ert, rfl⟩ := q
    refine j_iload hO dL_law_1088 1 rfl ?_
    refine j_icmp_eq hO 1095 grt rk_0 dL_law_1090 (by decide) (fun _ => ?_) (fun z => absurd (by exact (ert.trans q0)) z)
    refine j_iload hO dL_law_1095 1 rfl ?_
    refine j_if_ne hO 1111 rk_0 dL_law_1097 (by decide) (fun z => absurd z (by decide)) (fun _ => ?_)
    refine j_aload_n hO dL_law_1100 rfl 5 rfl ?_
    refine j_iconst hO dL_law_1101 ?_
    refine j_lald hO rk_0 kK_389 (by decide) (by decide) dL_law_1102 (fun v1102 ev1102 gv1102 => ?_)
    refine j_lload hO dL_law_1103 0 rfl ?_
    refine j_lcmp_eq hO 1111 gv1102 grb dL_law_1105 dL_law_1106 (by decide) (fun _ => ?_) (fun z => absurd (by rw [ev1102]; exact (jUpO_o 389 (by decide)).trans ((ux_s _ _ _ _).trans q1)) z)
    refine j_goto hO 3111 dL_law_1111 (by decide) ?_
    exact j_sub hO [2, 3, 4, 5, 6] rfl (hE.2.2 _ _ _ _ _ _ _ _ (by omega) (by omega) (hnext _ (InvL_n hRal hRC' hRR' (fun c hc => jUpO_lu hc) (fun c hc => jUpO_R hc))))
  · obtain ⟨Q0, hw2, h3⟩ := h4 _ C' hq
    refine j_istore (lv' := [(5, .int (Ii 1)), (0, .ref (ad 910)), (1, .ref (ad 0)), (2, .ref (ad 286)), (3, .ref (ad 389)), (4, .int (Ii (6 * (n : Int))))]) hO dL_law_1064 (by decide) rfl ?_
    refine j_aload_n hO dL_law_1066 rfl 3 rfl ?_
    refine j_aload_n hO dL_law_1067 rfl 1 rfl ?_
    refine j_iload hO dL_law_1068 5 rfl ?_
    refine j_iconst hO dL_law_1070 ?_
    refine j_iadd hO dL_law_1071 ?_
    refine j_ti hO XtB_sc (by unfold ri_; omega) (by omega) (by omega) dL_law_1072 ?_
    refine j_aload_n hO dL_law_1073 rfl 1 rfl ?_
    refine j_iload hO dL_law_1074 5 rfl ?_
    refine j_iconst hO dL_law_1076 ?_
    refine j_iadd hO dL_law_1077 ?_
    refine j_ti hO XtB_sc (by unfold ri_; omega) (by omega) (by omega) dL_law_1078 ?_
    refine j_callVl hO (lfR hin (c_X12_get (l := l) (D := D) (cy := cy) (ad := fun c => ad (286 + c)) (jIn_R hin))) rfl om_2205 ⟨rfl, rfl, Nat.le_of_ble_eq_true rfl, Nat.le_of_ble_eq_true rfl⟩ [.int (Ii (xs ((6 * (n : Int)) + 1).toNat)), .int (Ii (xs ((6 * (n : Int)) + 2).toNat))] mv_L_182 hd_X12_getv kK_286 rfl rfl rfl (Nat.le_of_ble_eq_true rfl) dL_law_1079 (P := fun r M1 => ∃ R', jRg ftR ksR R' ∧ Q0 r R' ∧ M1 = jUpO 286 103 R' (jUp 286 C' M)) ⟨R, Q0, (jUp_R hRm), hRR, ⟨(xs ((6 * (n : Int)) + 1).toNat), (xs ((6 * (n : Int)) + 2).toNat), rfl, (hxs _), (hxs _), hw2⟩, fun r R' a b => ⟨R', a, b, rfl⟩⟩ (fun rb M2 grb q => ?_)
    obtain ⟨R', hRR', hq, rfl⟩ := q
    obtain ⟨q0, hRal⟩ := h3 _ R' hq
    refine j_lstore (lv' := [(6, .long (Ll rb)), (5, .int (Ii 1)), (0, .ref (ad 910)), (1, .ref (ad 0)), (2, .ref (ad 286)), (3, .ref (ad 389)), (4, .int (Ii (6 * (n : Int))))]) hO dL_law_1082 (by decide) rfl ?_
    refine j_aload_n hO dL_law_1084 rfl 4 rfl ?_
    refine j_callVi hO (lfR hin (c_X12_thrown (l := l) (D := D) (cy := cy) (ad := fun c => ad (286 + c)) (jIn_R hin))) rfl om_2146 ⟨rfl, rfl, Nat.le_of_ble_eq_true rfl, Nat.le_of_ble_eq_true rfl⟩ [] mv_L_149 hd_X12_thrownv kK_286 rfl rfl rfl (Nat.le_of_ble_eq_true rfl) dL_law_1085 (P := fun r M1 => r = R' 0 0 ∧ M1 = jUpO 286 103 R' (jUp 286 C' M)) ⟨R', fun v M' => v = R' 0 0 ∧ M' = R', fun c hc => jUpO_R hc, hRR', ⟨rfl, fun v e1 _ => ⟨e1, rfl⟩⟩, fun r C9 _ b => ⟨b.1, by rw [b.2]; exact jUpO_i⟩⟩ (fun rt M3 grt q => ?_)
    obtain ⟨ert, rfl⟩ := q
    refine j_iload hO dL_law_1088 1 rfl ?_
    refine j_icmp_eq hO 1095 grt rk_1 dL_law_1090 (by decide) (fun _ => ?_) (fun z => absurd (by exact (ert.trans (by simpa using q0))) z)
    refine j_iload hO dL_law_1095 1 rfl ?_
    refine j_if_ne hO 1111 rk_1 dL_law_1097 (by decide) (fun _ => ?_) (fun z => absurd z (by decide))
    refine j_goto hO 3111 dL_law_1111 (by decide) ?_
    exact j_sub hO [2, 3, 4, 5, 6] rfl (hE.2.2 _ _ _ _ _ _ _ _ (by omega) (by omega) (hnext _ (InvL_n hRal hRC' hRR' (fun c hc => jUpO_lo hc) (fun c hc => jUpO_R hc))))
set_option maxHeartbeats 4000000 in
set_option maxRecDepth 100000 in
theorem lc_14 {l : Launch} {D : va_G} {cy : Nat → ClassId} {ad : Nat → Nat} {xs : Nat → Int} {L : Nat} {J : Nat → Nat → Nat → List (Nat × Value) → List Value → MM → Prop} (hst : l.stackTraces = false) (hin : jIn ad ksK.length) (hE : LwE l D cy ad xs L J) (hxs : ∀ j, ri_ (xs j)) {n : Nat} (hn : n < 512) (hL : 6 * n + 6 ≤ L) {M : MM} (hI : InvL n M) (hnext : ∀ M1, InvL (n + 1) M1 → J (390 + 3 * (n + 1)) (571600 + 18 * (n + 1)) 3111 [(0, .ref (ad 910)), (1, .ref (ad 0)), (2, .ref (ad 286)), (3, .ref (ad 389)), (4, .int (Ii (6 * (n : Int))))] [] M1) : J (390 + 3 * n) (571600 + 18 * n) 1114 [(0, .ref (ad 910)), (1, .ref (ad 0)), (2, .ref (ad 286)), (3, .ref (ad 389)), (4, .int (Ii (6 * (n : Int))))] [] M := by
  have gi : ri_ (6 * (n : Int)) := by unfold ri_; omega
  obtain ⟨C, R, hR, hRC, hRR, hC, hRm⟩ := hI
  have hO := hE.1 (390 + 3 * n) (571600 + 18 * n) (by omega) (by omega)
  refine j_aload_n hO dL_law_1114 rfl 1 rfl ?_
  refine j_aload_n hO dL_law_1115 rfl 0 rfl ?_
  refine j_iload hO dL_law_1116 4 rfl ?_
  refine j_iconst hO dL_law_1118 ?_
  refine j_iadd hO dL_law_1119 ?_
  refine j_ti hO XtB_sc (by unfold ri_; omega) (by omega) (by omega) dL_law_1120 ?_
  refine j_aload_n hO dL_law_1121 rfl 0 rfl ?_
  refine j_iload hO dL_law_1122 4 rfl ?_
  refine j_iconst hO dL_law_1124 ?_
  refine j_iadd hO dL_law_1125 ?_
  refine j_ti hO XtB_sc (by unfold ri_; omega) (by omega) (by omega) dL_law_1126 ?_
  refine j_aload_n hO dL_law_1127 rfl 3 rfl ?_
  obtain ⟨Q1, X1, hw1, h2, h4⟩ := v_getStatic (p1 := (xs ((6 * (n : Int)) + 1).toNat)) (p2 := (xs ((6 * (n : Int)) + 2).toNat)) (by omega) (by omega) hR
  have hWL : WL_getStatic ad (fun r M1 => ∃ C', jRg ftC ksC C' ∧ ((∃ r1, r = 0 ∧ Q1 r1 C' ∧ M1 = (ux_ (jUp 286 C' M) 389 0 r1)) ∨ (r = 1 ∧ X1 "java/util/NoSuchElementException" C' ∧ M1 = jUp 286 C' M))) [.ref (ad 0), .int (Ii (xs ((6 * (n : Int)) + 1).toNat)), .int (Ii (xs ((6 * (n : Int)) + 2).toNat)), .ref (ad 389)] M := by
    refine ⟨(xs ((6 * (n : Int)) + 1).toNat), (xs ((6 * (n : Int)) + 2).toNat), rfl, (hxs _), (hxs _), ⟨C, Q1, X1, hC, hRC, hw1, fun r1 C' a b => ⟨C', a, Or.inl ⟨r1, rfl, b, rfl⟩⟩, fun E C' a m b => ?_⟩⟩
    simp only [List.mem_cons, List.not_mem_nil, or_false] at m
    rcases m with rfl
    · exact ⟨rfl, C', a, Or.inr (⟨rfl, b, rfl⟩)⟩
  refine hE.2.1 _ _ 1 6 (by omega) (by omega) _ _ _ _ _ _ _ _ _ _ _ [.ref (ad 0), .int (Ii (xs ((6 * (n : Int)) + 1).toNat)), .int (Ii (xs ((6 * (n : Int)) + 2).toNat)), .ref (ad 389)] _ _ _ (cl_getStatic (l := l) (D := D) (cy := cy) (xs := xs) (L := L) hst hin) rfl om_2209 ⟨rfl, rfl, Nat.le_of_ble_eq_true rfl, Nat.le_of_ble_eq_true rfl⟩ mv_L_183 hd_L_getStatic rfl (Nat.le_of_ble_eq_true rfl) dL_law_1128 hWL (fun rk1 M1 grk q => ?_)
  have hO := hE.1 (390 + 3 * n + 1) (571600 + 18 * n + 6) (by omega) (by omega)
  obtain ⟨C', hRC', q⟩ := q
  rcases q with ⟨r1, rfl, hq, rfl⟩ | ⟨rfl, hq, rfl⟩
  · obtain ⟨Q0, hw2, h3⟩ := h2 _ C' hq
    refine j_istore (lv' := [(5, .int (Ii 0)), (0, .ref (ad 910)), (1, .ref (ad 0)), (2, .ref (ad 286)), (3, .ref (ad 389)), (4, .int (Ii (6 * (n : Int))))]) hO dL_law_1131 (by decide) rfl ?_
    refine j_aload_n hO dL_law_1133 rfl 3 rfl ?_
    refine j_aload_n hO dL_law_1134 rfl 1 rfl ?_
    refine j_iload hO dL_law_1135 5 rfl ?_
    refine j_iconst hO dL_law_1137 ?_
    refine j_iadd hO dL_law_1138 ?_
    refine j_ti hO XtB_sc (by unfold ri_; omega) (by omega) (by omega) dL_law_1139 ?_
    refine j_aload_n hO dL_law_1140 rfl 1 rfl ?_
    refine j_iload hO dL_law_1141 5 rfl ?_
    refine j_iconst hO dL_law_1143 ?_
    refine j_iadd hO dL_law_1144 ?_
    refine j_ti hO XtB_sc (by unfold ri_; omega) (by omega) (by omega) dL_law_1145 ?_
    refine j_callVl hO (lfR hin (c_X12_getStatic (l := l) (D := D) (cy := cy) (ad := fun c => ad (286 + c)) (jIn_R hin))) rfl om_2212 ⟨rfl, rfl, Nat.le_of_ble_eq_true rfl, Nat.le_of_ble_eq_true rfl⟩ [.int (Ii (xs ((6 * (n : Int)) + 1).toNat)), .int (Ii (xs ((6 * (n : Int)) + 2).toNat))] mv_L_185 hd_X12_getStaticv kK_286 rfl rfl rfl (Nat.le_of_ble_eq_true rfl) dL_law_1146 (P := fun r M1 => ∃ R', jRg ftR ksR R' ∧ Q0 r R' ∧ M1 = jUpO 286 103 R' (ux_ (jUp 286 C' M) 389 0 r1)) ⟨R, Q0, (jUp_U hRm), hRR, ⟨(xs ((6 * (n : Int)) + 1).toNat), (xs ((6 * (n : Int)) + 2).toNat), rfl, (hxs _), (hxs _), hw2⟩, fun r R' a b => ⟨R', a, b, rfl⟩⟩ (fun rb M2 grb q => ?_)
    obtain ⟨R', hRR', hq, rfl⟩ := q
    obtain ⟨q1, q0, hRal⟩ := h3 _ R' hq
    refine j_lstore (lv' := [(6, .long (Ll rb)), (5, .int (Ii 0)), (0, .ref (ad 910)), (1, .ref (ad 0)), (2, .ref (ad 286)), (3, .ref (ad 389)), (4, .int (Ii (6 * (n : Int))))]) hO dL_law_1149 (by decide) rfl ?_
    refine j_aload_n hO dL_law_1151 rfl 4 rfl ?_
    refine j_callVi hO (lfR hin (c_X12_thrown (l := l) (D := D) (cy := cy) (ad := fun c => ad (286 + c)) (jIn_R hin))) rfl om_2146 ⟨rfl, rfl, Nat.le_of_ble_eq_true rfl, Nat.le_of_ble_eq_true rfl⟩ [] mv_L_149 hd_X12_thrownv kK_286 rfl rfl rfl (Nat.le_of_ble_eq_true rfl) dL_law_1152 (P := fun r M1 => r = R' 0 0 ∧ M1 = jUpO 286 103 R' (ux_ (jUp 286 C' M) 389 0 r1)) ⟨R', fun v M' => v = R' 0 0 ∧ M' = R', fun c hc => jUpO_R hc, hRR', ⟨rfl, fun v e1 _ => ⟨e1, rfl⟩⟩, fun r C9 _ b => ⟨b.1, by rw [b.2]; exact jUpO_i⟩⟩ (fun rt M3 grt q => ?_)
    obtain ⟨ert, rfl⟩ := q
    refine j_iload hO dL_law_1155 1 rfl ?_
    refine j_icmp_eq hO 1162 grt rk_0 dL_law_1157 (by decide) (fun _ => ?_) (fun z => absurd (by exact (ert.trans q0)) z)
    refine j_iload hO dL_law_1162 1 rfl ?_
    refine j_if_ne hO 1178 rk_0 dL_law_1164 (by decide) (fun z => absurd z (by decide)) (fun _ => ?_)
    refine j_aload_n hO dL_law_1167 rfl 5 rfl ?_
    refine j_iconst hO dL_law_1168 ?_
    refine j_lald hO rk_0 kK_389 (by decide) (by decide) dL_law_1169 (fun v1169 ev1169 gv1169 => ?_)
    refine j_lload hO dL_law_1170 0 rfl ?_
    refine j_lcmp_eq hO 1178 gv1169 grb dL_law_1172 dL_law_1173 (by decide) (fun _ => ?_) (fun z => absurd (by rw [ev1169]; exact (jUpO_o 389 (by decide)).trans ((ux_s _ _ _ _).trans q1)) z)
    refine j_goto hO 3111 dL_law_1178 (by decide) ?_
    exact j_sub hO [2, 3, 4, 5, 6] rfl (hE.2.2 _ _ _ _ _ _ _ _ (by omega) (by omega) (hnext _ (InvL_n hRal hRC' hRR' (fun c hc => jUpO_lu hc) (fun c hc => jUpO_R hc))))
  · obtain ⟨Q0, hw2, h3⟩ := h4 _ C' hq
    refine j_istore (lv' := [(5, .int (Ii 1)), (0, .ref (ad 910)), (1, .ref (ad 0)), (2, .ref (ad 286)), (3, .ref (ad 389)), (4, .int (Ii (6 * (n : Int))))]) hO dL_law_1131 (by decide) rfl ?_
    refine j_aload_n hO dL_law_1133 rfl 3 rfl ?_
    refine j_aload_n hO dL_law_1134 rfl 1 rfl ?_
    refine j_iload hO dL_law_1135 5 rfl ?_
    refine j_iconst hO dL_law_1137 ?_
    refine j_iadd hO dL_law_1138 ?_
    refine j_ti hO XtB_sc (by unfold ri_; omega) (by omega) (by omega) dL_law_1139 ?_
    refine j_aload_n hO dL_law_1140 rfl 1 rfl ?_
    refine j_iload hO dL_law_1141 5 rfl ?_
    refine j_iconst hO dL_law_1143 ?_
    refine j_iadd hO dL_law_1144 ?_
    refine j_ti hO XtB_sc (by unfold ri_; omega) (by omega) (by omega) dL_law_1145 ?_
    refine j_callVl hO (lfR hin (c_X12_getStatic (l := l) (D := D) (cy := cy) (ad := fun c => ad (286 + c)) (jIn_R hin))) rfl om_2212 ⟨rfl, rfl, Nat.le_of_ble_eq_true rfl, Nat.le_of_ble_eq_true rfl⟩ [.int (Ii (xs ((6 * (n : Int)) + 1).toNat)), .int (Ii (xs ((6 * (n : Int)) + 2).toNat))] mv_L_185 hd_X12_getStaticv kK_286 rfl rfl rfl (Nat.le_of_ble_eq_true rfl) dL_law_1146 (P := fun r M1 => ∃ R', jRg ftR ksR R' ∧ Q0 r R' ∧ M1 = jUpO 286 103 R' (jUp 286 C' M)) ⟨R, Q0, (jUp_R hRm), hRR, ⟨(xs ((6 * (n : Int)) + 1).toNat), (xs ((6 * (n : Int)) + 2).toNat), rfl, (hxs _), (hxs _), hw2⟩, fun r R' a b => ⟨R', a, b, rfl⟩⟩ (fun rb M2 grb q => ?_)
    obtain ⟨R', hRR', hq, rfl⟩ := q
    obtain ⟨q0, hRal⟩ := h3 _ R' hq
    refine j_lstore (lv' := [(6, .long (Ll rb)), (5, .int (Ii 1)), (0, .ref (ad 910)), (1, .ref (ad 0)), (2, .ref (ad 286)), (3, .ref (ad 389)), (4, .int (Ii (6 * (n : Int))))]) hO dL_law_1149 (by decide) rfl ?_
    refine j_aload_n hO dL_law_1151 rfl 4 rfl ?_
    refine j_callVi hO (lfR hin (c_X12_thrown (l := l) (D := D) (cy := cy) (ad := fun c => ad (286 + c)) (jIn_R hin))) rfl om_2146 ⟨rfl, rfl, Nat.le_of_ble_eq_true rfl, Nat.le_of_ble_eq_true rfl⟩ [] mv_L_149 hd_X12_thrownv kK_286 rfl rfl rfl (Nat.le_of_ble_eq_true rfl) dL_law_1152 (P := fun r M1 => r = R' 0 0 ∧ M1 = jUpO 286 103 R' (jUp 286 C' M)) ⟨R', fun v M' => v = R' 0 0 ∧ M' = R', fun c hc => jUpO_R hc, hRR', ⟨rfl, fun v e1 _ => ⟨e1, rfl⟩⟩, fun r C9 _ b => ⟨b.1, by rw [b.2]; exact jUpO_i⟩⟩ (fun rt M3 grt q => ?_)
    obtain ⟨ert, rfl⟩ := q
    refine j_iload hO dL_law_1155 1 rfl ?_
    refine j_icmp_eq hO 1162 grt rk_1 dL_law_1157 (by decide) (fun _ => ?_) (fun z => absurd (by exact (ert.trans (by simpa using q0))) z)
    refine j_iload hO dL_law_1162 1 rfl ?_
    refine j_if_ne hO 1178 rk_1 dL_law_1164 (by decide) (fun _ => ?_) (fun z => absurd z (by decide))
    refine j_goto hO 3111 dL_law_1178 (by decide) ?_
    exact j_sub hO [2, 3, 4, 5, 6] rfl (hE.2.2 _ _ _ _ _ _ _ _ (by omega) (by omega) (hnext _ (InvL_n hRal hRC' hRR' (fun c hc => jUpO_lo hc) (fun c hc => jUpO_R hc))))
