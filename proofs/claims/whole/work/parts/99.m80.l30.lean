set_option maxHeartbeats 4000000 in
set_option maxRecDepth 100000 in
theorem lc_30 {l : Launch} {D : va_G} {cy : Nat → ClassId} {ad : Nat → Nat} {xs : Nat → Int} {L : Nat} {J : Nat → Nat → Nat → List (Nat × Value) → List Value → MM → Prop} (hst : l.stackTraces = false) (hin : jIn ad ksK.length) (hE : LwE l D cy ad xs L J) (hxs : ∀ j, ri_ (xs j)) {n : Nat} (hn : n < 512) (hL : 6 * n + 6 ≤ L) {M : MM} (hI : InvL n M) (hnext : ∀ M1, InvL (n + 1) M1 → J (390 + 3 * (n + 1)) (571600 + 18 * (n + 1)) 3111 [(0, .ref (ad 910)), (1, .ref (ad 0)), (2, .ref (ad 286)), (3, .ref (ad 389)), (4, .int (Ii (6 * (n : Int))))] [] M1) : J (390 + 3 * n) (571600 + 18 * n) 1993 [(0, .ref (ad 910)), (1, .ref (ad 0)), (2, .ref (ad 286)), (3, .ref (ad 389)), (4, .int (Ii (6 * (n : Int))))] [] M := by
  have gi : ri_ (6 * (n : Int)) := by unfold ri_; omega
  obtain ⟨C, R, hR, hRC, hRR, hC, hRm⟩ := hI
  have hO := hE.1 (390 + 3 * n) (571600 + 18 * n) (by omega) (by omega)
  refine j_aload_n hO dL_law_1993 rfl 1 rfl ?_
  refine j_aload_n hO dL_law_1994 rfl 0 rfl ?_
  refine j_iload hO dL_law_1995 4 rfl ?_
  refine j_iconst hO dL_law_1997 ?_
  refine j_iadd hO dL_law_1998 ?_
  refine j_ti hO XtB_sc (by unfold ri_; omega) (by omega) (by omega) dL_law_1999 ?_
  refine j_aload_n hO dL_law_2000 rfl 0 rfl ?_
  refine j_iload hO dL_law_2001 4 rfl ?_
  refine j_iconst hO dL_law_2003 ?_
  refine j_iadd hO dL_law_2004 ?_
  refine j_ti hO XtB_sc (by unfold ri_; omega) (by omega) (by omega) dL_law_2005 ?_
  obtain ⟨Q1, hw1, h2⟩ := v_picture (p1 := (xs ((6 * (n : Int)) + 1).toNat)) (p2 := (xs ((6 * (n : Int)) + 2).toNat)) (by omega) (by omega) (hxs _) hR
  refine j_callVi hO (lfC hin (c_X11_picture (l := l) (D := D) (cy := cy) (ad := ad) (jIn_w hin))) rfl om_2324 ⟨rfl, rfl, Nat.le_of_ble_eq_true rfl, Nat.le_of_ble_eq_true rfl⟩ [.int (Ii (xs ((6 * (n : Int)) + 1).toNat)), .int (Ii (xs ((6 * (n : Int)) + 2).toNat))] mv_L_242 hd_X11_picturev kK_0 rfl rfl rfl (Nat.le_of_ble_eq_true rfl) dL_law_2006 (P := fun r M1 => ∃ C', jRg ftC ksC C' ∧ Q1 r C' ∧ M1 = jUp 286 C' M) ⟨C, Q1, hC, hRC, ⟨(xs ((6 * (n : Int)) + 1).toNat), (xs ((6 * (n : Int)) + 2).toNat), rfl, (hxs _), (hxs _), hw1⟩, fun r C' a b => ⟨C', a, b, rfl⟩⟩ (fun ra M1 gra q => ?_)
  obtain ⟨C', hRC', hq, rfl⟩ := q
  obtain ⟨Q0, hw2, h3⟩ := h2 _ C' hq
  refine j_aload_n hO dL_law_2009 rfl 2 rfl ?_
  refine j_aload_n hO dL_law_2010 rfl 0 rfl ?_
  refine j_iload hO dL_law_2011 4 rfl ?_
  refine j_iconst hO dL_law_2013 ?_
  refine j_iadd hO dL_law_2014 ?_
  refine j_ti hO XtB_sc (by unfold ri_; omega) (by omega) (by omega) dL_law_2015 ?_
  refine j_aload_n hO dL_law_2016 rfl 0 rfl ?_
  refine j_iload hO dL_law_2017 4 rfl ?_
  refine j_iconst hO dL_law_2019 ?_
  refine j_iadd hO dL_law_2020 ?_
  refine j_ti hO XtB_sc (by unfold ri_; omega) (by omega) (by omega) dL_law_2021 ?_
  refine j_callVi hO (lfR hin (c_X12_picture (l := l) (D := D) (cy := cy) (ad := fun c => ad (286 + c)) (jIn_R hin))) rfl om_2328 ⟨rfl, rfl, Nat.le_of_ble_eq_true rfl, Nat.le_of_ble_eq_true rfl⟩ [.int (Ii (xs ((6 * (n : Int)) + 1).toNat)), .int (Ii (xs ((6 * (n : Int)) + 2).toNat))] mv_L_245 hd_X12_picturev kK_286 rfl rfl rfl (Nat.le_of_ble_eq_true rfl) dL_law_2022 (P := fun r M1 => ∃ R', jRg ftR ksR R' ∧ Q0 r R' ∧ M1 = jUpO 286 103 R' (jUp 286 C' M)) ⟨R, Q0, (jUp_R hRm), hRR, ⟨(xs ((6 * (n : Int)) + 1).toNat), (xs ((6 * (n : Int)) + 2).toNat), rfl, (hxs _), (hxs _), hw2⟩, fun r R' a b => ⟨R', a, b, rfl⟩⟩ (fun rb M2 grb q => ?_)
  obtain ⟨R', hRR', hq, rfl⟩ := q
  obtain ⟨q1, hRal⟩ := h3 _ R' hq
  refine j_icmp_eq hO 3111 gra grb dL_law_2025 (by decide) (fun _ => ?_) (fun z => absurd (by exact q1) z)
  exact j_sub hO [0, 1, 2, 3, 4] rfl (hE.2.2 _ _ _ _ _ _ _ _ (by omega) (by omega) (hnext _ (InvL_n hRal hRC' hRR' (fun c hc => jUpO_lo hc) (fun c hc => jUpO_R hc))))
set_option maxHeartbeats 4000000 in
set_option maxRecDepth 100000 in
theorem lc_31 {l : Launch} {D : va_G} {cy : Nat → ClassId} {ad : Nat → Nat} {xs : Nat → Int} {L : Nat} {J : Nat → Nat → Nat → List (Nat × Value) → List Value → MM → Prop} (hst : l.stackTraces = false) (hin : jIn ad ksK.length) (hE : LwE l D cy ad xs L J) (hxs : ∀ j, ri_ (xs j)) {n : Nat} (hn : n < 512) (hL : 6 * n + 6 ≤ L) {M : MM} (hI : InvL n M) (hnext : ∀ M1, InvL (n + 1) M1 → J (390 + 3 * (n + 1)) (571600 + 18 * (n + 1)) 3111 [(0, .ref (ad 910)), (1, .ref (ad 0)), (2, .ref (ad 286)), (3, .ref (ad 389)), (4, .int (Ii (6 * (n : Int))))] [] M1) : J (390 + 3 * n) (571600 + 18 * n) 2030 [(0, .ref (ad 910)), (1, .ref (ad 0)), (2, .ref (ad 286)), (3, .ref (ad 389)), (4, .int (Ii (6 * (n : Int))))] [] M := by
  have gi : ri_ (6 * (n : Int)) := by unfold ri_; omega
  obtain ⟨C, R, hR, hRC, hRR, hC, hRm⟩ := hI
  have hO := hE.1 (390 + 3 * n) (571600 + 18 * n) (by omega) (by omega)
  refine j_aload_n hO dL_law_2030 rfl 1 rfl ?_
  refine j_aload_n hO dL_law_2031 rfl 0 rfl ?_
  refine j_iload hO dL_law_2032 4 rfl ?_
  refine j_iconst hO dL_law_2034 ?_
  refine j_iadd hO dL_law_2035 ?_
  refine j_ti hO XtB_sc (by unfold ri_; omega) (by omega) (by omega) dL_law_2036 ?_
  refine j_aload_n hO dL_law_2037 rfl 0 rfl ?_
  refine j_iload hO dL_law_2038 4 rfl ?_
  refine j_iconst hO dL_law_2040 ?_
  refine j_iadd hO dL_law_2041 ?_
  refine j_ti hO XtB_sc (by unfold ri_; omega) (by omega) (by omega) dL_law_2042 ?_
  refine j_aload_n hO dL_law_2043 rfl 0 rfl ?_
  refine j_iload hO dL_law_2044 4 rfl ?_
  refine j_iconst hO dL_law_2046 ?_
  refine j_iadd hO dL_law_2047 ?_
  refine j_ti hO XtB_sc (by unfold ri_; omega) (by omega) (by omega) dL_law_2048 ?_
  refine j_aload_n hO dL_law_2049 rfl 0 rfl ?_
  refine j_iload hO dL_law_2050 4 rfl ?_
  refine j_iconst hO dL_law_2052 ?_
  refine j_iadd hO dL_law_2053 ?_
  refine j_ti hO XtB_sc (by unfold ri_; omega) (by omega) (by omega) dL_law_2054 ?_
  refine j_aload_n hO dL_law_2055 rfl 3 rfl ?_
  obtain ⟨Q1, X1, hw1, h2, h4⟩ := v_member (p1 := (xs ((6 * (n : Int)) + 1).toNat)) (p2 := (xs ((6 * (n : Int)) + 2).toNat)) (p3 := (xs ((6 * (n : Int)) + 3).toNat)) (p4 := (xs ((6 * (n : Int)) + 4).toNat)) (by omega) (by omega) (hxs _) hR
  have hWL : WL_member ad (fun r M1 => ∃ C', jRg ftC ksC C' ∧ ((∃ r1, r = 0 ∧ Q1 r1 C' ∧ M1 = (ux_ (jUp 286 C' M) 389 0 r1)) ∨ (r = 1 ∧ X1 "java/util/NoSuchElementException" C' ∧ M1 = jUp 286 C' M))) [.ref (ad 0), .int (Ii (xs ((6 * (n : Int)) + 1).toNat)), .int (Ii (xs ((6 * (n : Int)) + 2).toNat)), .int (Ii (xs ((6 * (n : Int)) + 3).toNat)), .int (Ii (xs ((6 * (n : Int)) + 4).toNat)), .ref (ad 389)] M := by
    refine ⟨(xs ((6 * (n : Int)) + 1).toNat), (xs ((6 * (n : Int)) + 2).toNat), (xs ((6 * (n : Int)) + 3).toNat), (xs ((6 * (n : Int)) + 4).toNat), rfl, (hxs _), (hxs _), (hxs _), (hxs _), ⟨C, Q1, X1, hC, hRC, hw1, fun r1 C' a b => ⟨C', a, Or.inl ⟨r1, rfl, b, rfl⟩⟩, fun E C' a m b => ?_⟩⟩
    simp only [List.mem_cons, List.not_mem_nil, or_false] at m
    rcases m with rfl
    · exact ⟨rfl, C', a, Or.inr (⟨rfl, b, rfl⟩)⟩
  refine hE.2.1 _ _ 1 6 (by omega) (by omega) _ _ _ _ _ _ _ _ _ _ _ [.ref (ad 0), .int (Ii (xs ((6 * (n : Int)) + 1).toNat)), .int (Ii (xs ((6 * (n : Int)) + 2).toNat)), .int (Ii (xs ((6 * (n : Int)) + 3).toNat)), .int (Ii (xs ((6 * (n : Int)) + 4).toNat)), .ref (ad 389)] _ _ _ (cl_member (l := l) (D := D) (cy := cy) (xs := xs) (L := L) hst hin) rfl om_2332 ⟨rfl, rfl, Nat.le_of_ble_eq_true rfl, Nat.le_of_ble_eq_true rfl⟩ mv_L_246 hd_L_member rfl (Nat.le_of_ble_eq_true rfl) dL_law_2056 hWL (fun rk1 M1 grk q => ?_)
  have hO := hE.1 (390 + 3 * n + 1) (571600 + 18 * n + 6) (by omega) (by omega)
  obtain ⟨C', hRC', q⟩ := q
  rcases q with ⟨r1, rfl, hq, rfl⟩ | ⟨rfl, hq, rfl⟩
  · obtain ⟨Q0, hw2, h3⟩ := h2 _ C' hq
    refine j_istore (lv' := [(5, .int (Ii 0)), (0, .ref (ad 910)), (1, .ref (ad 0)), (2, .ref (ad 286)), (3, .ref (ad 389)), (4, .int (Ii (6 * (n : Int))))]) hO dL_law_2059 (by decide) rfl ?_
    refine j_aload_n hO dL_law_2061 rfl 3 rfl ?_
    refine j_aload_n hO dL_law_2062 rfl 1 rfl ?_
    refine j_iload hO dL_law_2063 5 rfl ?_
    refine j_iconst hO dL_law_2065 ?_
    refine j_iadd hO dL_law_2066 ?_
    refine j_ti hO XtB_sc (by unfold ri_; omega) (by omega) (by omega) dL_law_2067 ?_
    refine j_aload_n hO dL_law_2068 rfl 1 rfl ?_
    refine j_iload hO dL_law_2069 5 rfl ?_
    refine j_iconst hO dL_law_2071 ?_
    refine j_iadd hO dL_law_2072 ?_
    refine j_ti hO XtB_sc (by unfold ri_; omega) (by omega) (by omega) dL_law_2073 ?_
    refine j_aload_n hO dL_law_2074 rfl 1 rfl ?_
    refine j_iload hO dL_law_2075 5 rfl ?_
    refine j_iconst hO dL_law_2077 ?_
    refine j_iadd hO dL_law_2078 ?_
    refine j_ti hO XtB_sc (by unfold ri_; omega) (by omega) (by omega) dL_law_2079 ?_
    refine j_aload_n hO dL_law_2080 rfl 1 rfl ?_
    refine j_iload hO dL_law_2081 5 rfl ?_
    refine j_iconst hO dL_law_2083 ?_
    refine j_iadd hO dL_law_2084 ?_
    refine j_ti hO XtB_sc (by unfold ri_; omega) (by omega) (by omega) dL_law_2085 ?_
    refine j_callVi hO (lfR hin (c_X12_member (l := l) (D := D) (cy := cy) (ad := fun c => ad (286 + c)) (jIn_R hin))) rfl om_2335 ⟨rfl, rfl, Nat.le_of_ble_eq_true rfl, Nat.le_of_ble_eq_true rfl⟩ [.int (Ii (xs ((6 * (n : Int)) + 1).toNat)), .int (Ii (xs ((6 * (n : Int)) + 2).toNat)), .int (Ii (xs ((6 * (n : Int)) + 3).toNat)), .int (Ii (xs ((6 * (n : Int)) + 4).toNat))] mv_L_248 hd_X12_memberv kK_286 rfl rfl rfl (Nat.le_of_ble_eq_true rfl) dL_law_2086 (P := fun r M1 => ∃ R', jRg ftR ksR R' ∧ Q0 r R' ∧ M1 = jUpO 286 103 R' (ux_ (jUp 286 C' M) 389 0 r1)) ⟨R, Q0, (jUp_U hRm), hRR, ⟨(xs ((6 * (n : Int)) + 1).toNat), (xs ((6 * (n : Int)) + 2).toNat), (xs ((6 * (n : Int)) + 3).toNat), (xs ((6 * (n : Int)) + 4).toNat), rfl, (hxs _), (hxs _), (hxs _), (hxs _), hw2⟩, fun r R' a b => ⟨R', a, b, rfl⟩⟩ (fun rb M2 grb q => ?_)
    obtain ⟨R', hRR', hq, rfl⟩ := q
    obtain ⟨q1, q0, hRal⟩ := h3 _ R' hq
    refine j_istore (lv' := [(6, .int (Ii rb)), (5, .int (Ii 0)), (0, .ref (ad 910)), (1, .ref (ad 0)), (2, .ref (ad 286)), (3, .ref (ad 389)), (4, .int (Ii (6 * (n : Int))))]) hO dL_law_2089 (by decide) rfl ?_
    refine j_aload_n hO dL_law_2091 rfl 4 rfl ?_
    refine j_callVi hO (lfR hin (c_X12_thrown (l := l) (D := D) (cy := cy) (ad := fun c => ad (286 + c)) (jIn_R hin))) rfl om_2146 ⟨rfl, rfl, Nat.le_of_ble_eq_true rfl, Nat.le_of_ble_eq_true rfl⟩ [] mv_L_149 hd_X12_thrownv kK_286 rfl rfl rfl (Nat.le_of_ble_eq_true rfl) dL_law_2092 (P := fun r M1 => r = R' 0 0 ∧ M1 = jUpO 286 103 R' (ux_ (jUp 286 C' M) 389 0 r1)) ⟨R', fun v M' => v = R' 0 0 ∧ M' = R', fun c hc => jUpO_R hc, hRR', ⟨rfl, fun v e1 _ => ⟨e1, rfl⟩⟩, fun r C9 _ b => ⟨b.1, by rw [b.2]; exact jUpO_i⟩⟩ (fun rt M3 grt q => ?_)
    obtain ⟨ert, rfl⟩ := q
    refine j_iload hO dL_law_2095 1 rfl ?_
    refine j_icmp_eq hO 2102 grt rk_0 dL_law_2097 (by decide) (fun _ => ?_) (fun z => absurd (by exact (ert.trans q0)) z)
    refine j_iload hO dL_law_2102 1 rfl ?_
    refine j_if_ne hO 2119 rk_0 dL_law_2104 (by decide) (fun z => absurd z (by decide)) (fun _ => ?_)
    refine j_aload_n hO dL_law_2107 rfl 5 rfl ?_
    refine j_iconst hO dL_law_2108 ?_
    refine j_lald hO rk_0 kK_389 (by decide) (by decide) dL_law_2109 (fun v2109 ev2109 gv2109 => ?_)
    refine j_iload hO dL_law_2110 0 rfl ?_
    refine j_i2l hO grb dL_law_2112 ?_
    refine j_lcmp_eq hO 2119 gv2109 (rl_ri grb) dL_law_2113 dL_law_2114 (by decide) (fun _ => ?_) (fun z => absurd (by rw [ev2109]; exact (jUpO_o 389 (by decide)).trans ((ux_s _ _ _ _).trans q1)) z)
    refine j_goto hO 3111 dL_law_2119 (by decide) ?_
    exact j_sub hO [2, 3, 4, 5, 6] rfl (hE.2.2 _ _ _ _ _ _ _ _ (by omega) (by omega) (hnext _ (InvL_n hRal hRC' hRR' (fun c hc => jUpO_lu hc) (fun c hc => jUpO_R hc))))
  · obtain ⟨Q0, hw2, h3⟩ := h4 _ C' hq
    refine j_istore (lv' := [(5, .int (Ii 1)), (0, .ref (ad 910)), (1, .ref (ad 0)), (2, .ref (ad 286)), (3, .ref (ad 389)), (4, .int (Ii (6 * (n : Int))))]) hO dL_law_2059 (by decide) rfl ?_
    refine j_aload_n hO dL_law_2061 rfl 3 rfl ?_
    refine j_aload_n hO dL_law_2062 rfl 1 rfl ?_
    refine j_iload hO dL_law_2063 5 rfl ?_
    refine j_iconst hO dL_law_2065 ?_
    refine j_iadd hO dL_law_2066 ?_
    refine j_ti hO XtB_sc (by unfold ri_; omega) (by omega) (by omega) dL_law_2067 ?_
    refine j_aload_n hO dL_law_2068 rfl 1 rfl ?_
    refine j_iload hO dL_law_2069 5 rfl ?_
    refine j_iconst hO dL_law_2071 ?_
    refine j_iadd hO dL_law_2072 ?_
    refine j_ti hO XtB_sc (by unfold ri_; omega) (by omega) (by omega) dL_law_2073 ?_
    refine j_aload_n hO dL_law_2074 rfl 1 rfl ?_
    refine j_iload hO dL_law_2075 5 rfl ?_
    refine j_iconst hO dL_law_2077 ?_
    refine j_iadd hO dL_law_2078 ?_
    refine j_ti hO XtB_sc (by unfold ri_; omega) (by omega) (by omega) dL_law_2079 ?_
    refine j_aload_n hO dL_law_2080 rfl 1 rfl ?_
    refine j_iload hO dL_law_2081 5 rfl ?_
    refine j_iconst hO dL_law_2083 ?_
    refine j_iadd hO dL_law_2084 ?_
    refine j_ti hO XtB_sc (by unfold ri_; omega) (by omega) (by omega) dL_law_2085 ?_
    refine j_callVi hO (lfR hin (c_X12_member (l := l) (D := D) (cy := cy) (ad := fun c => ad (286 + c)) (jIn_R hin))) rfl om_2335 ⟨rfl, rfl, Nat.le_of_ble_eq_true rfl, Nat.le_of_ble_eq_true rfl⟩ [.int (Ii (xs ((6 * (n : Int)) + 1).toNat)), .int (Ii (xs ((6 * (n : Int)) + 2).toNat)), .int (Ii (xs ((6 * (n : Int)) + 3).toNat)), .int (Ii (xs ((6 * (n : Int)) + 4).toNat))] mv_L_248 hd_X12_memberv kK_286 rfl rfl rfl (Nat.le_of_ble_eq_true rfl) dL_law_2086 (P := fun r M1 => ∃ R', jRg ftR ksR R' ∧ Q0 r R' ∧ M1 = jUpO 286 103 R' (jUp 286 C' M)) ⟨R, Q0, (jUp_R hRm), hRR, ⟨(xs ((6 * (n : Int)) + 1).toNat), (xs ((6 * (n : Int)) + 2).toNat), (xs ((6 * (n : Int)) + 3).toNat), (xs ((6 * (n : Int)) + 4).toNat), rfl, (hxs _), (hxs _), (hxs _), (hxs _), hw2⟩, fun r R' a b => ⟨R', a, b, rfl⟩⟩ (fun rb M2 grb q => ?_)
    obtain ⟨R', hRR', hq, rfl⟩ := q
    obtain ⟨q0, hRal⟩ := h3 _ R' hq
    refine j_istore (lv' := [(6, .int (Ii rb)), (5, .int (Ii 1)), (0, .ref (ad 910)), (1, .ref (ad 0)), (2, .ref (ad 286)), (3, .ref (ad 389)), (4, .int (Ii (6 * (n : Int))))]) hO dL_law_2089 (by decide) rfl ?_
    refine j_aload_n hO dL_law_2091 rfl 4 rfl ?_
    refine j_callVi hO (lfR hin (c_X12_thrown (l := l) (D := D) (cy := cy) (ad := fun c => ad (286 + c)) (jIn_R hin))) rfl om_2146 ⟨rfl, rfl, Nat.le_of_ble_eq_true rfl, Nat.le_of_ble_eq_true rfl⟩ [] mv_L_149 hd_X12_thrownv kK_286 rfl rfl rfl (Nat.le_of_ble_eq_true rfl) dL_law_2092 (P := fun r M1 => r = R' 0 0 ∧ M1 = jUpO 286 103 R' (jUp 286 C' M)) ⟨R', fun v M' => v = R' 0 0 ∧ M' = R', fun c hc => jUpO_R hc, hRR', ⟨rfl, fun v e1 _ => ⟨e1, rfl⟩⟩, fun r C9 _ b => ⟨b.1, by rw [b.2]; exact jUpO_i⟩⟩ (fun rt M3 grt q => ?_)
    obtain ⟨ert, rfl⟩ := q
    refine j_iload hO dL_law_2095 1 rfl ?_
    refine j_icmp_eq hO 2102 grt rk_1 dL_law_2097 (by decide) (fun _ => ?_) (fun z => absurd (by exact (ert.trans (by simpa using q0))) z)
    refine j_iload hO dL_law_2102 1 rfl ?_
    refine j_if_ne hO 2119 rk_1 dL_law_2104 (by decide) (fun _ => ?_) (fun z => absurd z (by decide))
    refine j_goto hO 3111 dL_law_2119 (by decide) ?_
    exact j_sub hO [2, 3, 4, 5, 6] rfl (hE.2.2 _ _ _ _ _ _ _ _ (by omega) (by omega) (hnext _ (InvL_n hRal hRC' hRR' (fun c hc => jUpO_lo hc) (fun c hc => jUpO_R hc))))
set_option maxHeartbeats 4000000 in
set_option maxRecDepth 100000 in
theorem lc_32 {l : Launch} {D : va_G} {cy : Nat → ClassId} {ad : Nat → Nat} {xs : Nat → Int} {L : Nat} {J : Nat → Nat → Nat → List (Nat × Value) → List Value → MM → Prop} (hst : l.stackTraces = false) (hin : jIn ad ksK.length) (hE : LwE l D cy ad xs L J) (hxs : ∀ j, ri_ (xs j)) {n : Nat} (hn : n < 512) (hL : 6 * n + 6 ≤ L) {M : MM} (hI : InvL n M) (hnext : ∀ M1, InvL (n + 1) M1 → J (390 + 3 * (n + 1)) (571600 + 18 * (n + 1)) 3111 [(0, .ref (ad 910)), (1, .ref (ad 0)), (2, .ref (ad 286)), (3, .ref (ad 389)), (4, .int (Ii (6 * (n : Int))))] [] M1) : J (390 + 3 * n) (571600 + 18 * n) 2122 [(0, .ref (ad 910)), (1, .ref (ad 0)), (2, .ref (ad 286)), (3, .ref (ad 389)), (4, .int (Ii (6 * (n : Int))))] [] M := by
  have gi : ri_ (6 * (n : Int)) := by unfold ri_; omega
  obtain ⟨C, R, hR, hRC, hRR, hC, hRm⟩ := hI
  have hO := hE.1 (390 + 3 * n) (571600 + 18 * n) (by omega) (by omega)
  refine j_aload_n hO dL_law_2122 rfl 1 rfl ?_
  refine j_aload_n hO dL_law_2123 rfl 0 rfl ?_
  refine j_iload hO dL_law_2124 4 rfl ?_
  refine j_iconst hO dL_law_2126 ?_
  refine j_iadd hO dL_law_2127 ?_
  refine j_ti hO XtB_sc (by unfold ri_; omega) (by omega) (by omega) dL_law_2128 ?_
  refine j_aload_n hO dL_law_2129 rfl 0 rfl ?_
  refine j_iload hO dL_law_2130 4 rfl ?_
  refine j_iconst hO dL_law_2132 ?_
  refine j_iadd hO dL_law_2133 ?_
  refine j_ti hO XtB_sc (by unfold ri_; omega) (by omega) (by omega) dL_law_2134 ?_
  refine j_aload_n hO dL_law_2135 rfl 0 rfl ?_
  refine j_iload hO dL_law_2136 4 rfl ?_
  refine j_iconst hO dL_law_2138 ?_
  refine j_iadd hO dL_law_2139 ?_
  refine j_ti hO XtB_sc (by unfold ri_; omega) (by omega) (by omega) dL_law_2140 ?_
  by_cases zz : (xs ((6 * (n : Int)) + 3).toNat) = 0
  · refine j_if_eq hO 2148 (hxs _) dL_law_2141 (by decide) (fun _ => ?_) (fun z => absurd zz z)
    refine j_iconst hO dL_law_2148 ?_
    obtain ⟨Q1, hw1, h2⟩ := v_choose (p1 := (xs ((6 * (n : Int)) + 1).toNat)) (p2 := (xs ((6 * (n : Int)) + 2).toNat)) (p3 := 0) (by omega) (by omega) hR
    refine j_callVz hO (lfC hin (c_X11_choose (l := l) (D := D) (cy := cy) (ad := ad) (jIn_w hin))) rfl om_2339 ⟨rfl, rfl, Nat.le_of_ble_eq_true rfl, Nat.le_of_ble_eq_true rfl⟩ [.int (Ii (xs ((6 * (n : Int)) + 1).toNat)), .int (Ii (xs ((6 * (n : Int)) + 2).toNat)), .int (Ii 0)] mv_L_249 hd_X11_choosev kK_0 rfl rfl rfl (Nat.le_of_ble_eq_true rfl) dL_law_2149 (P := fun r M1 => ∃ C', jRg ftC ksC C' ∧ Q1 r C' ∧ M1 = jUp 286 C' M) ⟨C, Q1, hC, hRC, ⟨(xs ((6 * (n : Int)) + 1).toNat), (xs ((6 * (n : Int)) + 2).toNat), 0, rfl, (hxs _), (hxs _), (by decide), hw1⟩, fun r C' a b => ⟨C', a, b, rfl⟩⟩ (fun ra M1 gra q => ?_)
    obtain ⟨C', hRC', hq, rfl⟩ := q
    obtain ⟨Q0, hw2, h3⟩ := h2 _ C' hq
    refine j_aload_n hO dL_law_2152 rfl 2 rfl ?_
    refine j_aload_n hO dL_law_2153 rfl 0 rfl ?_
    refine j_iload hO dL_law_2154 4 rfl ?_
    refine j_iconst hO dL_law_2156 ?_
    refine j_iadd hO dL_law_2157 ?_
    refine j_ti hO XtB_sc (by unfold ri_; omega) (by omega) (by omega) dL_law_2158 ?_
    refine j_aload_n hO dL_law_2159 rfl 0 rfl ?_
    refine j_iload hO dL_law_2160 4 rfl ?_
    refine j_iconst hO dL_law_2162 ?_
    refine j_iadd hO dL_law_2163 ?_
    refine j_ti hO XtB_sc (by unfold ri_; omega) (by omega) (by omega) dL_law_2164 ?_
    refine j_aload_n hO dL_law_2165 rfl 0 rfl ?_
    refine j_iload hO dL_law_2166 4 rfl ?_
    refine j_iconst hO dL_law_2168 ?_
    refine j_iadd hO dL_law_2169 ?_
    refine j_ti hO XtB_sc (by unfold ri_; omega) (by omega) (by omega) dL_law_2170 ?_
    refine j_if_eq hO 2178 (hxs _) dL_law_2171 (by decide) (fun _ => ?_) (fun z => absurd zz z)
    refine j_iconst hO dL_law_2178 ?_
    refine j_callVz hO (lfR hin (c_X12_choose (l := l) (D := D) (cy := cy) (ad := fun c => ad (286 + c)) (jIn_R hin))) rfl om_2343 ⟨rfl, rfl, Nat.le_of_ble_eq_true rfl, Nat.le_of_ble_eq_true rfl⟩ [.int (Ii (xs ((6 * (n : Int)) + 1).toNat)), .int (Ii (xs ((6 * (n : Int)) + 2).toNat)), .int (Ii 0)] mv_L_253 hd_X12_choosev kK_286 rfl rfl rfl (Nat.le_of_ble_eq_true rfl) dL_law_2179 (P := fun r M1 => ∃ R', jRg ftR ksR R' ∧ Q0 r R' ∧ M1 = jUpO 286 103 R' (jUp 286 C' M)) ⟨R, Q0, (jUp_R hRm), hRR, ⟨(xs ((6 * (n : Int)) + 1).toNat), (xs ((6 * (n : Int)) + 2).toNat), 0, rfl, (hxs _), (hxs _), (by decide), hw2⟩, fun r R' a b => ⟨R', a, b, rfl⟩⟩ (fun rb M2 grb q => ?_)
    obtain ⟨R', hRR', hq, rfl⟩ := q
    obtain ⟨q1, hRal⟩ := h3 _ R' hq
    refine j_icmp_eq hO 3111 (jz_ri gra) (jz_ri grb) dL_law_2182 (by decide) (fun _ => ?_) (fun z => absurd (by exact q1) z)
    exact j_sub hO [0, 1, 2, 3, 4] rfl (hE.2.2 _ _ _ _ _ _ _ _ (by omega) (by omega) (hnext _ (InvL_n hRal hRC' hRR' (fun c hc => jUpO_lo hc) (fun c hc => jUpO_R hc))))
  · refine j_if_eq hO 2148 (hxs _) dL_law_2141 (by decide) (fun z => absurd z zz) (fun _ => ?_)
    refine j_iconst hO dL_law_2144 ?_
    refine j_goto hO 2149 dL_law_2145 (by decide) ?_
    obtain ⟨Q1, hw1, h2⟩ := v_choose (p1 := (xs ((6 * (n : Int)) + 1).toNat)) (p2 := (xs ((6 * (n : Int)) + 2).toNat)) (p3 := 1) (by omega) (by omega) hR
    refine j_callVz hO (lfC hin (c_X11_choose (l := l) (D := D) (cy := cy) (ad := ad) (jIn_w hin))) rfl om_2339 ⟨rfl, rfl, Nat.le_of_ble_eq_true rfl, Nat.le_of_ble_eq_true rfl⟩ [.int (Ii (xs ((6 * (n : Int)) + 1).toNat)), .int (Ii (xs ((6 * (n : Int)) + 2).toNat)), .int (Ii 1)] mv_L_249 hd_X11_choosev kK_0 rfl rfl rfl (Nat.le_of_ble_eq_true rfl) dL_law_2149 (P := fun r M1 => ∃ C', jRg ftC ksC C' ∧ Q1 r C' ∧ M1 = jUp 286 C' M) ⟨C, Q1, hC, hRC, ⟨(xs ((6 * (n : Int)) + 1).toNat), (xs ((6 * (n : Int)) + 2).toNat), 1, rfl, (hxs _), (hxs _), (by decide), hw1⟩, fun r C' a b => ⟨C', a, b, rfl⟩⟩ (fun ra M1 gra q => ?_)
    obtain ⟨C', hRC', hq, rfl⟩ := q
    obtain ⟨Q0, hw2, h3⟩ := h2 _ C' hq
    refine j_aload_n hO dL_law_2152 rfl 2 rfl ?_
    refine j_aload_n hO dL_law_2153 rfl 0 rfl ?_
    refine j_iload hO dL_law_2154 4 rfl ?_
    refine j_iconst hO dL_law_2156 ?_
    refine j_iadd hO dL_law_2157 ?_
    refine j_ti hO XtB_sc (by unfold ri_; omega) (by omega) (by omega) dL_law_2158 ?_
    refine j_aload_n hO dL_law_2159 rfl 0 rfl ?_
    refine j_iload hO dL_law_2160 4 rfl ?_
    refine j_iconst hO dL_law_2162 ?_
    refine j_iadd hO dL_law_2163 ?_
    refine j_ti hO XtB_sc (by unfold ri_; omega) (by omega) (by omega) dL_law_2164 ?_
    refine j_aload_n hO dL_law_2165 rfl 0 rfl ?_
    refine j_iload hO dL_law_2166 4 rfl ?_
    refine j_iconst hO dL_law_2168 ?_
    refine j_iadd hO dL_law_2169 ?_
    refine j_ti hO XtB_sc (by unfold ri_; omega) (by omega) (by omega) dL_law_2170 ?_
    refine j_if_eq hO 2178 (hxs _) dL_law_2171 (by decide) (fun z => absurd z zz) (fun _ => ?_)
    refine j_iconst hO dL_law_2174 ?_
    refine j_goto hO 2179 dL_law_2175 (by decide) ?_
    refine j_callVz hO (lfR hin (c_X12_choose (l := l) (D := D) (cy := cy) (ad := fun c => ad (286 + c)) (jIn_R hin))) rfl om_2343 ⟨rfl, rfl, Nat.le_of_ble_eq_true rfl, Nat.le_of_ble_eq_true rfl⟩ [.int (Ii (xs ((6 * (n : Int)) + 1).toNat)), .int (Ii (xs ((6 * (n : Int)) + 2).toNat)), .int (Ii 1)] mv_L_253 hd_X12_choosev kK_286 rfl rfl rfl (Nat.le_of_ble_eq_true rfl) dL_law_2179 (P := fun r M1 => ∃ R', jRg ftR ksR R' ∧ Q0 r R' ∧ M1 = jUpO 286 103 R' (jUp 286 C' M)) ⟨R, Q0, (jUp_R hRm), hRR, ⟨(xs ((6 * (n : Int)) + 1).toNat), (xs ((6 * (n : Int)) + 2).toNat), 1, rfl, (hxs _), (hxs _), (by decide), hw2⟩, fun r R' a b => ⟨R', a, b, rfl⟩⟩ (fun rb M2 grb q => ?_)
    obtain ⟨R', hRR', hq, rfl⟩ := q
    obtain ⟨q1, hRal⟩ := h3 _ R' hq
    refine j_icmp_eq hO 3111 (jz_ri gra) (jz_ri grb) dL_law_2182 (by decide) (fun _ => ?_) (fun z => absurd (by exact q1) z)
    exact j_sub hO [0, 1, 2, 3, 4] rfl (hE.2.2 _ _ _ _ _ _ _ _ (by omega) (by omega) (hnext _ (InvL_n hRal hRC' hRR' (fun c hc => jUpO_lo hc) (fun c hc => jUpO_R hc))))
set_option maxHeartbeats 4000000 in
set_option maxRecDepth 100000 in
theorem lc_33 {l : Launch} {D : va_G} {cy : Nat → ClassId} {ad : Nat → Nat} {xs : Nat → Int} {L : Nat} {J : Nat → Nat → Nat → List (Nat × Value) → List Value → MM → Prop} (hst : l.stackTraces = false) (hin : jIn ad ksK.length) (hE : LwE l D cy ad xs L J) (hxs : ∀ j, ri_ (xs j)) {n : Nat} (hn : n < 512) (hL : 6 * n + 6 ≤ L) {M : MM} (hI : InvL n M) (hnext : ∀ M1, InvL (n + 1) M1 → J (390 + 3 * (n + 1)) (571600 + 18 * (n + 1)) 3111 [(0, .ref (ad 910)), (1, .ref (ad 0)), (2, .ref (ad 286)), (3, .ref (ad 389)), (4, .int (Ii (6 * (n : Int))))] [] M1) : J (390 + 3 * n) (571600 + 18 * n) 2187 [(0, .ref (ad 910)), (1, .ref (ad 0)), (2, .ref (ad 286)), (3, .ref (ad 389)), (4, .int (Ii (6 * (n : Int))))] [] M := by
  have gi : ri_ (6 * (n : Int)) := by unfold ri_; omega
  obtain ⟨C, R, hR, hRC, hRR, hC, hRm⟩ := hI
  have hO := hE.1 (390 + 3 * n) (571600 + 18 * n) (by omega) (by omega)
  refine j_aload_n hO dL_law_2187 rfl 1 rfl ?_
  refine j_aload_n hO dL_law_2188 rfl 0 rfl ?_
  refine j_iload hO dL_law_2189 4 rfl ?_
  refine j_iconst hO dL_law_2191 ?_
  refine j_iadd hO dL_law_2192 ?_
  refine j_ti hO XtB_sc (by unfold ri_; omega) (by omega) (by omega) dL_law_2193 ?_
  refine j_aload_n hO dL_law_2194 rfl 3 rfl ?_
  obtain ⟨Q1, X1, hw1, h2, h4⟩ := v_lost (p1 := (xs ((6 * (n : Int)) + 1).toNat)) (by omega) (by omega) hR
  have hWL : WL_lost ad (fun r M1 => ∃ C', jRg ftC ksC C' ∧ ((∃ r1, r = 0 ∧ Q1 r1 C' ∧ M1 = (ux_ (jUp 286 C' M) 389 0 r1)) ∨ (r = 1 ∧ X1 "java/lang/IndexOutOfBoundsException" C' ∧ M1 = jUp 286 C' M))) [.ref (ad 0), .int (Ii (xs ((6 * (n : Int)) + 1).toNat)), .ref (ad 389)] M := by
    refine ⟨(xs ((6 * (n : Int)) + 1).toNat), rfl, (hxs _), ⟨C, Q1, X1, hC, hRC, hw1, fun r1 C' a b => ⟨C', a, Or.inl ⟨r1, rfl, b, rfl⟩⟩, fun E C' a m b => ?_⟩⟩
    simp only [List.mem_cons, List.not_mem_nil, or_false] at m
    rcases m with rfl
    · exact ⟨rfl, C', a, Or.inr (⟨rfl, b, rfl⟩)⟩
  refine hE.2.1 _ _ 2 12 (by omega) (by omega) _ _ _ _ _ _ _ _ _ _ _ [.ref (ad 0), .int (Ii (xs ((6 * (n : Int)) + 1).toNat)), .ref (ad 389)] _ _ _ (cl_lost (l := l) (D := D) (cy := cy) (xs := xs) (L := L) hst hin) rfl om_2347 ⟨rfl, rfl, Nat.le_of_ble_eq_true rfl, Nat.le_of_ble_eq_true rfl⟩ mv_L_254 hd_L_lost rfl (Nat.le_of_ble_eq_true rfl) dL_law_2195 hWL (fun rk1 M1 grk q => ?_)
  have hO := hE.1 (390 + 3 * n + 2) (571600 + 18 * n + 12) (by omega) (by omega)
  obtain ⟨C', hRC', q⟩ := q
  rcases q with ⟨r1, rfl, hq, rfl⟩ | ⟨rfl, hq, rfl⟩
  · obtain ⟨Q0, hw2, h3⟩ := h2 _ C' hq
    refine j_istore (lv' := [(5, .int (Ii 0)), (0, .ref (ad 910)), (1, .ref (ad 0)), (2, .ref (ad 286)), (3, .ref (ad 389)), (4, .int (Ii (6 * (n : Int))))]) hO dL_law_2198 (by decide) rfl ?_
    refine j_aload_n hO dL_law_2200 rfl 3 rfl ?_
    refine j_aload_n hO dL_law_2201 rfl 1 rfl ?_
    refine j_iload hO dL_law_2202 5 rfl ?_
    refine j_iconst hO dL_law_2204 ?_
    refine j_iadd hO dL_law_2205 ?_
    refine j_ti hO XtB_sc (by unfold ri_; omega) (by omega) (by omega) dL_law_2206 ?_
    refine j_callVi hO (lfR hin (c_X12_lost (l := l) (D := D) (cy := cy) (ad := fun c => ad (286 + c)) (jIn_R hin))) rfl om_2350 ⟨rfl, rfl, Nat.le_of_ble_eq_true rfl, Nat.le_of_ble_eq_true rfl⟩ [.int (Ii (xs ((6 * (n : Int)) + 1).toNat))] mv_L_256 hd_X12_lostv kK_286 rfl rfl rfl (Nat.le_of_ble_eq_true rfl) dL_law_2207 (P := fun r M1 => ∃ R', jRg ftR ksR R' ∧ Q0 r R' ∧ M1 = jUpO 286 103 R' (ux_ (jUp 286 C' M) 389 0 r1)) ⟨R, Q0, (jUp_U hRm), hRR, ⟨(xs ((6 * (n : Int)) + 1).toNat), rfl, (hxs _), hw2⟩, fun r R' a b => ⟨R', a, b, rfl⟩⟩ (fun rb M2 grb q => ?_)
    obtain ⟨R', hRR', hq, rfl⟩ := q
    obtain ⟨q1, q0, hRal⟩ := h3 _ R' hq
    refine j_istore (lv' := [(6, .int (Ii rb)), (5, .int (Ii 0)), (0, .ref (ad 910)), (1, .ref (ad 0)), (2, .ref (ad 286)), (3, .ref (ad 389)), (4, .int (Ii (6 * (n : Int))))]) hO dL_law_2210 (by decide) rfl ?_
    refine j_aload_n hO dL_law_2212 rfl 4 rfl ?_
    refine j_callVi hO (lfR hin (c_X12_thrown (l := l) (D := D) (cy := cy) (ad := fun c => ad (286 + c)) (jIn_R hin))) rfl om_2146 ⟨rfl, rfl, Nat.le_of_ble_eq_true rfl, Nat.le_of_ble_eq_true rfl⟩ [] mv_L_149 hd_X12_thrownv kK_286 rfl rfl rfl (Nat.le_of_ble_eq_true rfl) dL_law_2213 (P := fun r M1 => r = R' 0 0 ∧ M1 = jUpO 286 103 R' (ux_ (jUp 286 C' M) 389 0 r1)) ⟨R', fun v M' => v = R' 0 0 ∧ M' = R', fun c hc => jUpO_R hc, hRR', ⟨rfl, fun v e1 _ => ⟨e1, rfl⟩⟩, fun r C9 _ b => ⟨b.1, by rw [b.2]; exact jUpO_i⟩⟩ (fun rt M3 grt q => ?_)
    obtain ⟨ert, rfl⟩ := q
    refine j_iload hO dL_law_2216 1 rfl ?_
    refine j_icmp_eq hO 2223 grt rk_0 dL_law_2218 (by decide) (fun _ => ?_) (fun z => absurd (by exact (ert.trans q0)) z)
    refine j_iload hO dL_law_2223 1 rfl ?_
    refine j_if_ne hO 2240 rk_0 dL_law_2225 (by decide) (fun z => absurd z (by decide)) (fun _ => ?_)
    refine j_aload_n hO dL_law_2228 rfl 5 rfl ?_
    refine j_iconst hO dL_law_2229 ?_
    refine j_lald hO rk_0 kK_389 (by decide) (by decide) dL_law_2230 (fun v2230 ev2230 gv2230 => ?_)
    refine j_iload hO dL_law_2231 0 rfl ?_
    refine j_i2l hO grb dL_law_2233 ?_
    refine j_lcmp_eq hO 2240 gv2230 (rl_ri grb) dL_law_2234 dL_law_2235 (by decide) (fun _ => ?_) (fun z => absurd (by rw [ev2230]; exact (jUpO_o 389 (by decide)).trans ((ux_s _ _ _ _).trans q1)) z)
    refine j_goto hO 3111 dL_law_2240 (by decide) ?_
    exact j_sub hO [2, 3, 4, 5, 6] rfl (hE.2.2 _ _ _ _ _ _ _ _ (by omega) (by omega) (hnext _ (InvL_n hRal hRC' hRR' (fun c hc => jUpO_lu hc) (fun c hc => jUpO_R hc))))
  · obtain ⟨Q0, hw2, h3⟩ := h4 _ C' hq
    refine j_istore (lv' := [(5, .int (Ii 1)), (0, .ref (ad 910)), (1, .ref (ad 0)), (2, .ref (ad 286)), (3, .ref (ad 389)), (4, .int (Ii (6 * (n : Int))))]) hO dL_law_2198 (by decide) rfl ?_
    refine j_aload_n hO dL_law_2200 rfl 3 rfl ?_
    refine j_aload_n hO dL_law_2201 rfl 1 rfl ?_
    refine j_iload hO dL_law_2202 5 rfl ?_
    refine j_iconst hO dL_law_2204 ?_
    refine j_iadd hO dL_law_2205 ?_
    refine j_ti hO XtB_sc (by unfold ri_; omega) (by omega) (by omega) dL_law_2206 ?_
    refine j_callVi hO (lfR hin (c_X12_lost (l := l) (D := D) (cy := cy) (ad := fun c => ad (286 + c)) (jIn_R hin))) rfl om_2350 ⟨rfl, rfl, Nat.le_of_ble_eq_true rfl, Nat.le_of_ble_eq_true rfl⟩ [.int (Ii (xs ((6 * (n : Int)) + 1).toNat))] mv_L_256 hd_X12_lostv kK_286 rfl rfl rfl (Nat.le_of_ble_eq_true rfl) dL_law_2207 (P := fun r M1 => ∃ R', jRg ftR ksR R' ∧ Q0 r R' ∧ M1 = jUpO 286 103 R' (jUp 286 C' M)) ⟨R, Q0, (jUp_R hRm), hRR, ⟨(xs ((6 * (n : Int)) + 1).toNat), rfl, (hxs _), hw2⟩, fun r R' a b => ⟨R', a, b, rfl⟩⟩ (fun rb M2 grb q => ?_)
    obtain ⟨R', hRR', hq, rfl⟩ := q
    obtain ⟨q0, hRal⟩ := h3 _ R' hq
    refine j_istore (lv' := [(6, .int (Ii rb)), (5, .int (Ii 1)), (0, .ref (ad 910)), (1, .ref (ad 0)), (2, .ref (ad 286)), (3, .ref (ad 389)), (4, .int (Ii (6 * (n : Int))))]) hO dL_law_2210 (by decide) rfl ?_
    refine j_aload_n hO dL_law_2212 rfl 4 rfl ?_
    refine j_callVi hO (lfR hin (c_X12_thrown (l := l) (D := D) (cy := cy) (ad := fun c => ad (286 + c)) (jIn_R hin))) rfl om_2146 ⟨rfl, rfl, Nat.le_of_ble_eq_true rfl, Nat.le_of_ble_eq_true rfl⟩ [] mv_L_149 hd_X12_thrownv kK_286 rfl rfl rfl (Nat.le_of_ble_eq_true rfl) dL_law_2213 (P := fun r M1 => r = R' 0 0 ∧ M1 = jUpO 286 103 R' (jUp 286 C' M)) ⟨R', fun v M' => v = R' 0 0 ∧ M' = R', fun c hc => jUpO_R hc, hRR', ⟨rfl, fun v e1 _ => ⟨e1, rfl⟩⟩, fun r C9 _ b => ⟨b.1, by rw [b.2]; exact jUpO_i⟩⟩ (fun rt M3 grt q => ?_)
    obtain ⟨ert, rfl⟩ := q
    refine j_iload hO dL_law_2216 1 rfl ?_
    refine j_icmp_eq hO 2223 grt rk_1 dL_law_2218 (by decide) (fun _ => ?_) (fun z => absurd (by exact (ert.trans (by simpa using q0))) z)
    refine j_iload hO dL_law_2223 1 rfl ?_
    refine j_if_ne hO 2240 rk_1 dL_law_2225 (by decide) (fun _ => ?_) (fun z => absurd z (by decide))
    refine j_goto hO 3111 dL_law_2240 (by decide) ?_
    exact j_sub hO [2, 3, 4, 5, 6] rfl (hE.2.2 _ _ _ _ _ _ _ _ (by omega) (by omega) (hnext _ (InvL_n hRal hRC' hRR' (fun c hc => jUpO_lo hc) (fun c hc => jUpO_R hc))))
set_option maxHeartbeats 4000000 in
set_option maxRecDepth 100000 in
theorem lc_34 {l : Launch} {D : va_G} {cy : Nat → ClassId} {ad : Nat → Nat} {xs : Nat → Int} {L : Nat} {J : Nat → Nat → Nat → List (Nat × Value) → List Value → MM → Prop} (hst : l.stackTraces = false) (hin : jIn ad ksK.length) (hE : LwE l D cy ad xs L J) (hxs : ∀ j, ri_ (xs j)) {n : Nat} (hn : n < 512) (hL : 6 * n + 6 ≤ L) {M : MM} (hI : InvL n M) (hnext : ∀ M1, InvL (n + 1) M1 → J (390 + 3 * (n + 1)) (571600 + 18 * (n + 1)) 3111 [(0, .ref (ad 910)), (1, .ref (ad 0)), (2, .ref (ad 286)), (3, .ref (ad 389)), (4, .int (Ii (6 * (n : Int))))] [] M1) : J (390 + 3 * n) (571600 + 18 * n) 2243 [(0, .ref (ad 910)), (1, .ref (ad 0)), (2, .ref (ad 286)), (3, .ref (ad 389)), (4, .int (Ii (6 * (n : Int))))] [] M := by
  have gi : ri_ (6 * (n : Int)) := by unfold ri_; omega
  obtain ⟨C, R, hR, hRC, hRR, hC, hRm⟩ := hI
  have hO := hE.1 (390 + 3 * n) (571600 + 18 * n) (by omega) (by omega)
  refine j_aload_n hO dL_law_2243 rfl 1 rfl ?_
  refine j_aload_n hO dL_law_2244 rfl 0 rfl ?_
  refine j_iload hO dL_law_2245 4 rfl ?_
  refine j_iconst hO dL_law_2247 ?_
  refine j_iadd hO dL_law_2248 ?_
  refine j_ti hO XtB_sc (by unfold ri_; omega) (by omega) (by omega) dL_law_2249 ?_
  refine j_aload_n hO dL_law_2250 rfl 0 rfl ?_
  refine j_iload hO dL_law_2251 4 rfl ?_
  refine j_iconst hO dL_law_2253 ?_
  refine j_iadd hO dL_law_2254 ?_
  refine j_ti hO XtB_sc (by unfold ri_; omega) (by omega) (by omega) dL_law_2255 ?_
  obtain ⟨Q1, hw1, h2⟩ := v_lostThing (p1 := (xs ((6 * (n : Int)) + 1).toNat)) (p2 := (xs ((6 * (n : Int)) + 2).toNat)) (by omega) (by omega) hR
  refine j_callVi hO (lfC hin (c_X11_lostThing (l := l) (D := D) (cy := cy) (ad := ad) (jIn_w hin))) rfl om_2354 ⟨rfl, rfl, Nat.le_of_ble_eq_true rfl, Nat.le_of_ble_eq_true rfl⟩ [.int (Ii (xs ((6 * (n : Int)) + 1).toNat)), .int (Ii (xs ((6 * (n : Int)) + 2).toNat))] mv_L_257 hd_X11_lostThingv kK_0 rfl rfl rfl (Nat.le_of_ble_eq_true rfl) dL_law_2256 (P := fun r M1 => ∃ C', jRg ftC ksC C' ∧ Q1 r C' ∧ M1 = jUp 286 C' M) ⟨C, Q1, hC, hRC, ⟨(xs ((6 * (n : Int)) + 1).toNat), (xs ((6 * (n : Int)) + 2).toNat), rfl, (hxs _), (hxs _), hw1⟩, fun r C' a b => ⟨C', a, b, rfl⟩⟩ (fun ra M1 gra q => ?_)
  obtain ⟨C', hRC', hq, rfl⟩ := q
  obtain ⟨Q0, hw2, h3⟩ := h2 _ C' hq
  refine j_aload_n hO dL_law_2259 rfl 2 rfl ?_
  refine j_aload_n hO dL_law_2260 rfl 0 rfl ?_
  refine j_iload hO dL_law_2261 4 rfl ?_
  refine j_iconst hO dL_law_2263 ?_
  refine j_iadd hO dL_law_2264 ?_
  refine j_ti hO XtB_sc (by unfold ri_; omega) (by omega) (by omega) dL_law_2265 ?_
  refine j_aload_n hO dL_law_2266 rfl 0 rfl ?_
  refine j_iload hO dL_law_2267 4 rfl ?_
  refine j_iconst hO dL_law_2269 ?_
  refine j_iadd hO dL_law_2270 ?_
  refine j_ti hO XtB_sc (by unfold ri_; omega) (by omega) (by omega) dL_law_2271 ?_
  refine j_callVi hO (lfR hin (c_X12_lostThing (l := l) (D := D) (cy := cy) (ad := fun c => ad (286 + c)) (jIn_R hin))) rfl om_2358 ⟨rfl, rfl, Nat.le_of_ble_eq_true rfl, Nat.le_of_ble_eq_true rfl⟩ [.int (Ii (xs ((6 * (n : Int)) + 1).toNat)), .int (Ii (xs ((6 * (n : Int)) + 2).toNat))] mv_L_260 hd_X12_lostThingv kK_286 rfl rfl rfl (Nat.le_of_ble_eq_true rfl) dL_law_2272 (P := fun r M1 => ∃ R', jRg ftR ksR R' ∧ Q0 r R' ∧ M1 = jUpO 286 103 R' (jUp 286 C' M)) ⟨R, Q0, (jUp_R hRm), hRR, ⟨(xs ((6 * (n : Int)) + 1).toNat), (xs ((6 * (n : Int)) + 2).toNat), rfl, (hxs _), (hxs _), hw2⟩, fun r R' a b => ⟨R', a, b, rfl⟩⟩ (fun rb M2 grb q => ?_)
  obtain ⟨R', hRR', hq, rfl⟩ := q
  obtain ⟨q1, hRal⟩ := h3 _ R' hq
  refine j_icmp_eq hO 3111 gra grb dL_law_2275 (by decide) (fun _ => ?_) (fun z => absurd (by exact q1) z)
  exact j_sub hO [0, 1, 2, 3, 4] rfl (hE.2.2 _ _ _ _ _ _ _ _ (by omega) (by omega) (hnext _ (InvL_n hRal hRC' hRR' (fun c hc => jUpO_lo hc) (fun c hc => jUpO_R hc))))
