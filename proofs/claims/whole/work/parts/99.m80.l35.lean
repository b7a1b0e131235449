set_option maxHeartbeats 4000000 in
set_option maxRecDepth 100000 in
theorem lc_35 {l : Launch} {D : va_G} {cy : Nat → ClassId} {ad : Nat → Nat} {xs : Nat → Int} {L : Nat} {J : Nat → Nat → Nat → List (Nat × Value) → List Value → MM → Prop} (hst : l.stackTraces = false) (hin : jIn ad ksK.length) (hE : LwE l D cy ad xs L J) (hxs : ∀ j, ri_ (xs j)) {n : Nat} (hn : n < 512) (hL : 6 * n + 6 ≤ L) {M : MM} (hI : InvL n M) (hnext : ∀ M1, InvL (n + 1) M1 → J (390 + 3 * (n + 1)) (571600 + 18 * (n + 1)) 3111 [(0, .ref (ad 910)), (1, .ref (ad 0)), (2, .ref (ad 286)), (3, .ref (ad 389)), (4, .int (Ii (6 * (n : Int))))] [] M1) : J (390 + 3 * n) (571600 + 18 * n) 2280 [(0, .ref (ad 910)), (1, .ref (ad 0)), (2, .ref (ad 286)), (3, .ref (ad 389)), (4, .int (Ii (6 * (n : Int))))] [] M := by
  have gi : ri_ (6 * (n : Int)) := by unfold ri_; omega
  obtain ⟨C, R, hR, hRC, hRR, hC, hRm⟩ := hI
  have hO := hE.1 (390 + 3 * n) (571600 + 18 * n) (by omega) (by omega)
  refine j_aload_n hO dL_law_2280 rfl 1 rfl ?_
  refine j_aload_n hO dL_law_2281 rfl 0 rfl ?_
  refine j_iload hO dL_law_2282 4 rfl ?_
  refine j_iconst hO dL_law_2284 ?_
  refine j_iadd hO dL_law_2285 ?_
  refine j_ti hO XtB_sc (by unfold ri_; omega) (by omega) (by omega) dL_law_2286 ?_
  refine j_aload_n hO dL_law_2287 rfl 0 rfl ?_
  refine j_iload hO dL_law_2288 4 rfl ?_
  refine j_iconst hO dL_law_2290 ?_
  refine j_iadd hO dL_law_2291 ?_
  refine j_ti hO XtB_sc (by unfold ri_; omega) (by omega) (by omega) dL_law_2292 ?_
  refine j_aload_n hO dL_law_2293 rfl 0 rfl ?_
  refine j_iload hO dL_law_2294 4 rfl ?_
  refine j_iconst hO dL_law_2296 ?_
  refine j_iadd hO dL_law_2297 ?_
  refine j_ti hO XtB_sc (by unfold ri_; omega) (by omega) (by omega) dL_law_2298 ?_
  refine j_aload_n hO dL_law_2299 rfl 3 rfl ?_
  obtain ⟨Q1, X1, hw1, h2, h4⟩ := v_growth (p1 := (xs ((6 * (n : Int)) + 1).toNat)) (p2 := (xs ((6 * (n : Int)) + 2).toNat)) (p3 := (xs ((6 * (n : Int)) + 3).toNat)) (by omega) (by omega) hR
  have hWL : WL_growth ad (fun r M1 => ∃ C', jRg ftC ksC C' ∧ ((∃ r1, r = 0 ∧ Q1 r1 C' ∧ M1 = (ux_ (jUp 286 C' M) 389 0 r1)) ∨ (r = 1 ∧ X1 "java/lang/IndexOutOfBoundsException" C' ∧ M1 = jUp 286 C' M))) [.ref (ad 0), .int (Ii (xs ((6 * (n : Int)) + 1).toNat)), .int (Ii (xs ((6 * (n : Int)) + 2).toNat)), .int (Ii (xs ((6 * (n : Int)) + 3).toNat)), .ref (ad 389)] M := by
    refine ⟨(xs ((6 * (n : Int)) + 1).toNat), (xs ((6 * (n : Int)) + 2).toNat), (xs ((6 * (n : Int)) + 3).toNat), rfl, (hxs _), (hxs _), (hxs _), ⟨C, Q1, X1, hC, hRC, hw1, fun r1 C' a b => ⟨C', a, Or.inl ⟨r1, rfl, b, rfl⟩⟩, fun E C' a m b => ?_⟩⟩
    simp only [List.mem_cons, List.not_mem_nil, or_false] at m
    rcases m with rfl
    · exact ⟨rfl, C', a, Or.inr (⟨rfl, b, rfl⟩)⟩
  refine hE.2.1 _ _ 3 18 (by omega) (by omega) _ _ _ _ _ _ _ _ _ _ _ [.ref (ad 0), .int (Ii (xs ((6 * (n : Int)) + 1).toNat)), .int (Ii (xs ((6 * (n : Int)) + 2).toNat)), .int (Ii (xs ((6 * (n : Int)) + 3).toNat)), .ref (ad 389)] _ _ _ (cl_growth (l := l) (D := D) (cy := cy) (xs := xs) (L := L) hst hin) rfl om_2362 ⟨rfl, rfl, Nat.le_of_ble_eq_true rfl, Nat.le_of_ble_eq_true rfl⟩ mv_L_261 hd_L_growth rfl (Nat.le_of_ble_eq_true rfl) dL_law_2300 hWL (fun rk1 M1 grk q => ?_)
  have hO := hE.1 (390 + 3 * n + 3) (571600 + 18 * n + 18) (by omega) (by omega)
  obtain ⟨C', hRC', q⟩ := q
  rcases q with ⟨r1, rfl, hq, rfl⟩ | ⟨rfl, hq, rfl⟩
  · obtain ⟨Q0, hw2, h3⟩ := h2 _ C' hq
    refine j_istore (lv' := [(5, .int (Ii 0)), (0, .ref (ad 910)), (1, .ref (ad 0)), (2, .ref (ad 286)), (3, .ref (ad 389)), (4, .int (Ii (6 * (n : Int))))]) hO dL_law_2303 (by decide) rfl ?_
    refine j_aload_n hO dL_law_2305 rfl 3 rfl ?_
    refine j_aload_n hO dL_law_2306 rfl 1 rfl ?_
    refine j_iload hO dL_law_2307 5 rfl ?_
    refine j_iconst hO dL_law_2309 ?_
    refine j_iadd hO dL_law_2310 ?_
    refine j_ti hO XtB_sc (by unfold ri_; omega) (by omega) (by omega) dL_law_2311 ?_
    refine j_aload_n hO dL_law_2312 rfl 1 rfl ?_
    refine j_iload hO dL_law_2313 5 rfl ?_
    refine j_iconst hO dL_law_2315 ?_
    refine j_iadd hO dL_law_2316 ?_
    refine j_ti hO XtB_sc (by unfold ri_; omega) (by omega) (by omega) dL_law_2317 ?_
    refine j_aload_n hO dL_law_2318 rfl 1 rfl ?_
    refine j_iload hO dL_law_2319 5 rfl ?_
    refine j_iconst hO dL_law_2321 ?_
    refine j_iadd hO dL_law_2322 ?_
    refine j_ti hO XtB_sc (by unfold ri_; omega) (by omega) (by omega) dL_law_2323 ?_
    refine j_callVi hO (lfR hin (c_X12_growth (l := l) (D := D) (cy := cy) (ad := fun c => ad (286 + c)) (jIn_R hin))) rfl om_2365 ⟨rfl, rfl, Nat.le_of_ble_eq_true rfl, Nat.le_of_ble_eq_true rfl⟩ [.int (Ii (xs ((6 * (n : Int)) + 1).toNat)), .int (Ii (xs ((6 * (n : Int)) + 2).toNat)), .int (Ii (xs ((6 * (n : Int)) + 3).toNat))] mv_L_263 hd_X12_growthv kK_286 rfl rfl rfl (Nat.le_of_ble_eq_true rfl) dL_law_2324 (P := fun r M1 => ∃ R', jRg ftR ksR R' ∧ Q0 r R' ∧ M1 = jUpO 286 103 R' (ux_ (jUp 286 C' M) 389 0 r1)) ⟨R, Q0, (jUp_U hRm), hRR, ⟨(xs ((6 * (n : Int)) + 1).toNat), (xs ((6 * (n : Int)) + 2).toNat), (xs ((6 * (n : Int)) + 3).toNat), rfl, (hxs _), (hxs _), (hxs _), hw2⟩, fun r R' a b => ⟨R', a, b, rfl⟩⟩ (fun rb M2 grb q => ?_)
    obtain ⟨R', hRR', hq, rfl⟩ := q
    obtain ⟨q1, q0, hRal⟩ := h3 _ R' hq
    refine j_istore (lv' := [(6, .int (Ii rb)), (5, .int (Ii 0)), (0, .ref (ad 910)), (1, .ref (ad 0)), (2, .ref (ad 286)), (3, .ref (ad 389)), (4, .int (Ii (6 * (n : Int))))]) hO dL_law_2327 (by decide) rfl ?_
    refine j_aload_n hO dL_law_2329 rfl 4 rfl ?_
    refine j_callVi hO (lfR hin (c_X12_thrown (l := l) (D := D) (cy := cy) (ad := fun c => ad (286 + c)) (jIn_R hin))) rfl om_2146 ⟨rfl, rfl, Nat.le_of_ble_eq_true rfl, Nat.le_of_ble_eq_true rfl⟩ [] mv_L_149 hd_X12_thrownv kK_286 rfl rfl rfl (Nat.le_of_ble_eq_true rfl) dL_law_2330 (P := fun r M1 => r = R' 0 0 ∧ M1 = jUpO 286 103 R' (ux_ (jUp 286 C' M) 389 0 r1)) ⟨R', fun v M' => v = R' 0 0 ∧ M' = R', fun c hc => jUpO_R hc, hRR', ⟨rfl, fun v e1 _ => ⟨e1, rfl⟩⟩, fun r C9 _ b => ⟨b.1, by rw [b.2]; exact jUpO_i⟩⟩ (fun rt M3 grt q => ?_)
    obtain ⟨ert, rfl⟩ := q
    refine j_iload hO dL_law_2333 1 rfl ?_
    refine j_icmp_eq hO 2340 grt rk_0 dL_law_2335 (by decide) (fun _ => ?_) (fun z => absurd (by exact (ert.trans q0)) z)
    refine j_iload hO dL_law_2340 1 rfl ?_
    refine j_if_ne hO 2357 rk_0 dL_law_2342 (by decide) (fun z => absurd z (by decide)) (fun _ => ?_)
    refine j_aload_n hO dL_law_2345 rfl 5 rfl ?_
    refine j_iconst hO dL_law_2346 ?_
    refine j_lald hO rk_0 kK_389 (by decide) (by decide) dL_law_2347 (fun v2347 ev2347 gv2347 => ?_)
    refine j_iload hO dL_law_2348 0 rfl ?_
    refine j_i2l hO grb dL_law_2350 ?_
    refine j_lcmp_eq hO 2357 gv2347 (rl_ri grb) dL_law_2351 dL_law_2352 (by decide) (fun _ => ?_) (fun z => absurd (by rw [ev2347]; exact (jUpO_o 389 (by decide)).trans ((ux_s _ _ _ _).trans q1)) z)
    refine j_goto hO 3111 dL_law_2357 (by decide) ?_
    exact j_sub hO [2, 3, 4, 5, 6] rfl (hE.2.2 _ _ _ _ _ _ _ _ (by omega) (by omega) (hnext _ (InvL_n hRal hRC' hRR' (fun c hc => jUpO_lu hc) (fun c hc => jUpO_R hc))))
  · obtain ⟨Q0, hw2, h3⟩ := h4 _ C' hq
    refine j_istore (lv' := [(5, .int (Ii 1)), (0, .ref (ad 910)), (1, .ref (ad 0)), (2, .ref (ad 286)), (3, .ref (ad 389)), (4, .int (Ii (6 * (n : Int))))]) hO dL_law_2303 (by decide) rfl ?_
    refine j_aload_n hO dL_law_2305 rfl 3 rfl ?_
    refine j_aload_n hO dL_law_2306 rfl 1 rfl ?_
    refine j_iload hO dL_law_2307 5 rfl ?_
    refine j_iconst hO dL_law_2309 ?_
    refine j_iadd hO dL_law_2310 ?_
    refine j_ti hO XtB_sc (by unfold ri_; omega) (by omega) (by omega) dL_law_2311 ?_
    refine j_aload_n hO dL_law_2312 rfl 1 rfl ?_
    refine j_iload hO dL_law_2313 5 rfl ?_
    refine j_iconst hO dL_law_2315 ?_
    refine j_iadd hO dL_law_2316 ?_
    refine j_ti hO XtB_sc (by unfold ri_; omega) (by omega) (by omega) dL_law_2317 ?_
    refine j_aload_n hO dL_law_2318 rfl 1 rfl ?_
    refine j_iload hO dL_law_2319 5 rfl ?_
    refine j_iconst hO dL_law_2321 ?_
    refine j_iadd hO dL_law_2322 ?_
    refine j_ti hO XtB_sc (by unfold ri_; omega) (by omega) (by omega) dL_law_2323 ?_
    refine j_callVi hO (lfR hin (c_X12_growth (l := l) (D := D) (cy := cy) (ad := fun c => ad (286 + c)) (jIn_R hin))) rfl om_2365 ⟨rfl, rfl, Nat.le_of_ble_eq_true rfl, Nat.le_of_ble_eq_true rfl⟩ [.int (Ii (xs ((6 * (n : Int)) + 1).toNat)), .int (Ii (xs ((6 * (n : Int)) + 2).toNat)), .int (Ii (xs ((6 * (n : Int)) + 3).toNat))] mv_L_263 hd_X12_growthv kK_286 rfl rfl rfl (Nat.le_of_ble_eq_true rfl) dL_law_2324 (P := fun r M1 => ∃ R', jRg ftR ksR R' ∧ Q0 r R' ∧ M1 = jUpO 286 103 R' (jUp 286 C' M)) ⟨R, Q0, (jUp_R hRm), hRR, ⟨(xs ((6 * (n : Int)) + 1).toNat), (xs ((6 * (n : Int)) + 2).toNat), (xs ((6 * (n : Int)) + 3).toNat), rfl, (hxs _), (hxs _), (hxs _), hw2⟩, fun r R' a b => ⟨R', a, b, rfl⟩⟩ (fun rb M2 grb q => ?_)
    obtain ⟨R', hRR', hq, rfl⟩ := q
    obtain ⟨q0, hRal⟩ := h3 _ R' hq
    refine j_istore (lv' := [(6, .int (Ii rb)), (5, .int (Ii 1)), (0, .ref (ad 910)), (1, .ref (ad 0)), (2, .ref (ad 286)), (3, .ref (ad 389)), (4, .int (Ii (6 * (n : Int))))]) hO dL_law_2327 (by decide) rfl ?_
    refine j_aload_n hO dL_law_2329 rfl 4 rfl ?_
    refine j_callVi hO (lfR hin (c_X12_thrown (l := l) (D := D) (cy := cy) (ad := fun c => ad (286 + c)) (jIn_R hin))) rfl om_2146 ⟨rfl, rfl, Nat.le_of_ble_eq_true rfl, Nat.le_of_ble_eq_true rfl⟩ [] mv_L_149 hd_X12_thrownv kK_286 rfl rfl rfl (Nat.le_of_ble_eq_true rfl) dL_law_2330 (P := fun r M1 => r = R' 0 0 ∧ M1 = jUpO 286 103 R' (jUp 286 C' M)) ⟨R', fun v M' => v = R' 0 0 ∧ M' = R', fun c hc => jUpO_R hc, hRR', ⟨rfl, fun v e1 _ => ⟨e1, rfl⟩⟩, fun r C9 _ b => ⟨b.1, by rw [b.2]; exact jUpO_i⟩⟩ (fun rt M3 grt q => ?_)
    obtain ⟨ert, rfl⟩ := q
    refine j_iload hO dL_law_2333 1 rfl ?_
    refine j_icmp_eq hO 2340 grt rk_1 dL_law_2335 (by decide) (fun _ => ?_) (fun z => absurd (by exact (ert.trans (by simpa using q0))) z)
    refine j_iload hO dL_law_2340 1 rfl ?_
    refine j_if_ne hO 2357 rk_1 dL_law_2342 (by decide) (fun _ => ?_) (fun z => absurd z (by decide))
    refine j_goto hO 3111 dL_law_2357 (by decide) ?_
    exact j_sub hO [2, 3, 4, 5, 6] rfl (hE.2.2 _ _ _ _ _ _ _ _ (by omega) (by omega) (hnext _ (InvL_n hRal hRC' hRR' (fun c hc => jUpO_lo hc) (fun c hc => jUpO_R hc))))
set_option maxHeartbeats 4000000 in
set_option maxRecDepth 100000 in
theorem lc_36 {l : Launch} {D : va_G} {cy : Nat → ClassId} {ad : Nat → Nat} {xs : Nat → Int} {L : Nat} {J : Nat → Nat → Nat → List (Nat × Value) → List Value → MM → Prop} (hst : l.stackTraces = false) (hin : jIn ad ksK.length) (hE : LwE l D cy ad xs L J) (hxs : ∀ j, ri_ (xs j)) {n : Nat} (hn : n < 512) (hL : 6 * n + 6 ≤ L) {M : MM} (hI : InvL n M) (hnext : ∀ M1, InvL (n + 1) M1 → J (390 + 3 * (n + 1)) (571600 + 18 * (n + 1)) 3111 [(0, .ref (ad 910)), (1, .ref (ad 0)), (2, .ref (ad 286)), (3, .ref (ad 389)), (4, .int (Ii (6 * (n : Int))))] [] M1) : J (390 + 3 * n) (571600 + 18 * n) 2360 [(0, .ref (ad 910)), (1, .ref (ad 0)), (2, .ref (ad 286)), (3, .ref (ad 389)), (4, .int (Ii (6 * (n : Int))))] [] M := by
  have gi : ri_ (6 * (n : Int)) := by unfold ri_; omega
  obtain ⟨C, R, hR, hRC, hRR, hC, hRm⟩ := hI
  have hO := hE.1 (390 + 3 * n) (571600 + 18 * n) (by omega) (by omega)
  refine j_aload_n hO dL_law_2360 rfl 1 rfl ?_
  refine j_aload_n hO dL_law_2361 rfl 0 rfl ?_
  refine j_iload hO dL_law_2362 4 rfl ?_
  refine j_iconst hO dL_law_2364 ?_
  refine j_iadd hO dL_law_2365 ?_
  refine j_ti hO XtB_sc (by unfold ri_; omega) (by omega) (by omega) dL_law_2366 ?_
  obtain ⟨Q1, hw1, h2⟩ := v_grown (p1 := (xs ((6 * (n : Int)) + 1).toNat)) (by omega) (by omega) hR
  refine j_callVi hO (lfC hin (c_X11_grown (l := l) (D := D) (cy := cy) (ad := ad) (jIn_w hin))) rfl om_2369 ⟨rfl, rfl, Nat.le_of_ble_eq_true rfl, Nat.le_of_ble_eq_true rfl⟩ [.int (Ii (xs ((6 * (n : Int)) + 1).toNat))] mv_L_264 hd_X11_grownv kK_0 rfl rfl rfl (Nat.le_of_ble_eq_true rfl) dL_law_2367 (P := fun r M1 => ∃ C', jRg ftC ksC C' ∧ Q1 r C' ∧ M1 = jUp 286 C' M) ⟨C, Q1, hC, hRC, ⟨(xs ((6 * (n : Int)) + 1).toNat), rfl, (hxs _), hw1⟩, fun r C' a b => ⟨C', a, b, rfl⟩⟩ (fun ra M1 gra q => ?_)
  obtain ⟨C', hRC', hq, rfl⟩ := q
  obtain ⟨Q0, hw2, h3⟩ := h2 _ C' hq
  refine j_aload_n hO dL_law_2370 rfl 2 rfl ?_
  refine j_aload_n hO dL_law_2371 rfl 0 rfl ?_
  refine j_iload hO dL_law_2372 4 rfl ?_
  refine j_iconst hO dL_law_2374 ?_
  refine j_iadd hO dL_law_2375 ?_
  refine j_ti hO XtB_sc (by unfold ri_; omega) (by omega) (by omega) dL_law_2376 ?_
  refine j_callVi hO (lfR hin (c_X12_grown (l := l) (D := D) (cy := cy) (ad := fun c => ad (286 + c)) (jIn_R hin))) rfl om_2373 ⟨rfl, rfl, Nat.le_of_ble_eq_true rfl, Nat.le_of_ble_eq_true rfl⟩ [.int (Ii (xs ((6 * (n : Int)) + 1).toNat))] mv_L_267 hd_X12_grownv kK_286 rfl rfl rfl (Nat.le_of_ble_eq_true rfl) dL_law_2377 (P := fun r M1 => ∃ R', jRg ftR ksR R' ∧ Q0 r R' ∧ M1 = jUpO 286 103 R' (jUp 286 C' M)) ⟨R, Q0, (jUp_R hRm), hRR, ⟨(xs ((6 * (n : Int)) + 1).toNat), rfl, (hxs _), hw2⟩, fun r R' a b => ⟨R', a, b, rfl⟩⟩ (fun rb M2 grb q => ?_)
  obtain ⟨R', hRR', hq, rfl⟩ := q
  obtain ⟨q1, hRal⟩ := h3 _ R' hq
  refine j_icmp_eq hO 3111 gra grb dL_law_2380 (by decide) (fun _ => ?_) (fun z => absurd (by exact q1) z)
  exact j_sub hO [0, 1, 2, 3, 4] rfl (hE.2.2 _ _ _ _ _ _ _ _ (by omega) (by omega) (hnext _ (InvL_n hRal hRC' hRR' (fun c hc => jUpO_lo hc) (fun c hc => jUpO_R hc))))
set_option maxHeartbeats 4000000 in
set_option maxRecDepth 100000 in
theorem lc_37 {l : Launch} {D : va_G} {cy : Nat → ClassId} {ad : Nat → Nat} {xs : Nat → Int} {L : Nat} {J : Nat → Nat → Nat → List (Nat × Value) → List Value → MM → Prop} (hst : l.stackTraces = false) (hin : jIn ad ksK.length) (hE : LwE l D cy ad xs L J) (hxs : ∀ j, ri_ (xs j)) {n : Nat} (hn : n < 512) (hL : 6 * n + 6 ≤ L) {M : MM} (hI : InvL n M) (hnext : ∀ M1, InvL (n + 1) M1 → J (390 + 3 * (n + 1)) (571600 + 18 * (n + 1)) 3111 [(0, .ref (ad 910)), (1, .ref (ad 0)), (2, .ref (ad 286)), (3, .ref (ad 389)), (4, .int (Ii (6 * (n : Int))))] [] M1) : J (390 + 3 * n) (571600 + 18 * n) 2385 [(0, .ref (ad 910)), (1, .ref (ad 0)), (2, .ref (ad 286)), (3, .ref (ad 389)), (4, .int (Ii (6 * (n : Int))))] [] M := by
  have gi : ri_ (6 * (n : Int)) := by unfold ri_; omega
  obtain ⟨C, R, hR, hRC, hRR, hC, hRm⟩ := hI
  have hO := hE.1 (390 + 3 * n) (571600 + 18 * n) (by omega) (by omega)
  refine j_aload_n hO dL_law_2385 rfl 1 rfl ?_
  refine j_aload_n hO dL_law_2386 rfl 0 rfl ?_
  refine j_iload hO dL_law_2387 4 rfl ?_
  refine j_iconst hO dL_law_2389 ?_
  refine j_iadd hO dL_law_2390 ?_
  refine j_ti hO XtB_sc (by unfold ri_; omega) (by omega) (by omega) dL_law_2391 ?_
  refine j_aload_n hO dL_law_2392 rfl 0 rfl ?_
  refine j_iload hO dL_law_2393 4 rfl ?_
  refine j_iconst hO dL_law_2395 ?_
  refine j_iadd hO dL_law_2396 ?_
  refine j_ti hO XtB_sc (by unfold ri_; omega) (by omega) (by omega) dL_law_2397 ?_
  refine j_aload_n hO dL_law_2398 rfl 0 rfl ?_
  refine j_iload hO dL_law_2399 4 rfl ?_
  refine j_iconst hO dL_law_2401 ?_
  refine j_iadd hO dL_law_2402 ?_
  refine j_ti hO XtB_sc (by unfold ri_; omega) (by omega) (by omega) dL_law_2403 ?_
  refine j_aload_n hO dL_law_2404 rfl 0 rfl ?_
  refine j_iload hO dL_law_2405 4 rfl ?_
  refine j_iconst hO dL_law_2407 ?_
  refine j_iadd hO dL_law_2408 ?_
  refine j_ti hO XtB_sc (by unfold ri_; omega) (by omega) (by omega) dL_law_2409 ?_
  refine j_aload_n hO dL_law_2410 rfl 3 rfl ?_
  obtain ⟨Q1, X1, hw1, h2, h4⟩ := v_like (p1 := (xs ((6 * (n : Int)) + 1).toNat)) (p2 := (xs ((6 * (n : Int)) + 2).toNat)) (p3 := (xs ((6 * (n : Int)) + 3).toNat)) (p4 := (xs ((6 * (n : Int)) + 4).toNat)) (by omega) (by omega) hR
  have hWL : WL_like ad (fun r M1 => ∃ C', jRg ftC ksC C' ∧ ((∃ r1, r = 0 ∧ Q1 r1 C' ∧ M1 = (ux_ (jUp 286 C' M) 389 0 r1)) ∨ (r = 1 ∧ X1 "java/util/NoSuchElementException" C' ∧ M1 = jUp 286 C' M))) [.ref (ad 0), .int (Ii (xs ((6 * (n : Int)) + 1).toNat)), .int (Ii (xs ((6 * (n : Int)) + 2).toNat)), .int (Ii (xs ((6 * (n : Int)) + 3).toNat)), .int (Ii (xs ((6 * (n : Int)) + 4).toNat)), .ref (ad 389)] M := by
    refine ⟨(xs ((6 * (n : Int)) + 1).toNat), (xs ((6 * (n : Int)) + 2).toNat), (xs ((6 * (n : Int)) + 3).toNat), (xs ((6 * (n : Int)) + 4).toNat), rfl, (hxs _), (hxs _), (hxs _), (hxs _), ⟨C, Q1, X1, hC, hRC, hw1, fun r1 C' a b => ⟨C', a, Or.inl ⟨r1, rfl, b, rfl⟩⟩, fun E C' a m b => ?_⟩⟩
    simp only [List.mem_cons, List.not_mem_nil, or_false] at m
    rcases m with rfl
    · exact ⟨rfl, C', a, Or.inr (⟨rfl, b, rfl⟩)⟩
  refine hE.2.1 _ _ 1 6 (by omega) (by omega) _ _ _ _ _ _ _ _ _ _ _ [.ref (ad 0), .int (Ii (xs ((6 * (n : Int)) + 1).toNat)), .int (Ii (xs ((6 * (n : Int)) + 2).toNat)), .int (Ii (xs ((6 * (n : Int)) + 3).toNat)), .int (Ii (xs ((6 * (n : Int)) + 4).toNat)), .ref (ad 389)] _ _ _ (cl_like (l := l) (D := D) (cy := cy) (xs := xs) (L := L) hst hin) rfl om_2377 ⟨rfl, rfl, Nat.le_of_ble_eq_true rfl, Nat.le_of_ble_eq_true rfl⟩ mv_L_268 hd_L_like rfl (Nat.le_of_ble_eq_true rfl) dL_law_2411 hWL (fun rk1 M1 grk q => ?_)
  have hO := hE.1 (390 + 3 * n + 1) (571600 + 18 * n + 6) (by omega) (by omega)
  obtain ⟨C', hRC', q⟩ := q
  rcases q with ⟨r1, rfl, hq, rfl⟩ | ⟨rfl, hq, rfl⟩
  · obtain ⟨Q0, hw2, h3⟩ := h2 _ C' hq
    refine j_istore (lv' := [(5, .int (Ii 0)), (0, .ref (ad 910)), (1, .ref (ad 0)), (2, .ref (ad 286)), (3, .ref (ad 389)), (4, .int (Ii (6 * (n : Int))))]) hO dL_law_2414 (by decide) rfl ?_
    refine j_aload_n hO dL_law_2416 rfl 3 rfl ?_
    refine j_aload_n hO dL_law_2417 rfl 1 rfl ?_
    refine j_iload hO dL_law_2418 5 rfl ?_
    refine j_iconst hO dL_law_2420 ?_
    refine j_iadd hO dL_law_2421 ?_
    refine j_ti hO XtB_sc (by unfold ri_; omega) (by omega) (by omega) dL_law_2422 ?_
    refine j_aload_n hO dL_law_2423 rfl 1 rfl ?_
    refine j_iload hO dL_law_2424 5 rfl ?_
    refine j_iconst hO dL_law_2426 ?_
    refine j_iadd hO dL_law_2427 ?_
    refine j_ti hO XtB_sc (by unfold ri_; omega) (by omega) (by omega) dL_law_2428 ?_
    refine j_aload_n hO dL_law_2429 rfl 1 rfl ?_
    refine j_iload hO dL_law_2430 5 rfl ?_
    refine j_iconst hO dL_law_2432 ?_
    refine j_iadd hO dL_law_2433 ?_
    refine j_ti hO XtB_sc (by unfold ri_; omega) (by omega) (by omega) dL_law_2434 ?_
    refine j_aload_n hO dL_law_2435 rfl 1 rfl ?_
    refine j_iload hO dL_law_2436 5 rfl ?_
    refine j_iconst hO dL_law_2438 ?_
    refine j_iadd hO dL_law_2439 ?_
    refine j_ti hO XtB_sc (by unfold ri_; omega) (by omega) (by omega) dL_law_2440 ?_
    refine j_callVz hO (lfR hin (c_X12_like (l := l) (D := D) (cy := cy) (ad := fun c => ad (286 + c)) (jIn_R hin))) rfl om_2380 ⟨rfl, rfl, Nat.le_of_ble_eq_true rfl, Nat.le_of_ble_eq_true rfl⟩ [.int (Ii (xs ((6 * (n : Int)) + 1).toNat)), .int (Ii (xs ((6 * (n : Int)) + 2).toNat)), .int (Ii (xs ((6 * (n : Int)) + 3).toNat)), .int (Ii (xs ((6 * (n : Int)) + 4).toNat))] mv_L_270 hd_X12_likev kK_286 rfl rfl rfl (Nat.le_of_ble_eq_true rfl) dL_law_2441 (P := fun r M1 => ∃ R', jRg ftR ksR R' ∧ Q0 r R' ∧ M1 = jUpO 286 103 R' (ux_ (jUp 286 C' M) 389 0 r1)) ⟨R, Q0, (jUp_U hRm), hRR, ⟨(xs ((6 * (n : Int)) + 1).toNat), (xs ((6 * (n : Int)) + 2).toNat), (xs ((6 * (n : Int)) + 3).toNat), (xs ((6 * (n : Int)) + 4).toNat), rfl, (hxs _), (hxs _), (hxs _), (hxs _), hw2⟩, fun r R' a b => ⟨R', a, b, rfl⟩⟩ (fun rb M2 grb q => ?_)
    obtain ⟨R', hRR', hq, rfl⟩ := q
    obtain ⟨q1, q0, hRal⟩ := h3 _ R' hq
    refine j_istore (lv' := [(6, .int (Ii rb)), (5, .int (Ii 0)), (0, .ref (ad 910)), (1, .ref (ad 0)), (2, .ref (ad 286)), (3, .ref (ad 389)), (4, .int (Ii (6 * (n : Int))))]) hO dL_law_2444 (by decide) rfl ?_
    refine j_aload_n hO dL_law_2446 rfl 4 rfl ?_
    refine j_callVi hO (lfR hin (c_X12_thrown (l := l) (D := D) (cy := cy) (ad := fun c => ad (286 + c)) (jIn_R hin))) rfl om_2146 ⟨rfl, rfl, Nat.le_of_ble_eq_true rfl, Nat.le_of_ble_eq_true rfl⟩ [] mv_L_149 hd_X12_thrownv kK_286 rfl rfl rfl (Nat.le_of_ble_eq_true rfl) dL_law_2447 (P := fun r M1 => r = R' 0 0 ∧ M1 = jUpO 286 103 R' (ux_ (jUp 286 C' M) 389 0 r1)) ⟨R', fun v M' => v = R' 0 0 ∧ M' = R', fun c hc => jUpO_R hc, hRR', ⟨rfl, fun v e1 _ => ⟨e1, rfl⟩⟩, fun r C9 _ b => ⟨b.1, by rw [b.2]; exact jUpO_i⟩⟩ (fun rt M3 grt q => ?_)
    obtain ⟨ert, rfl⟩ := q
    refine j_iload hO dL_law_2450 1 rfl ?_
    refine j_icmp_eq hO 2457 grt rk_0 dL_law_2452 (by decide) (fun _ => ?_) (fun z => absurd (by exact (ert.trans q0)) z)
    refine j_iload hO dL_law_2457 1 rfl ?_
    refine j_if_ne hO 2481 rk_0 dL_law_2459 (by decide) (fun z => absurd z (by decide)) (fun _ => ?_)
    refine j_aload_n hO dL_law_2462 rfl 5 rfl ?_
    refine j_iconst hO dL_law_2463 ?_
    refine j_lald hO rk_0 kK_389 (by decide) (by decide) dL_law_2464 (fun v2464 ev2464 gv2464 => ?_)
    refine j_iload hO dL_law_2465 0 rfl ?_
    rcases grb with rfl | rfl
    · refine j_if_eq hO 2474 rk_0 dL_law_2467 (by decide) (fun _ => ?_) (fun z => absurd rfl z)
      refine j_lconst (x := 0) hO dL_law_2474 rfl ?_
      refine j_lcmp_eq hO 2481 gv2464 lkm_0 dL_law_2475 dL_law_2476 (by decide) (fun _ => ?_) (fun z => absurd (by rw [ev2464]; exact (jUpO_o 389 (by decide)).trans ((ux_s _ _ _ _).trans q1)) z)
      refine j_goto hO 3111 dL_law_2481 (by decide) ?_
      exact j_sub hO [2, 3, 4, 5, 6] rfl (hE.2.2 _ _ _ _ _ _ _ _ (by omega) (by omega) (hnext _ (InvL_n hRal hRC' hRR' (fun c hc => jUpO_lu hc) (fun c hc => jUpO_R hc))))
    · refine j_if_eq hO 2474 rk_1 dL_law_2467 (by decide) (fun z => absurd z (by decide)) (fun _ => ?_)
      refine j_lconst (x := 1) hO dL_law_2470 rfl ?_
      refine j_goto hO 2475 dL_law_2471 (by decide) ?_
      refine j_lcmp_eq hO 2481 gv2464 lk_1 dL_law_2475 dL_law_2476 (by decide) (fun _ => ?_) (fun z => absurd (by rw [ev2464]; exact (jUpO_o 389 (by decide)).trans ((ux_s _ _ _ _).trans q1)) z)
      refine j_goto hO 3111 dL_law_2481 (by decide) ?_
      exact j_sub hO [2, 3, 4, 5, 6] rfl (hE.2.2 _ _ _ _ _ _ _ _ (by omega) (by omega) (hnext _ (InvL_n hRal hRC' hRR' (fun c hc => jUpO_lu hc) (fun c hc => jUpO_R hc))))
  · obtain ⟨Q0, hw2, h3⟩ := h4 _ C' hq
    refine j_istore (lv' := [(5, .int (Ii 1)), (0, .ref (ad 910)), (1, .ref (ad 0)), (2, .ref (ad 286)), (3, .ref (ad 389)), (4, .int (Ii (6 * (n : Int))))]) hO dL_law_2414 (by decide) rfl ?_
    refine j_aload_n hO dL_law_2416 rfl 3 rfl ?_
    refine j_aload_n hO dL_law_2417 rfl 1 rfl ?_
    refine j_iload hO dL_law_2418 5 rfl ?_
    refine j_iconst hO dL_law_2420 ?_
    refine j_iadd hO dL_law_2421 ?_
    refine j_ti hO XtB_sc (by unfold ri_; omega) (by omega) (by omega) dL_law_2422 ?_
    refine j_aload_n hO dL_law_2423 rfl 1 rfl ?_
    refine j_iload hO dL_law_2424 5 rfl ?_
    refine j_iconst hO dL_law_2426 ?_
    refine j_iadd hO dL_law_2427 ?_
    refine j_ti hO XtB_sc (by unfold ri_; omega) (by omega) (by omega) dL_law_2428 ?_
    refine j_aload_n hO dL_law_2429 rfl 1 rfl ?_
    refine j_iload hO dL_law_2430 5 rfl ?_
    refine j_iconst hO dL_law_2432 ?_
    refine j_iadd hO dL_law_2433 ?_
    refine j_ti hO XtB_sc (by unfold ri_; omega) (by omega) (by omega) dL_law_2434 ?_
    refine j_aload_n hO dL_law_2435 rfl 1 rfl ?_
    refine j_iload hO dL_law_2436 5 rfl ?_
    refine j_iconst hO dL_law_2438 ?_
    refine j_iadd hO dL_law_2439 ?_
    refine j_ti hO XtB_sc (by unfold ri_; omega) (by omega) (by omega) dL_law_2440 ?_
    refine j_callVz hO (lfR hin (c_X12_like (l := l) (D := D) (cy := cy) (ad := fun c => ad (286 + c)) (jIn_R hin))) rfl om_2380 ⟨rfl, rfl, Nat.le_of_ble_eq_true rfl, Nat.le_of_ble_eq_true rfl⟩ [.int (Ii (xs ((6 * (n : Int)) + 1).toNat)), .int (Ii (xs ((6 * (n : Int)) + 2).toNat)), .int (Ii (xs ((6 * (n : Int)) + 3).toNat)), .int (Ii (xs ((6 * (n : Int)) + 4).toNat))] mv_L_270 hd_X12_likev kK_286 rfl rfl rfl (Nat.le_of_ble_eq_true rfl) dL_law_2441 (P := fun r M1 => ∃ R', jRg ftR ksR R' ∧ Q0 r R' ∧ M1 = jUpO 286 103 R' (jUp 286 C' M)) ⟨R, Q0, (jUp_R hRm), hRR, ⟨(xs ((6 * (n : Int)) + 1).toNat), (xs ((6 * (n : Int)) + 2).toNat), (xs ((6 * (n : Int)) + 3).toNat), (xs ((6 * (n : Int)) + 4).toNat), rfl, (hxs _), (hxs _), (hxs _), (hxs _), hw2⟩, fun r R' a b => ⟨R', a, b, rfl⟩⟩ (fun rb M2 grb q => ?_)
    obtain ⟨R', hRR', hq, rfl⟩ := q
    obtain ⟨q0, hRal⟩ := h3 _ R' hq
    refine j_istore (lv' := [(6, .int (Ii rb)), (5, .int (Ii 1)), (0, .ref (ad 910)), (1, .ref (ad 0)), (2, .ref (ad 286)), (3, .ref (ad 389)), (4, .int (Ii (6 * (n : Int))))]) hO dL_law_2444 (by decide) rfl ?_
    refine j_aload_n hO dL_law_2446 rfl 4 rfl ?_
    refine j_callVi hO (lfR hin (c_X12_thrown (l := l) (D := D) (cy := cy) (ad := fun c => ad (286 + c)) (jIn_R hin))) rfl om_2146 ⟨rfl, rfl, Nat.le_of_ble_eq_true rfl, Nat.le_of_ble_eq_true rfl⟩ [] mv_L_149 hd_X12_thrownv kK_286 rfl rfl rfl (Nat.le_of_ble_eq_true rfl) dL_law_2447 (P := fun r M1 => r = R' 0 0 ∧ M1 = jUpO 286 103 R' (jUp 286 C' M)) ⟨R', fun v M' => v = R' 0 0 ∧ M' = R', fun c hc => jUpO_R hc, hRR', ⟨rfl, fun v e1 _ => ⟨e1, rfl⟩⟩, fun r C9 _ b => ⟨b.1, by rw [b.2]; exact jUpO_i⟩⟩ (fun rt M3 grt q => ?_)
    obtain ⟨ert, rfl⟩ := q
    refine j_iload hO dL_law_2450 1 rfl ?_
    refine j_icmp_eq hO 2457 grt rk_1 dL_law_2452 (by decide) (fun _ => ?_) (fun z => absurd (by exact (ert.trans (by simpa using q0))) z)
    refine j_iload hO dL_law_2457 1 rfl ?_
    refine j_if_ne hO 2481 rk_1 dL_law_2459 (by decide) (fun _ => ?_) (fun z => absurd z (by decide))
    refine j_goto hO 3111 dL_law_2481 (by decide) ?_
    exact j_sub hO [2, 3, 4, 5, 6] rfl (hE.2.2 _ _ _ _ _ _ _ _ (by omega) (by omega) (hnext _ (InvL_n hRal hRC' hRR' (fun c hc => jUpO_lo hc) (fun c hc => jUpO_R hc))))
set_option maxHeartbeats 4000000 in
set_option maxRecDepth 100000 in
theorem lc_38 {l : Launch} {D : va_G} {cy : Nat → ClassId} {ad : Nat → Nat} {xs : Nat → Int} {L : Nat} {J : Nat → Nat → Nat → List (Nat × Value) → List Value → MM → Prop} (hst : l.stackTraces = false) (hin : jIn ad ksK.length) (hE : LwE l D cy ad xs L J) (hxs : ∀ j, ri_ (xs j)) {n : Nat} (hn : n < 512) (hL : 6 * n + 6 ≤ L) {M : MM} (hI : InvL n M) (hnext : ∀ M1, InvL (n + 1) M1 → J (390 + 3 * (n + 1)) (571600 + 18 * (n + 1)) 3111 [(0, .ref (ad 910)), (1, .ref (ad 0)), (2, .ref (ad 286)), (3, .ref (ad 389)), (4, .int (Ii (6 * (n : Int))))] [] M1) : J (390 + 3 * n) (571600 + 18 * n) 2484 [(0, .ref (ad 910)), (1, .ref (ad 0)), (2, .ref (ad 286)), (3, .ref (ad 389)), (4, .int (Ii (6 * (n : Int))))] [] M := by
  have gi : ri_ (6 * (n : Int)) := by unfold ri_; omega
  obtain ⟨C, R, hR, hRC, hRR, hC, hRm⟩ := hI
  have hO := hE.1 (390 + 3 * n) (571600 + 18 * n) (by omega) (by omega)
  refine j_aload_n hO dL_law_2484 rfl 1 rfl ?_
  refine j_aload_n hO dL_law_2485 rfl 0 rfl ?_
  refine j_iload hO dL_law_2486 4 rfl ?_
  refine j_iconst hO dL_law_2488 ?_
  refine j_iadd hO dL_law_2489 ?_
  refine j_ti hO XtB_sc (by unfold ri_; omega) (by omega) (by omega) dL_law_2490 ?_
  refine j_aload_n hO dL_law_2491 rfl 3 rfl ?_
  obtain ⟨Q1, X1, hw1, h2, h4⟩ := v_ask (p1 := (xs ((6 * (n : Int)) + 1).toNat)) (by omega) (by omega) hR
  have hWL : WL_ask ad (fun r M1 => ∃ C', jRg ftC ksC C' ∧ ((∃ r1, r = 0 ∧ Q1 r1 C' ∧ M1 = (ux_ (jUp 286 C' M) 389 0 r1)) ∨ (r = 1 ∧ X1 "java/lang/IndexOutOfBoundsException" C' ∧ M1 = jUp 286 C' M) ∨ (r = 2 ∧ X1 "java/lang/IllegalArgumentException" C' ∧ M1 = jUp 286 C' M))) [.ref (ad 0), .int (Ii (xs ((6 * (n : Int)) + 1).toNat)), .ref (ad 389)] M := by
    refine ⟨(xs ((6 * (n : Int)) + 1).toNat), rfl, (hxs _), ⟨C, Q1, X1, hC, hRC, hw1, fun r1 C' a b => ⟨C', a, Or.inl ⟨r1, rfl, b, rfl⟩⟩, fun E C' a m b => ?_⟩⟩
    simp only [List.mem_cons, List.not_mem_nil, or_false] at m
    rcases m with rfl | rfl
    · exact Or.inr (⟨rfl, C', a, Or.inr (Or.inr (⟨rfl, b, rfl⟩))⟩)
    · exact Or.inl ⟨rfl, C', a, Or.inr (Or.inl ⟨rfl, b, rfl⟩)⟩
  refine hE.2.1 _ _ 2 12 (by omega) (by omega) _ _ _ _ _ _ _ _ _ _ _ [.ref (ad 0), .int (Ii (xs ((6 * (n : Int)) + 1).toNat)), .ref (ad 389)] _ _ _ (cl_ask (l := l) (D := D) (cy := cy) (xs := xs) (L := L) hst hin) rfl om_2384 ⟨rfl, rfl, Nat.le_of_ble_eq_true rfl, Nat.le_of_ble_eq_true rfl⟩ mv_L_271 hd_L_ask rfl (Nat.le_of_ble_eq_true rfl) dL_law_2492 hWL (fun rk1 M1 grk q => ?_)
  have hO := hE.1 (390 + 3 * n + 2) (571600 + 18 * n + 12) (by omega) (by omega)
  obtain ⟨C', hRC', q⟩ := q
  rcases q with ⟨r1, rfl, hq, rfl⟩ | ⟨rfl, hq, rfl⟩ | ⟨rfl, hq, rfl⟩
  · obtain ⟨Q0, hw2, h3⟩ := h2 _ C' hq
    refine j_istore (lv' := [(5, .int (Ii 0)), (0, .ref (ad 910)), (1, .ref (ad 0)), (2, .ref (ad 286)), (3, .ref (ad 389)), (4, .int (Ii (6 * (n : Int))))]) hO dL_law_2495 (by decide) rfl ?_
    refine j_aload_n hO dL_law_2497 rfl 3 rfl ?_
    refine j_aload_n hO dL_law_2498 rfl 1 rfl ?_
    refine j_iload hO dL_law_2499 5 rfl ?_
    refine j_iconst hO dL_law_2501 ?_
    refine j_iadd hO dL_law_2502 ?_
    refine j_ti hO XtB_sc (by unfold ri_; omega) (by omega) (by omega) dL_law_2503 ?_
    refine j_callVi hO (lfR hin (c_X12_ask (l := l) (D := D) (cy := cy) (ad := fun c => ad (286 + c)) (jIn_R hin))) rfl om_2387 ⟨rfl, rfl, Nat.le_of_ble_eq_true rfl, Nat.le_of_ble_eq_true rfl⟩ [.int (Ii (xs ((6 * (n : Int)) + 1).toNat))] mv_L_273 hd_X12_askv kK_286 rfl rfl rfl (Nat.le_of_ble_eq_true rfl) dL_law_2504 (P := fun r M1 => ∃ R', jRg ftR ksR R' ∧ Q0 r R' ∧ M1 = jUpO 286 103 R' (ux_ (jUp 286 C' M) 389 0 r1)) ⟨R, Q0, (jUp_U hRm), hRR, ⟨(xs ((6 * (n : Int)) + 1).toNat), rfl, (hxs _), hw2⟩, fun r R' a b => ⟨R', a, b, rfl⟩⟩ (fun rb M2 grb q => ?_)
    obtain ⟨R', hRR', hq, rfl⟩ := q
    obtain ⟨q1, q0, hRal⟩ := h3 _ R' hq
    refine j_istore (lv' := [(6, .int (Ii rb)), (5, .int (Ii 0)), (0, .ref (ad 910)), (1, .ref (ad 0)), (2, .ref (ad 286)), (3, .ref (ad 389)), (4, .int (Ii (6 * (n : Int))))]) hO dL_law_2507 (by decide) rfl ?_
    refine j_aload_n hO dL_law_2509 rfl 4 rfl ?_
    refine j_callVi hO (lfR hin (c_X12_thrown (l := l) (D := D) (cy := cy) (ad := fun c => ad (286 + c)) (jIn_R hin))) rfl om_2146 ⟨rfl, rfl, Nat.le_of_ble_eq_true rfl, Nat.le_of_ble_eq_true rfl⟩ [] mv_L_149 hd_X12_thrownv kK_286 rfl rfl rfl (Nat.le_of_ble_eq_true rfl) dL_law_2510 (P := fun r M1 => r = R' 0 0 ∧ M1 = jUpO 286 103 R' (ux_ (jUp 286 C' M) 389 0 r1)) ⟨R', fun v M' => v = R' 0 0 ∧ M' = R', fun c hc => jUpO_R hc, hRR', ⟨rfl, fun v e1 _ => ⟨e1, rfl⟩⟩, fun r C9 _ b => ⟨b.1, by rw [b.2]; exact jUpO_i⟩⟩ (fun rt M3 grt q => ?_)
    obtain ⟨ert, rfl⟩ := q
    refine j_iload hO dL_law_2513 1 rfl ?_
    refine j_icmp_eq hO 2520 grt rk_0 dL_law_2515 (by decide) (fun _ => ?_) (fun z => absurd (by exact (ert.trans q0)) z)
    refine j_iload hO dL_law_2520 1 rfl ?_
    refine j_if_ne hO 2537 rk_0 dL_law_2522 (by decide) (fun z => absurd z (by decide)) (fun _ => ?_)
    refine j_aload_n hO dL_law_2525 rfl 5 rfl ?_
    refine j_iconst hO dL_law_2526 ?_
    refine j_lald hO rk_0 kK_389 (by decide) (by decide) dL_law_2527 (fun v2527 ev2527 gv2527 => ?_)
    refine j_iload hO dL_law_2528 0 rfl ?_
    refine j_i2l hO grb dL_law_2530 ?_
    refine j_lcmp_eq hO 2537 gv2527 (rl_ri grb) dL_law_2531 dL_law_2532 (by decide) (fun _ => ?_) (fun z => absurd (by rw [ev2527]; exact (jUpO_o 389 (by decide)).trans ((ux_s _ _ _ _).trans q1)) z)
    refine j_goto hO 3111 dL_law_2537 (by decide) ?_
    exact j_sub hO [2, 3, 4, 5, 6] rfl (hE.2.2 _ _ _ _ _ _ _ _ (by omega) (by omega) (hnext _ (InvL_n hRal hRC' hRR' (fun c hc => jUpO_lu hc) (fun c hc => jUpO_R hc))))
  · obtain ⟨Q0, hw2, h3⟩ := h4 _ C' hq
    refine j_istore (lv' := [(5, .int (Ii 1)), (0, .ref (ad 910)), (1, .ref (ad 0)), (2, .ref (ad 286)), (3, .ref (ad 389)), (4, .int (Ii (6 * (n : Int))))]) hO dL_law_2495 (by decide) rfl ?_
    refine j_aload_n hO dL_law_2497 rfl 3 rfl ?_
    refine j_aload_n hO dL_law_2498 rfl 1 rfl ?_
    refine j_iload hO dL_law_2499 5 rfl ?_
    refine j_iconst hO dL_law_2501 ?_
    refine j_iadd hO dL_law_2502 ?_
    refine j_ti hO XtB_sc (by unfold ri_; omega) (by omega) (by omega) dL_law_2503 ?_
    refine j_callVi hO (lfR hin (c_X12_ask (l := l) (D := D) (cy := cy) (ad := fun c => ad (286 + c)) (jIn_R hin))) rfl om_2387 ⟨rfl, rfl, Nat.le_of_ble_eq_true rfl, Nat.le_of_ble_eq_true rfl⟩ [.int (Ii (xs ((6 * (n : Int)) + 1).toNat))] mv_L_273 hd_X12_askv kK_286 rfl rfl rfl (Nat.le_of_ble_eq_true rfl) dL_law_2504 (P := fun r M1 => ∃ R', jRg ftR ksR R' ∧ Q0 r R' ∧ M1 = jUpO 286 103 R' (jUp 286 C' M)) ⟨R, Q0, (jUp_R hRm), hRR, ⟨(xs ((6 * (n : Int)) + 1).toNat), rfl, (hxs _), hw2⟩, fun r R' a b => ⟨R', a, b, rfl⟩⟩ (fun rb M2 grb q => ?_)
    obtain ⟨R', hRR', hq, rfl⟩ := q
    obtain ⟨q0, hRal⟩ := h3 _ R' hq
    refine j_istore (lv' := [(6, .int (Ii rb)), (5, .int (Ii 1)), (0, .ref (ad 910)), (1, .ref (ad 0)), (2, .ref (ad 286)), (3, .ref (ad 389)), (4, .int (Ii (6 * (n : Int))))]) hO dL_law_2507 (by decide) rfl ?_
    refine j_aload_n hO dL_law_2509 rfl 4 rfl ?_
    refine j_callVi hO (lfR hin (c_X12_thrown (l := l) (D := D) (cy := cy) (ad := fun c => ad (286 + c)) (jIn_R hin))) rfl om_2146 ⟨rfl, rfl, Nat.le_of_ble_eq_true rfl, Nat.le_of_ble_eq_true rfl⟩ [] mv_L_149 hd_X12_thrownv kK_286 rfl rfl rfl (Nat.le_of_ble_eq_true rfl) dL_law_2510 (P := fun r M1 => r = R' 0 0 ∧ M1 = jUpO 286 103 R' (jUp 286 C' M)) ⟨R', fun v M' => v = R' 0 0 ∧ M' = R', fun c hc => jUpO_R hc, hRR', ⟨rfl, fun v e1 _ => ⟨e1, rfl⟩⟩, fun r C9 _ b => ⟨b.1, by rw [b.2]; exact jUpO_i⟩⟩ (fun rt M3 grt q => ?_)
    obtain ⟨ert, rfl⟩ := q
    refine j_iload hO dL_law_2513 1 rfl ?_
    refine j_icmp_eq hO 2520 grt rk_1 dL_law_2515 (by decide) (fun _ => ?_) (fun z => absurd (by exact (ert.trans (by simpa using q0))) z)
    refine j_iload hO dL_law_2520 1 rfl ?_
    refine j_if_ne hO 2537 rk_1 dL_law_2522 (by decide) (fun _ => ?_) (fun z => absurd z (by decide))
    refine j_goto hO 3111 dL_law_2537 (by decide) ?_
    exact j_sub hO [2, 3, 4, 5, 6] rfl (hE.2.2 _ _ _ _ _ _ _ _ (by omega) (by omega) (hnext _ (InvL_n hRal hRC' hRR' (fun c hc => jUpO_lo hc) (fun c hc => jUpO_R hc))))
  · obtain ⟨Q0, hw2, h3⟩ := h4 _ C' hq
    refine j_istore (lv' := [(5, .int (Ii 2)), (0, .ref (ad 910)), (1, .ref (ad 0)), (2, .ref (ad 286)), (3, .ref (ad 389)), (4, .int (Ii (6 * (n : Int))))]) hO dL_law_2495 (by decide) rfl ?_
    refine j_aload_n hO dL_law_2497 rfl 3 rfl ?_
    refine j_aload_n hO dL_law_2498 rfl 1 rfl ?_
    refine j_iload hO dL_law_2499 5 rfl ?_
    refine j_iconst hO dL_law_2501 ?_
    refine j_iadd hO dL_law_2502 ?_
    refine j_ti hO XtB_sc (by unfold ri_; omega) (by omega) (by omega) dL_law_2503 ?_
    refine j_callVi hO (lfR hin (c_X12_ask (l := l) (D := D) (cy := cy) (ad := fun c => ad (286 + c)) (jIn_R hin))) rfl om_2387 ⟨rfl, rfl, Nat.le_of_ble_eq_true rfl, Nat.le_of_ble_eq_true rfl⟩ [.int (Ii (xs ((6 * (n : Int)) + 1).toNat))] mv_L_273 hd_X12_askv kK_286 rfl rfl rfl (Nat.le_of_ble_eq_true rfl) dL_law_2504 (P := fun r M1 => ∃ R', jRg ftR ksR R' ∧ Q0 r R' ∧ M1 = jUpO 286 103 R' (jUp 286 C' M)) ⟨R, Q0, (jUp_R hRm), hRR, ⟨(xs ((6 * (n : Int)) + 1).toNat), rfl, (hxs _), hw2⟩, fun r R' a b => ⟨R', a, b, rfl⟩⟩ (fun rb M2 grb q => ?_)
    obtain ⟨R', hRR', hq, rfl⟩ := q
    obtain ⟨q0, hRal⟩ := h3 _ R' hq
    refine j_istore (lv' := [(6, .int (Ii rb)), (5, .int (Ii 2)), (0, .ref (ad 910)), (1, .ref (ad 0)), (2, .ref (ad 286)), (3, .ref (ad 389)), (4, .int (Ii (6 * (n : Int))))]) hO dL_law_2507 (by decide) rfl ?_
    refine j_aload_n hO dL_law_2509 rfl 4 rfl ?_
    refine j_callVi hO (lfR hin (c_X12_thrown (l := l) (D := D) (cy := cy) (ad := fun c => ad (286 + c)) (jIn_R hin))) rfl om_2146 ⟨rfl, rfl, Nat.le_of_ble_eq_true rfl, Nat.le_of_ble_eq_true rfl⟩ [] mv_L_149 hd_X12_thrownv kK_286 rfl rfl rfl (Nat.le_of_ble_eq_true rfl) dL_law_2510 (P := fun r M1 => r = R' 0 0 ∧ M1 = jUpO 286 103 R' (jUp 286 C' M)) ⟨R', fun v M' => v = R' 0 0 ∧ M' = R', fun c hc => jUpO_R hc, hRR', ⟨rfl, fun v e1 _ => ⟨e1, rfl⟩⟩, fun r C9 _ b => ⟨b.1, by rw [b.2]; exact jUpO_i⟩⟩ (fun rt M3 grt q => ?_)
    obtain ⟨ert, rfl⟩ := q
    refine j_iload hO dL_law_2513 1 rfl ?_
    refine j_icmp_eq hO 2520 grt rk_2 dL_law_2515 (by decide) (fun _ => ?_) (fun z => absurd (by exact (ert.trans (by simpa using q0))) z)
    refine j_iload hO dL_law_2520 1 rfl ?_
    refine j_if_ne hO 2537 rk_2 dL_law_2522 (by decide) (fun _ => ?_) (fun z => absurd z (by decide))
    refine j_goto hO 3111 dL_law_2537 (by decide) ?_
    exact j_sub hO [2, 3, 4, 5, 6] rfl (hE.2.2 _ _ _ _ _ _ _ _ (by omega) (by omega) (hnext _ (InvL_n hRal hRC' hRR' (fun c hc => jUpO_lo hc) (fun c hc => jUpO_R hc))))
set_option maxHeartbeats 4000000 in
set_option maxRecDepth 100000 in
theorem lc_39 {l : Launch} {D : va_G} {cy : Nat → ClassId} {ad : Nat → Nat} {xs : Nat → Int} {L : Nat} {J : Nat → Nat → Nat → List (Nat × Value) → List Value → MM → Prop} (hst : l.stackTraces = false) (hin : jIn ad ksK.length) (hE : LwE l D cy ad xs L J) (hxs : ∀ j, ri_ (xs j)) {n : Nat} (hn : n < 512) (hL : 6 * n + 6 ≤ L) {M : MM} (hI : InvL n M) (hnext : ∀ M1, InvL (n + 1) M1 → J (390 + 3 * (n + 1)) (571600 + 18 * (n + 1)) 3111 [(0, .ref (ad 910)), (1, .ref (ad 0)), (2, .ref (ad 286)), (3, .ref (ad 389)), (4, .int (Ii (6 * (n : Int))))] [] M1) : J (390 + 3 * n) (571600 + 18 * n) 2540 [(0, .ref (ad 910)), (1, .ref (ad 0)), (2, .ref (ad 286)), (3, .ref (ad 389)), (4, .int (Ii (6 * (n : Int))))] [] M := by
  have gi : ri_ (6 * (n : Int)) := by unfold ri_; omega
  obtain ⟨C, R, hR, hRC, hRR, hC, hRm⟩ := hI
  have hO := hE.1 (390 + 3 * n) (571600 + 18 * n) (by omega) (by omega)
  refine j_aload_n hO dL_law_2540 rfl 1 rfl ?_
  refine j_aload_n hO dL_law_2541 rfl 0 rfl ?_
  refine j_iload hO dL_law_2542 4 rfl ?_
  refine j_iconst hO dL_law_2544 ?_
  refine j_iadd hO dL_law_2545 ?_
  refine j_ti hO XtB_sc (by unfold ri_; omega) (by omega) (by omega) dL_law_2546 ?_
  refine j_aload_n hO dL_law_2547 rfl 0 rfl ?_
  refine j_iload hO dL_law_2548 4 rfl ?_
  refine j_iconst hO dL_law_2550 ?_
  refine j_iadd hO dL_law_2551 ?_
  refine j_ti hO XtB_sc (by unfold ri_; omega) (by omega) (by omega) dL_law_2552 ?_
  refine j_aload_n hO dL_law_2553 rfl 3 rfl ?_
  obtain ⟨Q1, X1, hw1, h2, h4⟩ := v_answer (p1 := (xs ((6 * (n : Int)) + 1).toNat)) (p2 := (xs ((6 * (n : Int)) + 2).toNat)) (by omega) (by omega) hR
  have hWL : WL_answer ad (fun r M1 => ∃ C', jRg ftC ksC C' ∧ ((∃ r1, r = 0 ∧ Q1 r1 C' ∧ M1 = (ux_ (jUp 286 C' M) 389 0 r1)) ∨ (r = 1 ∧ X1 "java/util/NoSuchElementException" C' ∧ M1 = jUp 286 C' M))) [.ref (ad 0), .int (Ii (xs ((6 * (n : Int)) + 1).toNat)), .int (Ii (xs ((6 * (n : Int)) + 2).toNat)), .ref (ad 389)] M := by
    refine ⟨(xs ((6 * (n : Int)) + 1).toNat), (xs ((6 * (n : Int)) + 2).toNat), rfl, (hxs _), (hxs _), ⟨C, Q1, X1, hC, hRC, hw1, fun r1 C' a b => ⟨C', a, Or.inl ⟨r1, rfl, b, rfl⟩⟩, fun E C' a m b => ?_⟩⟩
    simp only [List.mem_cons, List.not_mem_nil, or_false] at m
    rcases m with rfl
    · exact ⟨rfl, C', a, Or.inr (⟨rfl, b, rfl⟩)⟩
  refine hE.2.1 _ _ 1 6 (by omega) (by omega) _ _ _ _ _ _ _ _ _ _ _ [.ref (ad 0), .int (Ii (xs ((6 * (n : Int)) + 1).toNat)), .int (Ii (xs ((6 * (n : Int)) + 2).toNat)), .ref (ad 389)] _ _ _ (cl_answer (l := l) (D := D) (cy := cy) (xs := xs) (L := L) hst hin) rfl om_2391 ⟨rfl, rfl, Nat.le_of_ble_eq_true rfl, Nat.le_of_ble_eq_true rfl⟩ mv_L_274 hd_L_answer rfl (Nat.le_of_ble_eq_true rfl) dL_law_2554 hWL (fun rk1 M1 grk q => ?_)
  have hO := hE.1 (390 + 3 * n + 1) (571600 + 18 * n + 6) (by omega) (by omega)
  obtain ⟨C', hRC', q⟩ := q
  rcases q with ⟨r1, rfl, hq, rfl⟩ | ⟨rfl, hq, rfl⟩
  · obtain ⟨Q0, hw2, h3⟩ := h2 _ C' hq
    refine j_istore (lv' := [(5, .int (Ii 0)), (0, .ref (ad 910)), (1, .ref (ad 0)), (2, .ref (ad 286)), (3, .ref (ad 389)), (4, .int (Ii (6 * (n : Int))))]) hO dL_law_2557 (by decide) rfl ?_
    refine j_aload_n hO dL_law_2559 rfl 3 rfl ?_
    refine j_aload_n hO dL_law_2560 rfl 1 rfl ?_
    refine j_iload hO dL_law_2561 5 rfl ?_
    refine j_iconst hO dL_law_2563 ?_
    refine j_iadd hO dL_law_2564 ?_
    refine j_ti hO XtB_sc (by unfold ri_; omega) (by omega) (by omega) dL_law_2565 ?_
    refine j_aload_n hO dL_law_2566 rfl 1 rfl ?_
    refine j_iload hO dL_law_2567 5 rfl ?_
    refine j_iconst hO dL_law_2569 ?_
    refine j_iadd hO dL_law_2570 ?_
    refine j_ti hO XtB_sc (by unfold ri_; omega) (by omega) (by omega) dL_law_2571 ?_
    refine j_callVl hO (lfR hin (c_X12_answer (l := l) (D := D) (cy := cy) (ad := fun c => ad (286 + c)) (jIn_R hin))) rfl om_2394 ⟨rfl, rfl, Nat.le_of_ble_eq_true rfl, Nat.le_of_ble_eq_true rfl⟩ [.int (Ii (xs ((6 * (n : Int)) + 1).toNat)), .int (Ii (xs ((6 * (n : Int)) + 2).toNat))] mv_L_276 hd_X12_answerv kK_286 rfl rfl rfl (Nat.le_of_ble_eq_true rfl) dL_law_2572 (P := fun r M1 => ∃ R', jRg ftR ksR R' ∧ Q0 r R' ∧ M1 = jUpO 286 103 R' (ux_ (jUp 286 C' M) 389 0 r1)) ⟨R, Q0, (jUp_U hRm), hRR, ⟨(xs ((6 * (n : Int)) + 1).toNat), (xs ((6 * (n : Int)) + 2).toNat), rfl, (hxs _), (hxs _), hw2⟩, fun r R' a b => ⟨R', a, b, rfl⟩⟩ (fun rb M2 grb q => ?_)
    obtain ⟨R', hRR', hq, rfl⟩ := q
    obtain ⟨q1, q0, hRal⟩ := h3 _ R' hq
    refine j_lstore (lv' := [(6, .long (Ll rb)), (5, .int (Ii 0)), (0, .ref (ad 910)), (1, .ref (ad 0)), (2, .ref (ad 286)), (3, .ref (ad 389)), (4, .int (Ii (6 * (n : Int))))]) hO dL_law_2575 (by decide) rfl ?_
    refine j_aload_n hO dL_law_2577 rfl 4 rfl ?_
    refine j_callVi hO (lfR hin (c_X12_thrown (l := l) (D := D) (cy := cy) (ad := fun c => ad (286 + c)) (jIn_R hin))) rfl om_2146 ⟨rfl, rfl, Nat.le_of_ble_eq_true rfl, Nat.le_of_ble_eq_true rfl⟩ [] mv_L_149 hd_X12_thrownv kK_286 rfl rfl rfl (Nat.le_of_ble_eq_true rfl) dL_law_2578 (P := fun r M1 => r = R' 0 0 ∧ M1 = jUpO 286 103 R' (ux_ (jUp 286 C' M) 389 0 r1)) ⟨R', fun v M' => v = R' 0 0 ∧ M' = R', fun c hc => jUpO_R hc, hRR', ⟨rfl, fun v e1 _ => ⟨e1, rfl⟩⟩, fun r C9 _ b => ⟨b.1, by rw [b.2]; exact jUpO_i⟩⟩ (fun rt M3 grt q => ?_)
    obtain ⟨ert, rfl⟩ := q
    refine j_iload hO dL_law_2581 1 rfl ?_
    refine j_icmp_eq hO 2588 grt rk_0 dL_law_2583 (by decide) (fun _ => ?_) (fun z => absurd (by exact (ert.trans q0)) z)
    refine j_iload hO dL_law_2588 1 rfl ?_
    refine j_if_ne hO 2604 rk_0 dL_law_2590 (by decide) (fun z => absurd z (by decide)) (fun _ => ?_)
    refine j_aload_n hO dL_law_2593 rfl 5 rfl ?_
    refine j_iconst hO dL_law_2594 ?_
    refine j_lald hO rk_0 kK_389 (by decide) (by decide) dL_law_2595 (fun v2595 ev2595 gv2595 => ?_)
    refine j_lload hO dL_law_2596 0 rfl ?_
    refine j_lcmp_eq hO 2604 gv2595 grb dL_law_2598 dL_law_2599 (by decide) (fun _ => ?_) (fun z => absurd (by rw [ev2595]; exact (jUpO_o 389 (by decide)).trans ((ux_s _ _ _ _).trans q1)) z)
    refine j_goto hO 3111 dL_law_2604 (by decide) ?_
    exact j_sub hO [2, 3, 4, 5, 6] rfl (hE.2.2 _ _ _ _ _ _ _ _ (by omega) (by omega) (hnext _ (InvL_n hRal hRC' hRR' (fun c hc => jUpO_lu hc) (fun c hc => jUpO_R hc))))
  · obtain ⟨Q0, hw2, h3⟩ := h4 _ C' hq
    refine j_istore (lv' := [(5, .int (Ii 1)), (0, .ref (ad 910)), (1, .ref (ad 0)), (2, .ref (ad 286)), (3, .ref (ad 389)), (4, .int (Ii (6 * (n : Int))))]) hO dL_law_2557 (by decide) rfl ?_
    refine j_aload_n hO dL_law_2559 rfl 3 rfl ?_
    refine j_aload_n hO dL_law_2560 rfl 1 rfl ?_
    refine j_iload hO dL_law_2561 5 rfl ?_
    refine j_iconst hO dL_law_2563 ?_
    refine j_iadd hO dL_law_2564 ?_
    refine j_ti hO XtB_sc (by unfold ri_; omega) (by omega) (by omega) dL_law_2565 ?_
    refine j_aload_n hO dL_law_2566 rfl 1 rfl ?_
    refine j_iload hO dL_law_2567 5 rfl ?_
    refine j_iconst hO dL_law_2569 ?_
    refine j_iadd hO dL_law_2570 ?_
    refine j_ti hO XtB_sc (by unfold ri_; omega) (by omega) (by omega) dL_law_2571 ?_
    refine j_callVl hO (lfR hin (c_X12_answer (l := l) (D := D) (cy := cy) (ad := fun c => ad (286 + c)) (jIn_R hin))) rfl om_2394 ⟨rfl, rfl, Nat.le_of_ble_eq_true rfl, Nat.le_of_ble_eq_true rfl⟩ [.int (Ii (xs ((6 * (n : Int)) + 1).toNat)), .int (Ii (xs ((6 * (n : Int)) + 2).toNat))] mv_L_276 hd_X12_answerv kK_286 rfl rfl rfl (Nat.le_of_ble_eq_true rfl) dL_law_2572 (P := fun r M1 => ∃ R', jRg ftR ksR R' ∧ Q0 r R' ∧ M1 = jUpO 286 103 R' (jUp 286 C' M)) ⟨R, Q0, (jUp_R hRm), hRR, ⟨(xs ((6 * (n : Int)) + 1).toNat), (xs ((6 * (n : Int)) + 2).toNat), rfl, (hxs _), (hxs _), hw2⟩, fun r R' a b => ⟨R', a, b, rfl⟩⟩ (fun rb M2 grb q => ?_)
    obtain ⟨R', hRR', hq, rfl⟩ := q
    obtain ⟨q0, hRal⟩ := h3 _ R' hq
    refine j_lstore (lv' := [(6, .long (Ll rb)), (5, .int (Ii 1)), (0, .ref (ad 910)), (1, .ref (ad 0)), (2, .ref (ad 286)), (3, .ref (ad 389)), (4, .int (Ii (6 * (n : Int))))]) hO dL_law_2575 (by decide) rfl ?_
    refine j_aload_n hO dL_law_2577 rfl 4 rfl ?_
    refine j_callVi hO (lfR hin (c_X12_thrown (l := l) (D := D) (cy := cy) (ad := fun c => ad (286 + c)) (jIn_R hin))) rfl om_2146 ⟨rfl, rfl, Nat.le_of_ble_eq_true rfl, Nat.le_of_ble_eq_true rfl⟩ [] mv_L_149 hd_X12_thrownv kK_286 rfl rfl rfl (Nat.le_of_ble_eq_true rfl) dL_law_2578 (P := fun r M1 => r = R' 0 0 ∧ M1 = jUpO 286 103 R' (jUp 286 C' M)) ⟨R', fun v M' => v = R' 0 0 ∧ M' = R', fun c hc => jUpO_R hc, hRR', ⟨rfl, fun v e1 _ => ⟨e1, rfl⟩⟩, fun r C9 _ b => ⟨b.1, by rw [b.2]; exact jUpO_i⟩⟩ (fun rt M3 grt q => ?_)
    obtain ⟨ert, rfl⟩ := q
    refine j_iload hO dL_law_2581 1 rfl ?_
    refine j_icmp_eq hO 2588 grt rk_1 dL_law_2583 (by decide) (fun _ => ?_) (fun z => absurd (by exact (ert.trans (by simpa using q0))) z)
    refine j_iload hO dL_law_2588 1 rfl ?_
    refine j_if_ne hO 2604 rk_1 dL_law_2590 (by decide) (fun _ => ?_) (fun z => absurd z (by decide))
    refine j_goto hO 3111 dL_law_2604 (by decide) ?_
    exact j_sub hO [2, 3, 4, 5, 6] rfl (hE.2.2 _ _ _ _ _ _ _ _ (by omega) (by omega) (hnext _ (InvL_n hRal hRC' hRR' (fun c hc => jUpO_lo hc) (fun c hc => jUpO_R hc))))
