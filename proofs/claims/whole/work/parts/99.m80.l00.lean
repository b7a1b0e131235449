set_option maxHeartbeats 4000000 in
set_option maxRecDepth 100000 in
theorem lc_0 {l : Launch} {D : va_G} {cy : Nat → ClassId} {ad : Nat → Nat} {xs : Nat → Int} {L : Nat} {J : Nat → Nat → Nat → List (Nat × Value) → List Value → MM → Prop} (hst : l.stackTraces = false) (hin : jIn ad ksK.length) (hE : LwE l D cy ad xs L J) (hxs : ∀ j, ri_ (xs j)) {n : Nat} (hn : n < 512) (hL : 6 * n + 6 ≤ L) {M : MM} (hI : InvL n M) (hnext : ∀ M1, InvL (n + 1) M1 → J (390 + 3 * (n + 1)) (571600 + 18 * (n + 1)) 3111 [(0, .ref (ad 910)), (1, .ref (ad 0)), (2, .ref (ad 286)), (3, .ref (ad 389)), (4, .int (Ii (6 * (n : Int))))] [] M1) : J (390 + 3 * n) (571600 + 18 * n) 260 [(0, .ref (ad 910)), (1, .ref (ad 0)), (2, .ref (ad 286)), (3, .ref (ad 389)), (4, .int (Ii (6 * (n : Int))))] [] M := by
  have gi : ri_ (6 * (n : Int)) := by unfold ri_; omega
  obtain ⟨C, R, hR, hRC, hRR, hC, hRm⟩ := hI
  have hO := hE.1 (390 + 3 * n) (571600 + 18 * n) (by omega) (by omega)
  refine j_aload_n hO dL_law_260 rfl 1 rfl ?_
  refine j_aload_n hO dL_law_261 rfl 0 rfl ?_
  refine j_iload hO dL_law_262 4 rfl ?_
  refine j_iconst hO dL_law_264 ?_
  refine j_iadd hO dL_law_265 ?_
  refine j_ti hO XtB_sc (by unfold ri_; omega) (by omega) (by omega) dL_law_266 ?_
  refine j_aload_n hO dL_law_267 rfl 0 rfl ?_
  refine j_iload hO dL_law_268 4 rfl ?_
  refine j_iconst hO dL_law_270 ?_
  refine j_iadd hO dL_law_271 ?_
  refine j_ti hO XtB_sc (by unfold ri_; omega) (by omega) (by omega) dL_law_272 ?_
  refine j_aload_n hO dL_law_273 rfl 0 rfl ?_
  refine j_iload hO dL_law_274 4 rfl ?_
  refine j_iconst hO dL_law_276 ?_
  refine j_iadd hO dL_law_277 ?_
  refine j_ti hO XtB_sc (by unfold ri_; omega) (by omega) (by omega) dL_law_278 ?_
  refine j_aload_n hO dL_law_279 rfl 0 rfl ?_
  refine j_iload hO dL_law_280 4 rfl ?_
  refine j_iconst hO dL_law_282 ?_
  refine j_iadd hO dL_law_283 ?_
  refine j_ti hO XtB_sc (by unfold ri_; omega) (by omega) (by omega) dL_law_284 ?_
  refine j_aload_n hO dL_law_285 rfl 0 rfl ?_
  refine j_iload hO dL_law_286 4 rfl ?_
  refine j_iconst hO dL_law_288 ?_
  refine j_iadd hO dL_law_289 ?_
  refine j_ti hO XtB_sc (by unfold ri_; omega) (by omega) (by omega) dL_law_290 ?_
  obtain ⟨Q1, hw1, h2⟩ := v_feed (p1 := (xs ((6 * (n : Int)) + 1).toNat)) (p2 := (xs ((6 * (n : Int)) + 2).toNat)) (p3 := (xs ((6 * (n : Int)) + 3).toNat)) (p4 := (xs ((6 * (n : Int)) + 4).toNat)) (p5 := (xs ((6 * (n : Int)) + 5).toNat)) (by omega) (by omega) (hxs _) (hxs _) (hxs _) (hxs _) (hxs _) hR
  refine j_callVv hO (lfC hin (c_X11_feed (l := l) (D := D) (cy := cy) (ad := ad) (jIn_w hin))) rfl om_2098 ⟨rfl, rfl, Nat.le_of_ble_eq_true rfl, Nat.le_of_ble_eq_true rfl⟩ [.int (Ii (xs ((6 * (n : Int)) + 1).toNat)), .int (Ii (xs ((6 * (n : Int)) + 2).toNat)), .int (Ii (xs ((6 * (n : Int)) + 3).toNat)), .int (Ii (xs ((6 * (n : Int)) + 4).toNat)), .int (Ii (xs ((6 * (n : Int)) + 5).toNat))] mv_L_120 hd_X11_feedv kK_0 rfl rfl rfl (Nat.le_of_ble_eq_true rfl) dL_law_291 (P := fun r M1 => ∃ C', jRg ftC ksC C' ∧ Q1 r C' ∧ M1 = jUp 286 C' M) ⟨C, Q1, hC, hRC, ⟨(xs ((6 * (n : Int)) + 1).toNat), (xs ((6 * (n : Int)) + 2).toNat), (xs ((6 * (n : Int)) + 3).toNat), (xs ((6 * (n : Int)) + 4).toNat), (xs ((6 * (n : Int)) + 5).toNat), rfl, (hxs _), (hxs _), (hxs _), (hxs _), (hxs _), hw1⟩, fun r C' a b => ⟨C', a, b, rfl⟩⟩ (fun M1 q => ?_)
  obtain ⟨C', hRC', hq, rfl⟩ := q
  obtain ⟨Q0, hw2, h3⟩ := h2 _ C' hq
  refine j_aload_n hO dL_law_294 rfl 2 rfl ?_
  refine j_aload_n hO dL_law_295 rfl 0 rfl ?_
  refine j_iload hO dL_law_296 4 rfl ?_
  refine j_iconst hO dL_law_298 ?_
  refine j_iadd hO dL_law_299 ?_
  refine j_ti hO XtB_sc (by unfold ri_; omega) (by omega) (by omega) dL_law_300 ?_
  refine j_aload_n hO dL_law_301 rfl 0 rfl ?_
  refine j_iload hO dL_law_302 4 rfl ?_
  refine j_iconst hO dL_law_304 ?_
  refine j_iadd hO dL_law_305 ?_
  refine j_ti hO XtB_sc (by unfold ri_; omega) (by omega) (by omega) dL_law_306 ?_
  refine j_aload_n hO dL_law_307 rfl 0 rfl ?_
  refine j_iload hO dL_law_308 4 rfl ?_
  refine j_iconst hO dL_law_310 ?_
  refine j_iadd hO dL_law_311 ?_
  refine j_ti hO XtB_sc (by unfold ri_; omega) (by omega) (by omega) dL_law_312 ?_
  refine j_aload_n hO dL_law_313 rfl 0 rfl ?_
  refine j_iload hO dL_law_314 4 rfl ?_
  refine j_iconst hO dL_law_316 ?_
  refine j_iadd hO dL_law_317 ?_
  refine j_ti hO XtB_sc (by unfold ri_; omega) (by omega) (by omega) dL_law_318 ?_
  refine j_aload_n hO dL_law_319 rfl 0 rfl ?_
  refine j_iload hO dL_law_320 4 rfl ?_
  refine j_iconst hO dL_law_322 ?_
  refine j_iadd hO dL_law_323 ?_
  refine j_ti hO XtB_sc (by unfold ri_; omega) (by omega) (by omega) dL_law_324 ?_
  refine j_callVv hO (lfR hin (c_X12_feed (l := l) (D := D) (cy := cy) (ad := fun c => ad (286 + c)) (jIn_R hin))) rfl om_2102 ⟨rfl, rfl, Nat.le_of_ble_eq_true rfl, Nat.le_of_ble_eq_true rfl⟩ [.int (Ii (xs ((6 * (n : Int)) + 1).toNat)), .int (Ii (xs ((6 * (n : Int)) + 2).toNat)), .int (Ii (xs ((6 * (n : Int)) + 3).toNat)), .int (Ii (xs ((6 * (n : Int)) + 4).toNat)), .int (Ii (xs ((6 * (n : Int)) + 5).toNat))] mv_L_124 hd_X12_feedv kK_286 rfl rfl rfl (Nat.le_of_ble_eq_true rfl) dL_law_325 (P := fun r M1 => ∃ R', jRg ftR ksR R' ∧ Q0 r R' ∧ M1 = jUpO 286 103 R' (jUp 286 C' M)) ⟨R, Q0, (jUp_R hRm), hRR, ⟨(xs ((6 * (n : Int)) + 1).toNat), (xs ((6 * (n : Int)) + 2).toNat), (xs ((6 * (n : Int)) + 3).toNat), (xs ((6 * (n : Int)) + 4).toNat), (xs ((6 * (n : Int)) + 5).toNat), rfl, (hxs _), (hxs _), (hxs _), (hxs _), (hxs _), hw2⟩, fun r R' a b => ⟨R', a, b, rfl⟩⟩ (fun M2 q => ?_)
  obtain ⟨R', hRR', hq, rfl⟩ := q
  obtain ⟨q1, hRal⟩ := h3 _ R' hq
  refine j_goto hO 3111 dL_law_328 (by decide) ?_
  exact j_sub hO [0, 1, 2, 3, 4] rfl (hE.2.2 _ _ _ _ _ _ _ _ (by omega) (by omega) (hnext _ (InvL_n hRal hRC' hRR' (fun c hc => jUpO_lo hc) (fun c hc => jUpO_R hc))))
set_option maxHeartbeats 4000000 in
set_option maxRecDepth 100000 in
theorem lc_1 {l : Launch} {D : va_G} {cy : Nat → ClassId} {ad : Nat → Nat} {xs : Nat → Int} {L : Nat} {J : Nat → Nat → Nat → List (Nat × Value) → List Value → MM → Prop} (hst : l.stackTraces = false) (hin : jIn ad ksK.length) (hE : LwE l D cy ad xs L J) (hxs : ∀ j, ri_ (xs j)) {n : Nat} (hn : n < 512) (hL : 6 * n + 6 ≤ L) {M : MM} (hI : InvL n M) (hnext : ∀ M1, InvL (n + 1) M1 → J (390 + 3 * (n + 1)) (571600 + 18 * (n + 1)) 3111 [(0, .ref (ad 910)), (1, .ref (ad 0)), (2, .ref (ad 286)), (3, .ref (ad 389)), (4, .int (Ii (6 * (n : Int))))] [] M1) : J (390 + 3 * n) (571600 + 18 * n) 331 [(0, .ref (ad 910)), (1, .ref (ad 0)), (2, .ref (ad 286)), (3, .ref (ad 389)), (4, .int (Ii (6 * (n : Int))))] [] M := by
  have gi : ri_ (6 * (n : Int)) := by unfold ri_; omega
  obtain ⟨C, R, hR, hRC, hRR, hC, hRm⟩ := hI
  have hO := hE.1 (390 + 3 * n) (571600 + 18 * n) (by omega) (by omega)
  refine j_aload_n hO dL_law_331 rfl 1 rfl ?_
  refine j_aload_n hO dL_law_332 rfl 0 rfl ?_
  refine j_iload hO dL_law_333 4 rfl ?_
  refine j_iconst hO dL_law_335 ?_
  refine j_iadd hO dL_law_336 ?_
  refine j_ti hO XtB_sc (by unfold ri_; omega) (by omega) (by omega) dL_law_337 ?_
  obtain ⟨Q1, hw1, h2⟩ := v_end (p1 := (xs ((6 * (n : Int)) + 1).toNat)) (by omega) (by omega) (hxs _) hR
  refine j_callVi hO (lfC hin (c_X11_end (l := l) (D := D) (cy := cy) (ad := ad) (jIn_w hin))) rfl om_2106 ⟨rfl, rfl, Nat.le_of_ble_eq_true rfl, Nat.le_of_ble_eq_true rfl⟩ [.int (Ii (xs ((6 * (n : Int)) + 1).toNat))] mv_L_125 hd_X11_endv kK_0 rfl rfl rfl (Nat.le_of_ble_eq_true rfl) dL_law_338 (P := fun r M1 => ∃ C', jRg ftC ksC C' ∧ Q1 r C' ∧ M1 = jUp 286 C' M) ⟨C, Q1, hC, hRC, ⟨(xs ((6 * (n : Int)) + 1).toNat), rfl, (hxs _), hw1⟩, fun r C' a b => ⟨C', a, b, rfl⟩⟩ (fun ra M1 gra q => ?_)
  obtain ⟨C', hRC', hq, rfl⟩ := q
  obtain ⟨Q0, hw2, h3⟩ := h2 _ C' hq
  refine j_aload_n hO dL_law_341 rfl 2 rfl ?_
  refine j_aload_n hO dL_law_342 rfl 0 rfl ?_
  refine j_iload hO dL_law_343 4 rfl ?_
  refine j_iconst hO dL_law_345 ?_
  refine j_iadd hO dL_law_346 ?_
  refine j_ti hO XtB_sc (by unfold ri_; omega) (by omega) (by omega) dL_law_347 ?_
  refine j_callVi hO (lfR hin (c_X12_end (l := l) (D := D) (cy := cy) (ad := fun c => ad (286 + c)) (jIn_R hin))) rfl om_2110 ⟨rfl, rfl, Nat.le_of_ble_eq_true rfl, Nat.le_of_ble_eq_true rfl⟩ [.int (Ii (xs ((6 * (n : Int)) + 1).toNat))] mv_L_128 hd_X12_endv kK_286 rfl rfl rfl (Nat.le_of_ble_eq_true rfl) dL_law_348 (P := fun r M1 => ∃ R', jRg ftR ksR R' ∧ Q0 r R' ∧ M1 = jUpO 286 103 R' (jUp 286 C' M)) ⟨R, Q0, (jUp_R hRm), hRR, ⟨(xs ((6 * (n : Int)) + 1).toNat), rfl, (hxs _), hw2⟩, fun r R' a b => ⟨R', a, b, rfl⟩⟩ (fun rb M2 grb q => ?_)
  obtain ⟨R', hRR', hq, rfl⟩ := q
  obtain ⟨q1, hRal⟩ := h3 _ R' hq
  refine j_icmp_eq hO 3111 gra grb dL_law_351 (by decide) (fun _ => ?_) (fun z => absurd (by exact q1) z)
  exact j_sub hO [0, 1, 2, 3, 4] rfl (hE.2.2 _ _ _ _ _ _ _ _ (by omega) (by omega) (hnext _ (InvL_n hRal hRC' hRR' (fun c hc => jUpO_lo hc) (fun c hc => jUpO_R hc))))
set_option maxHeartbeats 4000000 in
set_option maxRecDepth 100000 in
theorem lc_2 {l : Launch} {D : va_G} {cy : Nat → ClassId} {ad : Nat → Nat} {xs : Nat → Int} {L : Nat} {J : Nat → Nat → Nat → List (Nat × Value) → List Value → MM → Prop} (hst : l.stackTraces = false) (hin : jIn ad ksK.length) (hE : LwE l D cy ad xs L J) (hxs : ∀ j, ri_ (xs j)) {n : Nat} (hn : n < 512) (hL : 6 * n + 6 ≤ L) {M : MM} (hI : InvL n M) (hnext : ∀ M1, InvL (n + 1) M1 → J (390 + 3 * (n + 1)) (571600 + 18 * (n + 1)) 3111 [(0, .ref (ad 910)), (1, .ref (ad 0)), (2, .ref (ad 286)), (3, .ref (ad 389)), (4, .int (Ii (6 * (n : Int))))] [] M1) : J (390 + 3 * n) (571600 + 18 * n) 356 [(0, .ref (ad 910)), (1, .ref (ad 0)), (2, .ref (ad 286)), (3, .ref (ad 389)), (4, .int (Ii (6 * (n : Int))))] [] M := by
  have gi : ri_ (6 * (n : Int)) := by unfold ri_; omega
  obtain ⟨C, R, hR, hRC, hRR, hC, hRm⟩ := hI
  have hO := hE.1 (390 + 3 * n) (571600 + 18 * n) (by omega) (by omega)
  refine j_aload_n hO dL_law_356 rfl 1 rfl ?_
  obtain ⟨Q1, hw1, h2⟩ := v_wipe  (by omega) (by omega) hR
  refine j_callVv hO (lfC hin (c_X11_wipe (l := l) (D := D) (cy := cy) (ad := ad) (jIn_w hin))) rfl om_2114 ⟨rfl, rfl, Nat.le_of_ble_eq_true rfl, Nat.le_of_ble_eq_true rfl⟩ [] mv_L_129 hd_X11_wipev kK_0 rfl rfl rfl (Nat.le_of_ble_eq_true rfl) dL_law_357 (P := fun r M1 => ∃ C', jRg ftC ksC C' ∧ Q1 r C' ∧ M1 = jUp 286 C' M) ⟨C, Q1, hC, hRC, ⟨rfl, hw1⟩, fun r C' a b => ⟨C', a, b, rfl⟩⟩ (fun M1 q => ?_)
  obtain ⟨C', hRC', hq, rfl⟩ := q
  obtain ⟨Q0, hw2, h3⟩ := h2 _ C' hq
  refine j_aload_n hO dL_law_360 rfl 2 rfl ?_
  refine j_callVv hO (lfR hin (c_X12_wipe (l := l) (D := D) (cy := cy) (ad := fun c => ad (286 + c)) (jIn_R hin))) rfl om_2118 ⟨rfl, rfl, Nat.le_of_ble_eq_true rfl, Nat.le_of_ble_eq_true rfl⟩ [] mv_L_132 hd_X12_wipev kK_286 rfl rfl rfl (Nat.le_of_ble_eq_true rfl) dL_law_361 (P := fun r M1 => ∃ R', jRg ftR ksR R' ∧ Q0 r R' ∧ M1 = jUpO 286 103 R' (jUp 286 C' M)) ⟨R, Q0, (jUp_R hRm), hRR, ⟨rfl, hw2⟩, fun r R' a b => ⟨R', a, b, rfl⟩⟩ (fun M2 q => ?_)
  obtain ⟨R', hRR', hq, rfl⟩ := q
  obtain ⟨q1, hRal⟩ := h3 _ R' hq
  refine j_goto hO 3111 dL_law_364 (by decide) ?_
  exact j_sub hO [0, 1, 2, 3, 4] rfl (hE.2.2 _ _ _ _ _ _ _ _ (by omega) (by omega) (hnext _ (InvL_n hRal hRC' hRR' (fun c hc => jUpO_lo hc) (fun c hc => jUpO_R hc))))
set_option maxHeartbeats 4000000 in
set_option maxRecDepth 100000 in
theorem lc_3 {l : Launch} {D : va_G} {cy : Nat → ClassId} {ad : Nat → Nat} {xs : Nat → Int} {L : Nat} {J : Nat → Nat → Nat → List (Nat × Value) → List Value → MM → Prop} (hst : l.stackTraces = false) (hin : jIn ad ksK.length) (hE : LwE l D cy ad xs L J) (hxs : ∀ j, ri_ (xs j)) {n : Nat} (hn : n < 512) (hL : 6 * n + 6 ≤ L) {M : MM} (hI : InvL n M) (hnext : ∀ M1, InvL (n + 1) M1 → J (390 + 3 * (n + 1)) (571600 + 18 * (n + 1)) 3111 [(0, .ref (ad 910)), (1, .ref (ad 0)), (2, .ref (ad 286)), (3, .ref (ad 389)), (4, .int (Ii (6 * (n : Int))))] [] M1) : J (390 + 3 * n) (571600 + 18 * n) 367 [(0, .ref (ad 910)), (1, .ref (ad 0)), (2, .ref (ad 286)), (3, .ref (ad 389)), (4, .int (Ii (6 * (n : Int))))] [] M := by
  have gi : ri_ (6 * (n : Int)) := by unfold ri_; omega
  obtain ⟨C, R, hR, hRC, hRR, hC, hRm⟩ := hI
  have hO := hE.1 (390 + 3 * n) (571600 + 18 * n) (by omega) (by omega)
  refine j_aload_n hO dL_law_367 rfl 1 rfl ?_
  refine j_aload_n hO dL_law_368 rfl 0 rfl ?_
  refine j_iload hO dL_law_369 4 rfl ?_
  refine j_iconst hO dL_law_371 ?_
  refine j_iadd hO dL_law_372 ?_
  refine j_ti hO XtB_sc (by unfold ri_; omega) (by omega) (by omega) dL_law_373 ?_
  refine j_aload_n hO dL_law_374 rfl 0 rfl ?_
  refine j_iload hO dL_law_375 4 rfl ?_
  refine j_iconst hO dL_law_377 ?_
  refine j_iadd hO dL_law_378 ?_
  refine j_ti hO XtB_sc (by unfold ri_; omega) (by omega) (by omega) dL_law_379 ?_
  obtain ⟨Q1, hw1, h2⟩ := v_flip (p1 := (xs ((6 * (n : Int)) + 1).toNat)) (p2 := (xs ((6 * (n : Int)) + 2).toNat)) (by omega) (by omega) hR
  refine j_callVz hO (lfC hin (c_X11_flip (l := l) (D := D) (cy := cy) (ad := ad) (jIn_w hin))) rfl om_2122 ⟨rfl, rfl, Nat.le_of_ble_eq_true rfl, Nat.le_of_ble_eq_true rfl⟩ [.int (Ii (xs ((6 * (n : Int)) + 1).toNat)), .int (Ii (xs ((6 * (n : Int)) + 2).toNat))] mv_L_133 hd_X11_flipv kK_0 rfl rfl rfl (Nat.le_of_ble_eq_true rfl) dL_law_380 (P := fun r M1 => ∃ C', jRg ftC ksC C' ∧ Q1 r C' ∧ M1 = jUp 286 C' M) ⟨C, Q1, hC, hRC, ⟨(xs ((6 * (n : Int)) + 1).toNat), (xs ((6 * (n : Int)) + 2).toNat), rfl, (hxs _), (hxs _), hw1⟩, fun r C' a b => ⟨C', a, b, rfl⟩⟩ (fun ra M1 gra q => ?_)
  obtain ⟨C', hRC', hq, rfl⟩ := q
  obtain ⟨Q0, hw2, h3⟩ := h2 _ C' hq
  refine j_aload_n hO dL_law_383 rfl 2 rfl ?_
  refine j_aload_n hO dL_law_384 rfl 0 rfl ?_
  refine j_iload hO dL_law_385 4 rfl ?_
  refine j_iconst hO dL_law_387 ?_
  refine j_iadd hO dL_law_388 ?_
  refine j_ti hO XtB_sc (by unfold ri_; omega) (by omega) (by omega) dL_law_389 ?_
  refine j_aload_n hO dL_law_390 rfl 0 rfl ?_
  refine j_iload hO dL_law_391 4 rfl ?_
  refine j_iconst hO dL_law_393 ?_
  refine j_iadd hO dL_law_394 ?_
  refine j_ti hO XtB_sc (by unfold ri_; omega) (by omega) (by omega) dL_law_395 ?_
  refine j_callVz hO (lfR hin (c_X12_flip (l := l) (D := D) (cy := cy) (ad := fun c => ad (286 + c)) (jIn_R hin))) rfl om_2126 ⟨rfl, rfl, Nat.le_of_ble_eq_true rfl, Nat.le_of_ble_eq_true rfl⟩ [.int (Ii (xs ((6 * (n : Int)) + 1).toNat)), .int (Ii (xs ((6 * (n : Int)) + 2).toNat))] mv_L_137 hd_X12_flipv kK_286 rfl rfl rfl (Nat.le_of_ble_eq_true rfl) dL_law_396 (P := fun r M1 => ∃ R', jRg ftR ksR R' ∧ Q0 r R' ∧ M1 = jUpO 286 103 R' (jUp 286 C' M)) ⟨R, Q0, (jUp_R hRm), hRR, ⟨(xs ((6 * (n : Int)) + 1).toNat), (xs ((6 * (n : Int)) + 2).toNat), rfl, (hxs _), (hxs _), hw2⟩, fun r R' a b => ⟨R', a, b, rfl⟩⟩ (fun rb M2 grb q => ?_)
  obtain ⟨R', hRR', hq, rfl⟩ := q
  obtain ⟨q1, hRal⟩ := h3 _ R' hq
  refine j_icmp_eq hO 3111 (jz_ri gra) (jz_ri grb) dL_law_399 (by decide) (fun _ => ?_) (fun z => absurd (by exact q1) z)
  exact j_sub hO [0, 1, 2, 3, 4] rfl (hE.2.2 _ _ _ _ _ _ _ _ (by omega) (by omega) (hnext _ (InvL_n hRal hRC' hRR' (fun c hc => jUpO_lo hc) (fun c hc => jUpO_R hc))))
set_option maxHeartbeats 4000000 in
set_option maxRecDepth 100000 in
theorem lc_4 {l : Launch} {D : va_G} {cy : Nat → ClassId} {ad : Nat → Nat} {xs : Nat → Int} {L : Nat} {J : Nat → Nat → Nat → List (Nat × Value) → List Value → MM → Prop} (hst : l.stackTraces = false) (hin : jIn ad ksK.length) (hE : LwE l D cy ad xs L J) (hxs : ∀ j, ri_ (xs j)) {n : Nat} (hn : n < 512) (hL : 6 * n + 6 ≤ L) {M : MM} (hI : InvL n M) (hnext : ∀ M1, InvL (n + 1) M1 → J (390 + 3 * (n + 1)) (571600 + 18 * (n + 1)) 3111 [(0, .ref (ad 910)), (1, .ref (ad 0)), (2, .ref (ad 286)), (3, .ref (ad 389)), (4, .int (Ii (6 * (n : Int))))] [] M1) : J (390 + 3 * n) (571600 + 18 * n) 404 [(0, .ref (ad 910)), (1, .ref (ad 0)), (2, .ref (ad 286)), (3, .ref (ad 389)), (4, .int (Ii (6 * (n : Int))))] [] M := by
  have gi : ri_ (6 * (n : Int)) := by unfold ri_; omega
  obtain ⟨C, R, hR, hRC, hRR, hC, hRm⟩ := hI
  have hO := hE.1 (390 + 3 * n) (571600 + 18 * n) (by omega) (by omega)
  refine j_aload_n hO dL_law_404 rfl 1 rfl ?_
  refine j_aload_n hO dL_law_405 rfl 0 rfl ?_
  refine j_iload hO dL_law_406 4 rfl ?_
  refine j_iconst hO dL_law_408 ?_
  refine j_iadd hO dL_law_409 ?_
  refine j_ti hO XtB_sc (by unfold ri_; omega) (by omega) (by omega) dL_law_410 ?_
  obtain ⟨Q1, hw1, h2⟩ := v_cut (p1 := (xs ((6 * (n : Int)) + 1).toNat)) (by omega) (by omega) hR
  refine j_callVz hO (lfC hin (c_X11_cut (l := l) (D := D) (cy := cy) (ad := ad) (jIn_w hin))) rfl om_2130 ⟨rfl, rfl, Nat.le_of_ble_eq_true rfl, Nat.le_of_ble_eq_true rfl⟩ [.int (Ii (xs ((6 * (n : Int)) + 1).toNat))] mv_L_138 hd_X11_cutv kK_0 rfl rfl rfl (Nat.le_of_ble_eq_true rfl) dL_law_411 (P := fun r M1 => ∃ C', jRg ftC ksC C' ∧ Q1 r C' ∧ M1 = jUp 286 C' M) ⟨C, Q1, hC, hRC, ⟨(xs ((6 * (n : Int)) + 1).toNat), rfl, (hxs _), hw1⟩, fun r C' a b => ⟨C', a, b, rfl⟩⟩ (fun ra M1 gra q => ?_)
  obtain ⟨C', hRC', hq, rfl⟩ := q
  obtain ⟨Q0, hw2, h3⟩ := h2 _ C' hq
  refine j_aload_n hO dL_law_414 rfl 2 rfl ?_
  refine j_aload_n hO dL_law_415 rfl 0 rfl ?_
  refine j_iload hO dL_law_416 4 rfl ?_
  refine j_iconst hO dL_law_418 ?_
  refine j_iadd hO dL_law_419 ?_
  refine j_ti hO XtB_sc (by unfold ri_; omega) (by omega) (by omega) dL_law_420 ?_
  refine j_callVz hO (lfR hin (c_X12_cut (l := l) (D := D) (cy := cy) (ad := fun c => ad (286 + c)) (jIn_R hin))) rfl om_2134 ⟨rfl, rfl, Nat.le_of_ble_eq_true rfl, Nat.le_of_ble_eq_true rfl⟩ [.int (Ii (xs ((6 * (n : Int)) + 1).toNat))] mv_L_142 hd_X12_cutv kK_286 rfl rfl rfl (Nat.le_of_ble_eq_true rfl) dL_law_421 (P := fun r M1 => ∃ R', jRg ftR ksR R' ∧ Q0 r R' ∧ M1 = jUpO 286 103 R' (jUp 286 C' M)) ⟨R, Q0, (jUp_R hRm), hRR, ⟨(xs ((6 * (n : Int)) + 1).toNat), rfl, (hxs _), hw2⟩, fun r R' a b => ⟨R', a, b, rfl⟩⟩ (fun rb M2 grb q => ?_)
  obtain ⟨R', hRR', hq, rfl⟩ := q
  obtain ⟨q1, hRal⟩ := h3 _ R' hq
  refine j_icmp_eq hO 3111 (jz_ri gra) (jz_ri grb) dL_law_424 (by decide) (fun _ => ?_) (fun z => absurd (by exact q1) z)
  exact j_sub hO [0, 1, 2, 3, 4] rfl (hE.2.2 _ _ _ _ _ _ _ _ (by omega) (by omega) (hnext _ (InvL_n hRal hRC' hRR' (fun c hc => jUpO_lo hc) (fun c hc => jUpO_R hc))))
