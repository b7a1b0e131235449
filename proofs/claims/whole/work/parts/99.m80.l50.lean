set_option maxHeartbeats 4000000 in
set_option maxRecDepth 100000 in
theorem lc_50 {l : Launch} {D : va_G} {cy : Nat → ClassId} {ad : Nat → Nat} {xs : Nat → Int} {L : Nat} {J : Nat → Nat → Nat → List (Nat × Value) → List Value → MM → Prop} (hst : l.stackTraces = false) (hin : jIn ad ksK.length) (hE : LwE l D cy ad xs L J) (hxs : ∀ j, ri_ (xs j)) {n : Nat} (hn : n < 512) (hL : 6 * n + 6 ≤ L) {M : MM} (hI : InvL n M) (hnext : ∀ M1, InvL (n + 1) M1 → J (390 + 3 * (n + 1)) (571600 + 18 * (n + 1)) 3111 [(0, .ref (ad 910)), (1, .ref (ad 0)), (2, .ref (ad 286)), (3, .ref (ad 389)), (4, .int (Ii (6 * (n : Int))))] [] M1) : J (390 + 3 * n) (571600 + 18 * n) 3086 [(0, .ref (ad 910)), (1, .ref (ad 0)), (2, .ref (ad 286)), (3, .ref (ad 389)), (4, .int (Ii (6 * (n : Int))))] [] M := by
  have gi : ri_ (6 * (n : Int)) := by unfold ri_; omega
  obtain ⟨C, R, hR, hRC, hRR, hC, hRm⟩ := hI
  have hO := hE.1 (390 + 3 * n) (571600 + 18 * n) (by omega) (by omega)
  refine j_aload_n hO dL_law_3086 rfl 1 rfl ?_
  refine j_aload_n hO dL_law_3087 rfl 0 rfl ?_
  refine j_iload hO dL_law_3088 4 rfl ?_
  refine j_iconst hO dL_law_3090 ?_
  refine j_iadd hO dL_law_3091 ?_
  refine j_ti hO XtB_sc (by unfold ri_; omega) (by omega) (by omega) dL_law_3092 ?_
  obtain ⟨Q1, hw1, h2⟩ := v_about (p1 := (xs ((6 * (n : Int)) + 1).toNat)) (by omega) (by omega) hR
  refine j_callVi hO (lfC hin (c_X11_about (l := l) (D := D) (cy := cy) (ad := ad) (jIn_w hin))) rfl om_2472 ⟨rfl, rfl, Nat.le_of_ble_eq_true rfl, Nat.le_of_ble_eq_true rfl⟩ [.int (Ii (xs ((6 * (n : Int)) + 1).toNat))] mv_L_311 hd_X11_aboutv kK_0 rfl rfl rfl (Nat.le_of_ble_eq_true rfl) dL_law_3093 (P := fun r M1 => ∃ C', jRg ftC ksC C' ∧ Q1 r C' ∧ M1 = jUp 286 C' M) ⟨C, Q1, hC, hRC, ⟨(xs ((6 * (n : Int)) + 1).toNat), rfl, (hxs _), hw1⟩, fun r C' a b => ⟨C', a, b, rfl⟩⟩ (fun ra M1 gra q => ?_)
  obtain ⟨C', hRC', hq, rfl⟩ := q
  obtain ⟨Q0, hw2, h3⟩ := h2 _ C' hq
  refine j_aload_n hO dL_law_3096 rfl 2 rfl ?_
  refine j_aload_n hO dL_law_3097 rfl 0 rfl ?_
  refine j_iload hO dL_law_3098 4 rfl ?_
  refine j_iconst hO dL_law_3100 ?_
  refine j_iadd hO dL_law_3101 ?_
  refine j_ti hO XtB_sc (by unfold ri_; omega) (by omega) (by omega) dL_law_3102 ?_
  refine j_callVi hO (lfR hin (c_X12_about (l := l) (D := D) (cy := cy) (ad := fun c => ad (286 + c)) (jIn_R hin))) rfl om_2476 ⟨rfl, rfl, Nat.le_of_ble_eq_true rfl, Nat.le_of_ble_eq_true rfl⟩ [.int (Ii (xs ((6 * (n : Int)) + 1).toNat))] mv_L_314 hd_X12_aboutv kK_286 rfl rfl rfl (Nat.le_of_ble_eq_true rfl) dL_law_3103 (P := fun r M1 => ∃ R', jRg ftR ksR R' ∧ Q0 r R' ∧ M1 = jUpO 286 103 R' (jUp 286 C' M)) ⟨R, Q0, (jUp_R hRm), hRR, ⟨(xs ((6 * (n : Int)) + 1).toNat), rfl, (hxs _), hw2⟩, fun r R' a b => ⟨R', a, b, rfl⟩⟩ (fun rb M2 grb q => ?_)
  obtain ⟨R', hRR', hq, rfl⟩ := q
  obtain ⟨q1, hRal⟩ := h3 _ R' hq
  refine j_icmp_eq hO 3111 gra grb dL_law_3106 (by decide) (fun _ => ?_) (fun z => absurd (by exact q1) z)
  exact j_sub hO [0, 1, 2, 3, 4] rfl (hE.2.2 _ _ _ _ _ _ _ _ (by omega) (by omega) (hnext _ (InvL_n hRal hRC' hRR' (fun c hc => jUpO_lo hc) (fun c hc => jUpO_R hc))))
