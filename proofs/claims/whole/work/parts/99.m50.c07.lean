def W_X5_doubledSizes (ad : Nat → Nat) (Q : Int → MM → Prop) (av : List Value) (M : MM) : Prop := ∃ (c : Nat), av = [.ref (ad c), .ref (ad 8)] ∧ isP c ∧ w_X5_doubledSizes c Q  M
set_option maxHeartbeats 4000000 in
set_option maxRecDepth 100000 in
theorem k_X5_doubledSizes_b79 {l : Launch} {D : va_G} {cy : Nat → ClassId} {ad : Nat → Nat} {Q : Int → MM → Prop} {J : Nat → List (Nat × Value) → List Value → MM → Prop} (hin : jIn ad ksC.length) {c : Nat} (hc : isP c) (hJ : jOk l D vwCl (tyC cy) cy ad ftC ksC (XtC ad) Om RX5 cX5_doubledSizes 5 1 ({ frames := 2, cells := 0, slots := 0, locals := 49 } : Room) Q J) {K15 : Int → Int → Int → MM → Prop} (hK15 : ∀ (x2 x3 x4 : Int) (M : MM), ri_ x2 → ri_ x3 → ri_ x4 → K15 x2 x3 x4 M → J 15 [(0, .ref (ad c)), (1, .ref (ad 8)), (2, .int (Ii x2)), (3, .int (Ii x3)), (4, .int (Ii x4))] [] M) : ∀ (x2 x3 x4 : Int) (M : MM), ri_ x2 → ri_ x3 → ri_ x4 → w_X5_doubledSizes_b79 c Q K15 x2 x3 x4 M → J 79 [(0, .ref (ad c)), (1, .ref (ad 8)), (2, .int (Ii x2)), (3, .int (Ii x3)), (4, .int (Ii x4))] [] M := by
  intro x2 x3 x4 M gx2 gx3 gx4 hF
  unfold w_X5_doubledSizes_b79 at hF
  refine j_iinc (lv' := [(4, .int (Ii (x4 + 1))), (0, .ref (ad c)), (1, .ref (ad 8)), (2, .int (Ii x2)), (3, .int (Ii x3))]) (k := 4) hJ dX5_doubledSizes_79 rfl (by decide) rfl ?_
  have g1 := hF.1; have hF := hF.2
  refine j_goto hJ 15 dX5_doubledSizes_82 (by decide) ?_
  exact j_sub hJ [1, 2, 3, 4, 0] rfl (hK15 x2 x3 (x4 + 1) _ gx2 gx3 g1 hF)
set_option maxHeartbeats 4000000 in
set_option maxRecDepth 100000 in
theorem k_X5_doubledSizes_b15 {l : Launch} {D : va_G} {cy : Nat → ClassId} {ad : Nat → Nat} {Q : Int → MM → Prop} {J : Nat → List (Nat × Value) → List Value → MM → Prop} (hin : jIn ad ksC.length) {c : Nat} (hc : isP c) (hJ : jOk l D vwCl (tyC cy) cy ad ftC ksC (XtC ad) Om RX5 cX5_doubledSizes 5 1 ({ frames := 2, cells := 0, slots := 0, locals := 49 } : Room) Q J)  : ∀ (x2 x3 x4 : Int) (M : MM), ri_ x2 → ri_ x3 → ri_ x4 → w_X5_doubledSizes_b15 c Q  x2 x3 x4 M → J 15 [(0, .ref (ad c)), (1, .ref (ad 8)), (2, .int (Ii x2)), (3, .int (Ii x3)), (4, .int (Ii x4))] [] M := by
  have H9 : ∀ (n : Nat) (x2 x3 x4 : Int) (M : MM), ri_ x2 → ri_ x3 → ri_ x4 → jit (fun _ _ _ _ => False) (wb_X5_doubledSizes_b15 c Q ) n x2 x3 x4 M → J 15 [(0, .ref (ad c)), (1, .ref (ad 8)), (2, .int (Ii x2)), (3, .int (Ii x3)), (4, .int (Ii x4))] [] M := by
    intro n
    induction n with
    | zero => intro x2 x3 x4 M gx2 gx3 gx4 hF; exact False.elim hF
    | succ n ih =>
    intro x2 x3 x4 M gx2 gx3 gx4 hF
    have hF : wb_X5_doubledSizes_b15 c Q  (jit (fun _ _ _ _ => False) (wb_X5_doubledSizes_b15 c Q ) n) x2 x3 x4 M := hF
    unfold wb_X5_doubledSizes_b15 at hF
    refine j_iload hJ dX5_doubledSizes_15 4 rfl ?_
    refine j_aload_n hJ dX5_doubledSizes_17 rfl 0 rfl ?_
    refine j_gi hJ (kP_0 hc) fC_8_0 rfl fl_X5_82 dX5_doubledSizes_18 (fun v1 ev1 gv1 => ?_)
    have hF := hF v1 ev1 gv1
    refine j_icmp_ge hJ 85 gx4 gv1 dX5_doubledSizes_21 (by decide) (fun z2 => ?_) (fun z2 => ?_)
    · have hF := hF.1 z2
      refine j_iload_n hJ dX5_doubledSizes_85 rfl 2 rfl ?_
      exact j_iret hJ rfl gx2 dX5_doubledSizes_86 hF
    · have hF := hF.2 z2
      refine j_aload_n hJ dX5_doubledSizes_24 rfl 0 rfl ?_
      refine j_gr (e := (c + 18)) hJ (kP_0 hc) fC_8_20 fl_X5_78 dX5_doubledSizes_25 rfl ?_
      refine j_gr (e := (c + 26)) hJ (kP_18 hc) fC_11_10 fl_X5_192 dX5_doubledSizes_28 rfl ?_
      refine j_iload hJ dX5_doubledSizes_31 4 rfl ?_
      refine j_iald hJ gx4 (kP_26 hc) hF.1 hF.2.1 dX5_doubledSizes_33 (fun v3 ev3 gv3 => ?_)
      have hF := hF.2.2 v3 ev3 gv3
      refine j_iload_n hJ dX5_doubledSizes_34 rfl 3 rfl ?_
      refine j_icmp_ne hJ 44 gv3 gx3 dX5_doubledSizes_35 (by decide) (fun z4 => ?_) (fun z4 => ?_)
      · have hF := hF.1 z4
        refine j_aload_n hJ dX5_doubledSizes_44 rfl 0 rfl ?_
        refine j_gr (e := (c + 18)) hJ (kP_0 hc) fC_8_20 fl_X5_78 dX5_doubledSizes_45 rfl ?_
        refine j_gr (e := (c + 26)) hJ (kP_18 hc) fC_11_10 fl_X5_192 dX5_doubledSizes_48 rfl ?_
        refine j_iload hJ dX5_doubledSizes_51 4 rfl ?_
        refine j_iald hJ gx4 (kP_26 hc) hF.1 hF.2.1 dX5_doubledSizes_53 (fun v5 ev5 gv5 => ?_)
        have hF := hF.2.2 v5 ev5 gv5
        refine j_iconst hJ dX5_doubledSizes_54 ?_
        refine j_icmp_eq hJ 79 gv5 rk_m1 dX5_doubledSizes_55 (by decide) (fun z6 => ?_) (fun z6 => ?_)
        · have hF := hF.1 z6
          exact j_sub hJ [0, 1, 2, 3, 4] rfl (k_X5_doubledSizes_b79 hin hc hJ ih x2 x3 x4 _ gx2 gx3 gx4 hF)
        · have hF := hF.2 z6
          refine j_iload_n hJ dX5_doubledSizes_58 rfl 2 rfl ?_
          refine j_aload_n hJ dX5_doubledSizes_59 rfl 1 rfl ?_
          refine j_aload_n hJ dX5_doubledSizes_60 rfl 0 rfl ?_
          refine j_gr (e := (c + 2)) hJ (kP_0 hc) fC_8_2 fl_X5_15 dX5_doubledSizes_61 rfl ?_
          refine j_iload hJ dX5_doubledSizes_64 4 rfl ?_
          refine j_iald hJ gx4 (kP_2 hc) hF.1 hF.2.1 dX5_doubledSizes_66 (fun v7 ev7 gv7 => ?_)
          have hF := hF.2.2 v7 ev7 gv7
          refine j_aload_n hJ dX5_doubledSizes_67 rfl 0 rfl ?_
          refine j_gr (e := (c + 3)) hJ (kP_0 hc) fC_8_3 fl_X5_18 dX5_doubledSizes_68 rfl ?_
          refine j_iload hJ dX5_doubledSizes_71 4 rfl ?_
          refine j_iald hJ gx4 (kP_3 hc) hF.1 hF.2.1 dX5_doubledSizes_73 (fun v8 ev8 gv8 => ?_)
          have hF := hF.2.2 v8 ev8 gv8
          refine j_callVi hJ (c_X10_sizeOf (l := l) (D := D) (cy := cy) (ad := ad) hin) rfl om_387 ⟨rfl, rfl, Nat.le_of_ble_eq_true rfl, Nat.le_of_ble_eq_true rfl⟩ [.int (Ii v7), .int (Ii v8)] mv_X5_198 hd_X10_sizeOfv kC_8 rfl rfl rfl (Nat.le_of_ble_eq_true rfl) dX5_doubledSizes_74 ⟨v7, v8, rfl, gv7, gv8, hF⟩ (fun r9 M10 gr9 qM10 => ?_)
          have hF := qM10 gr9
          refine j_iadd hJ dX5_doubledSizes_77 ?_
          have g11 := hF.1; have hF := hF.2
          refine j_istore_n (lv' := [(2, .int (Ii (x2 + r9))), (0, .ref (ad c)), (1, .ref (ad 8)), (3, .int (Ii x3)), (4, .int (Ii x4))]) hJ dX5_doubledSizes_78 rfl (by decide) rfl ?_
          exact j_sub hJ [1, 2, 0, 3, 4] rfl (k_X5_doubledSizes_b79 hin hc hJ ih (x2 + r9) x3 x4 _ g11 gx3 gx4 hF)
      · have hF := hF.2 z4
        refine j_iinc (lv' := [(3, .int (Ii (x3 + 1))), (0, .ref (ad c)), (1, .ref (ad 8)), (2, .int (Ii x2)), (4, .int (Ii x4))]) (k := 3) hJ dX5_doubledSizes_38 rfl (by decide) rfl ?_
        have g12 := hF.1; have hF := hF.2
        refine j_goto hJ 79 dX5_doubledSizes_41 (by decide) ?_
        exact j_sub hJ [1, 2, 3, 0, 4] rfl (k_X5_doubledSizes_b79 hin hc hJ ih x2 (x3 + 1) x4 _ gx2 g12 gx4 hF)
  intro x2 x3 x4 M gx2 gx3 gx4 hF
  obtain ⟨n, hF⟩ := hF
  exact H9 n x2 x3 x4 M gx2 gx3 gx4 hF
set_option maxHeartbeats 4000000 in
set_option maxRecDepth 100000 in
theorem c_X5_doubledSizes {l : Launch} {D : va_G} {cy : Nat → ClassId} {ad : Nat → Nat} (hin : jIn ad ksC.length) : jCN l D vwCl (tyC cy) cy ad ftC ksC (XtC ad) yX5_doubledSizes (.code yX5_doubledSizes cX5_doubledSizes 5 (some .int) :: Om) ({ frames := 2, cells := 0, slots := 0, locals := 49 } : Room) 1 (W_X5_doubledSizes ad) := by
  refine jCN_of (y := yX5_doubledSizes) (cc := cX5_doubledSizes) (nL := 5) (rk := 1) (rm := ({ frames := 2, cells := 0, slots := 0, locals := 49 } : Room)) (own := RX5) (tyC_ok cy) hin (XtC_ok ad) Om_good (by decide) rfl ?_
  intro Q av M hF
  obtain ⟨c, rfl, hc, hF⟩ := hF
  refine ⟨Nat.le_of_ble_eq_true rfl, fun J hJ => ?_⟩
  show J 0 [(0, .ref (ad c)), (1, .ref (ad 8))] [] M
  unfold w_X5_doubledSizes at hF
  refine j_aload_n hJ dX5_doubledSizes_0 rfl 0 rfl ?_
  refine j_gr (e := (c + 18)) hJ (kP_0 hc) fC_8_20 fl_X5_78 dX5_doubledSizes_1 rfl ?_
  refine j_aload_n hJ dX5_doubledSizes_4 rfl 0 rfl ?_
  refine j_callVv hJ (c_X8_needTwins (l := l) (D := D) (cy := cy) (ad := ad) hin) rfl om_508 ⟨rfl, rfl, Nat.le_of_ble_eq_true rfl, Nat.le_of_ble_eq_true rfl⟩ [.ref (ad c)] mv_X5_189 hd_X8_needTwinsv (kP_18 hc) rfl rfl rfl (Nat.le_of_ble_eq_true rfl) dX5_doubledSizes_5 ⟨(c + 18), c, rfl, (isS_P hc), hc, hF⟩ (fun M2 qM2 => ?_)
  have hF := qM2
  refine j_iconst hJ dX5_doubledSizes_8 ?_
  refine j_istore_n (lv' := [(2, .int (Ii 0)), (0, .ref (ad c)), (1, .ref (ad 8))]) hJ dX5_doubledSizes_9 rfl (by decide) rfl ?_
  refine j_iconst hJ dX5_doubledSizes_10 ?_
  refine j_istore_n (lv' := [(3, .int (Ii 0)), (2, .int (Ii 0)), (0, .ref (ad c)), (1, .ref (ad 8))]) hJ dX5_doubledSizes_11 rfl (by decide) rfl ?_
  refine j_iconst hJ dX5_doubledSizes_12 ?_
  refine j_istore (lv' := [(4, .int (Ii 0)), (3, .int (Ii 0)), (2, .int (Ii 0)), (0, .ref (ad c)), (1, .ref (ad 8))]) hJ dX5_doubledSizes_13 (by decide) rfl ?_
  exact j_sub hJ [3, 4, 2, 1, 0] rfl (k_X5_doubledSizes_b15 hin hc hJ  0 0 0 _ rk_0 rk_0 rk_0 hF)
def W_X5_countOf (ad : Nat → Nat) (Q : Int → MM → Prop) (av : List Value) (M : MM) : Prop := ∃ (c : Nat) (p1 : Int), av = [.ref (ad c), .int (Ii p1)] ∧ isP c ∧ ri_ p1 ∧ w_X5_countOf c Q p1 M
set_option maxHeartbeats 4000000 in
set_option maxRecDepth 100000 in
theorem k_X5_countOf_b25 {l : Launch} {D : va_G} {cy : Nat → ClassId} {ad : Nat → Nat} {Q : Int → MM → Prop} {J : Nat → List (Nat × Value) → List Value → MM → Prop} (hin : jIn ad ksC.length) {c : Nat} (hc : isP c) (hJ : jOk l D vwCl (tyC cy) cy ad ftC ksC (XtC ad) Om RX5 cX5_countOf 4 1 ({ frames := 0, cells := 0, slots := 0, locals := 0 } : Room) Q J) {K4 : Int → Int → Int → MM → Prop} (hK4 : ∀ (x1 x2 x3 : Int) (M : MM), ri_ x1 → ri_ x2 → ri_ x3 → K4 x1 x2 x3 M → J 4 [(0, .ref (ad c)), (1, .int (Ii x1)), (2, .int (Ii x2)), (3, .int (Ii x3))] [] M) : ∀ (x1 x2 x3 : Int) (M : MM), ri_ x1 → ri_ x2 → ri_ x3 → w_X5_countOf_b25 c Q K4 x1 x2 x3 M → J 25 [(0, .ref (ad c)), (1, .int (Ii x1)), (2, .int (Ii x2)), (3, .int (Ii x3))] [] M := by
  intro x1 x2 x3 M gx1 gx2 gx3 hF
  unfold w_X5_countOf_b25 at hF
  refine j_iinc (lv' := [(3, .int (Ii (x3 + 1))), (0, .ref (ad c)), (1, .int (Ii x1)), (2, .int (Ii x2))]) (k := 3) hJ dX5_countOf_25 rfl (by decide) rfl ?_
  have g1 := hF.1; have hF := hF.2
  refine j_goto hJ 4 dX5_countOf_28 (by decide) ?_
  exact j_sub hJ [1, 2, 3, 0] rfl (hK4 x1 x2 (x3 + 1) _ gx1 gx2 g1 hF)
set_option maxHeartbeats 4000000 in
set_option maxRecDepth 100000 in
theorem k_X5_countOf_b4 {l : Launch} {D : va_G} {cy : Nat → ClassId} {ad : Nat → Nat} {Q : Int → MM → Prop} {J : Nat → List (Nat × Value) → List Value → MM → Prop} (hin : jIn ad ksC.length) {c : Nat} (hc : isP c) (hJ : jOk l D vwCl (tyC cy) cy ad ftC ksC (XtC ad) Om RX5 cX5_countOf 4 1 ({ frames := 0, cells := 0, slots := 0, locals := 0 } : Room) Q J)  : ∀ (x1 x2 x3 : Int) (M : MM), ri_ x1 → ri_ x2 → ri_ x3 → w_X5_countOf_b4 c Q  x1 x2 x3 M → J 4 [(0, .ref (ad c)), (1, .int (Ii x1)), (2, .int (Ii x2)), (3, .int (Ii x3))] [] M := by
  have H9 : ∀ (n : Nat) (x1 x2 x3 : Int) (M : MM), ri_ x1 → ri_ x2 → ri_ x3 → jit (fun _ _ _ _ => False) (wb_X5_countOf_b4 c Q ) n x1 x2 x3 M → J 4 [(0, .ref (ad c)), (1, .int (Ii x1)), (2, .int (Ii x2)), (3, .int (Ii x3))] [] M := by
    intro n
    induction n with
    | zero => intro x1 x2 x3 M gx1 gx2 gx3 hF; exact False.elim hF
    | succ n ih =>
    intro x1 x2 x3 M gx1 gx2 gx3 hF
    have hF : wb_X5_countOf_b4 c Q  (jit (fun _ _ _ _ => False) (wb_X5_countOf_b4 c Q ) n) x1 x2 x3 M := hF
    unfold wb_X5_countOf_b4 at hF
    refine j_iload_n hJ dX5_countOf_4 rfl 3 rfl ?_
    refine j_aload_n hJ dX5_countOf_5 rfl 0 rfl ?_
    refine j_gi hJ (kP_0 hc) fC_8_0 rfl fl_X5_82 dX5_countOf_6 (fun v1 ev1 gv1 => ?_)
    have hF := hF v1 ev1 gv1
    refine j_icmp_ge hJ 31 gx3 gv1 dX5_countOf_9 (by decide) (fun z2 => ?_) (fun z2 => ?_)
    · have hF := hF.1 z2
      refine j_iload_n hJ dX5_countOf_31 rfl 2 rfl ?_
      exact j_iret hJ rfl gx2 dX5_countOf_32 hF
    · have hF := hF.2 z2
      refine j_aload_n hJ dX5_countOf_12 rfl 0 rfl ?_
      refine j_gr (e := (c + 2)) hJ (kP_0 hc) fC_8_2 fl_X5_15 dX5_countOf_13 rfl ?_
      refine j_iload_n hJ dX5_countOf_16 rfl 3 rfl ?_
      refine j_iald hJ gx3 (kP_2 hc) hF.1 hF.2.1 dX5_countOf_17 (fun v3 ev3 gv3 => ?_)
      have hF := hF.2.2 v3 ev3 gv3
      refine j_iload_n hJ dX5_countOf_18 rfl 1 rfl ?_
      refine j_icmp_ne hJ 25 gv3 gx1 dX5_countOf_19 (by decide) (fun z4 => ?_) (fun z4 => ?_)
      · have hF := hF.1 z4
        exact j_sub hJ [0, 1, 2, 3] rfl (k_X5_countOf_b25 hin hc hJ ih x1 x2 x3 _ gx1 gx2 gx3 hF)
      · have hF := hF.2 z4
        refine j_iinc (lv' := [(2, .int (Ii (x2 + 1))), (0, .ref (ad c)), (1, .int (Ii x1)), (3, .int (Ii x3))]) (k := 2) hJ dX5_countOf_22 rfl (by decide) rfl ?_
        have g5 := hF.1; have hF := hF.2
        exact j_sub hJ [1, 2, 0, 3] rfl (k_X5_countOf_b25 hin hc hJ ih x1 (x2 + 1) x3 _ gx1 g5 gx3 hF)
  intro x1 x2 x3 M gx1 gx2 gx3 hF
  obtain ⟨n, hF⟩ := hF
  exact H9 n x1 x2 x3 M gx1 gx2 gx3 hF
set_option maxHeartbeats 4000000 in
set_option maxRecDepth 100000 in
theorem c_X5_countOf {l : Launch} {D : va_G} {cy : Nat → ClassId} {ad : Nat → Nat} (hin : jIn ad ksC.length) : jCN l D vwCl (tyC cy) cy ad ftC ksC (XtC ad) yX5_countOf (.code yX5_countOf cX5_countOf 4 (some .int) :: Om) ({ frames := 0, cells := 0, slots := 0, locals := 0 } : Room) 1 (W_X5_countOf ad) := by
  refine jCN_of (y := yX5_countOf) (cc := cX5_countOf) (nL := 4) (rk := 1) (rm := ({ frames := 0, cells := 0, slots := 0, locals := 0 } : Room)) (own := RX5) (tyC_ok cy) hin (XtC_ok ad) Om_good (by decide) rfl ?_
  intro Q av M hF
  obtain ⟨c, p1, rfl, hc, gp1, hF⟩ := hF
  refine ⟨Nat.le_of_ble_eq_true rfl, fun J hJ => ?_⟩
  show J 0 [(0, .ref (ad c)), (1, .int (Ii p1))] [] M
  unfold w_X5_countOf at hF
  refine j_iconst hJ dX5_countOf_0 ?_
  refine j_istore_n (lv' := [(2, .int (Ii 0)), (0, .ref (ad c)), (1, .int (Ii p1))]) hJ dX5_countOf_1 rfl (by decide) rfl ?_
  refine j_iconst hJ dX5_countOf_2 ?_
  refine j_istore_n (lv' := [(3, .int (Ii 0)), (2, .int (Ii 0)), (0, .ref (ad c)), (1, .int (Ii p1))]) hJ dX5_countOf_3 rfl (by decide) rfl ?_
  exact j_sub hJ [2, 3, 1, 0] rfl (k_X5_countOf_b4 hin hc hJ  p1 0 0 _ gp1 rk_0 rk_0 hF)
def W_X5_countHeirs (ad : Nat → Nat) (Q : Int → MM → Prop) (av : List Value) (M : MM) : Prop := ∃ (c : Nat) (p2 : Int), av = [.ref (ad c), .ref (ad 8), .int (Ii p2)] ∧ isP c ∧ ri_ p2 ∧ w_X5_countHeirs c Q p2 M
set_option maxHeartbeats 4000000 in
set_option maxRecDepth 100000 in
theorem k_X5_countHeirs_b45 {l : Launch} {D : va_G} {cy : Nat → ClassId} {ad : Nat → Nat} {Q : Int → MM → Prop} {J : Nat → List (Nat × Value) → List Value → MM → Prop} (hin : jIn ad ksC.length) {c : Nat} (hc : isP c) (hJ : jOk l D vwCl (tyC cy) cy ad ftC ksC (XtC ad) Om RX5 cX5_countHeirs 5 1 ({ frames := 1, cells := 0, slots := 0, locals := 24 } : Room) Q J) {K5 : Int → Int → Int → MM → Prop} (hK5 : ∀ (x2 x3 x4 : Int) (M : MM), ri_ x2 → ri_ x3 → ri_ x4 → K5 x2 x3 x4 M → J 5 [(0, .ref (ad c)), (1, .ref (ad 8)), (2, .int (Ii x2)), (3, .int (Ii x3)), (4, .int (Ii x4))] [] M) : ∀ (x2 x3 x4 : Int) (M : MM), ri_ x2 → ri_ x3 → ri_ x4 → w_X5_countHeirs_b45 c Q K5 x2 x3 x4 M → J 45 [(0, .ref (ad c)), (1, .ref (ad 8)), (2, .int (Ii x2)), (3, .int (Ii x3)), (4, .int (Ii x4))] [] M := by
  intro x2 x3 x4 M gx2 gx3 gx4 hF
  unfold w_X5_countHeirs_b45 at hF
  refine j_iinc (lv' := [(4, .int (Ii (x4 + 1))), (0, .ref (ad c)), (1, .ref (ad 8)), (2, .int (Ii x2)), (3, .int (Ii x3))]) (k := 4) hJ dX5_countHeirs_45 rfl (by decide) rfl ?_
  have g1 := hF.1; have hF := hF.2
  refine j_goto hJ 5 dX5_countHeirs_48 (by decide) ?_
  exact j_sub hJ [1, 2, 3, 4, 0] rfl (hK5 x2 x3 (x4 + 1) _ gx2 gx3 g1 hF)
set_option maxHeartbeats 4000000 in
set_option maxRecDepth 100000 in
theorem k_X5_countHeirs_b5 {l : Launch} {D : va_G} {cy : Nat → ClassId} {ad : Nat → Nat} {Q : Int → MM → Prop} {J : Nat → List (Nat × Value) → List Value → MM → Prop} (hin : jIn ad ksC.length) {c : Nat} (hc : isP c) (hJ : jOk l D vwCl (tyC cy) cy ad ftC ksC (XtC ad) Om RX5 cX5_countHeirs 5 1 ({ frames := 1, cells := 0, slots := 0, locals := 24 } : Room) Q J)  : ∀ (x2 x3 x4 : Int) (M : MM), ri_ x2 → ri_ x3 → ri_ x4 → w_X5_countHeirs_b5 c Q  x2 x3 x4 M → J 5 [(0, .ref (ad c)), (1, .ref (ad 8)), (2, .int (Ii x2)), (3, .int (Ii x3)), (4, .int (Ii x4))] [] M := by
  have H9 : ∀ (n : Nat) (x2 x3 x4 : Int) (M : MM), ri_ x2 → ri_ x3 → ri_ x4 → jit (fun _ _ _ _ => False) (wb_X5_countHeirs_b5 c Q ) n x2 x3 x4 M → J 5 [(0, .ref (ad c)), (1, .ref (ad 8)), (2, .int (Ii x2)), (3, .int (Ii x3)), (4, .int (Ii x4))] [] M := by
    intro n
    induction n with
    | zero => intro x2 x3 x4 M gx2 gx3 gx4 hF; exact False.elim hF
    | succ n ih =>
    intro x2 x3 x4 M gx2 gx3 gx4 hF
    have hF : wb_X5_countHeirs_b5 c Q  (jit (fun _ _ _ _ => False) (wb_X5_countHeirs_b5 c Q ) n) x2 x3 x4 M := hF
    unfold wb_X5_countHeirs_b5 at hF
    refine j_iload hJ dX5_countHeirs_5 4 rfl ?_
    refine j_aload_n hJ dX5_countHeirs_7 rfl 0 rfl ?_
    refine j_gi hJ (kP_0 hc) fC_8_0 rfl fl_X5_82 dX5_countHeirs_8 (fun v1 ev1 gv1 => ?_)
    have hF := hF v1 ev1 gv1
    refine j_icmp_ge hJ 51 gx4 gv1 dX5_countHeirs_11 (by decide) (fun z2 => ?_) (fun z2 => ?_)
    · have hF := hF.1 z2
      refine j_iload_n hJ dX5_countHeirs_51 rfl 3 rfl ?_
      exact j_iret hJ rfl gx3 dX5_countHeirs_52 hF
    · have hF := hF.2 z2
      refine j_aload_n hJ dX5_countHeirs_14 rfl 0 rfl ?_
      refine j_gr (e := (c + 2)) hJ (kP_0 hc) fC_8_2 fl_X5_15 dX5_countHeirs_15 rfl ?_
      refine j_iload hJ dX5_countHeirs_18 4 rfl ?_
      refine j_iald hJ gx4 (kP_2 hc) hF.1 hF.2.1 dX5_countHeirs_20 (fun v3 ev3 gv3 => ?_)
      have hF := hF.2.2 v3 ev3 gv3
      refine j_callSz hJ (c_X10_isArray (l := l) (D := D) (cy := cy) (ad := ad) hin) rfl om_39 ⟨rfl, rfl, Nat.le_of_ble_eq_true rfl, Nat.le_of_ble_eq_true rfl⟩ [.int (Ii v3)] mv_X5_202 hd_X10_isArray rfl (Nat.le_of_ble_eq_true rfl) dX5_countHeirs_21 ⟨v3, rfl, gv3, hF⟩ (fun r4 M5 gr4 qM5 => ?_)
      have hF := qM5 gr4
      refine j_if_ne hJ 45 (jz_ri gr4) dX5_countHeirs_24 (by decide) (fun z6 => ?_) (fun z6 => ?_)
      · have hF := hF.1 z6
        exact j_sub hJ [0, 1, 2, 3, 4] rfl (k_X5_countHeirs_b45 hin hc hJ ih x2 x3 x4 _ gx2 gx3 gx4 hF)
      · have hF := hF.2 z6
        refine j_aload_n hJ dX5_countHeirs_27 rfl 1 rfl ?_
        refine j_aload_n hJ dX5_countHeirs_28 rfl 0 rfl ?_
        refine j_gr (e := (c + 2)) hJ (kP_0 hc) fC_8_2 fl_X5_15 dX5_countHeirs_29 rfl ?_
        refine j_iload hJ dX5_countHeirs_32 4 rfl ?_
        refine j_iald hJ gx4 (kP_2 hc) hF.1 hF.2.1 dX5_countHeirs_34 (fun v7 ev7 gv7 => ?_)
        have hF := hF.2.2 v7 ev7 gv7
        refine j_iload_n hJ dX5_countHeirs_35 rfl 2 rfl ?_
        refine j_callVz hJ (c_X10_isHeir (l := l) (D := D) (cy := cy) (ad := ad) hin) rfl om_84 ⟨rfl, rfl, Nat.le_of_ble_eq_true rfl, Nat.le_of_ble_eq_true rfl⟩ [.int (Ii v7), .int (Ii x2)] mv_X5_205 hd_X10_isHeirv kC_8 rfl rfl rfl (Nat.le_of_ble_eq_true rfl) dX5_countHeirs_36 ⟨v7, x2, rfl, gv7, gx2, hF⟩ (fun r8 M9 gr8 qM9 => ?_)
        have hF := qM9 gr8
        refine j_if_eq hJ 45 (jz_ri gr8) dX5_countHeirs_39 (by decide) (fun z10 => ?_) (fun z10 => ?_)
        · have hF := hF.1 z10
          exact j_sub hJ [0, 1, 2, 3, 4] rfl (k_X5_countHeirs_b45 hin hc hJ ih x2 x3 x4 _ gx2 gx3 gx4 hF)
        · have hF := hF.2 z10
          refine j_iinc (lv' := [(3, .int (Ii (x3 + 1))), (0, .ref (ad c)), (1, .ref (ad 8)), (2, .int (Ii x2)), (4, .int (Ii x4))]) (k := 3) hJ dX5_countHeirs_42 rfl (by decide) rfl ?_
          have g11 := hF.1; have hF := hF.2
          exact j_sub hJ [1, 2, 3, 0, 4] rfl (k_X5_countHeirs_b45 hin hc hJ ih x2 (x3 + 1) x4 _ gx2 g11 gx4 hF)
  intro x2 x3 x4 M gx2 gx3 gx4 hF
  obtain ⟨n, hF⟩ := hF
  exact H9 n x2 x3 x4 M gx2 gx3 gx4 hF
set_option maxHeartbeats 4000000 in
set_option maxRecDepth 100000 in
theorem c_X5_countHeirs {l : Launch} {D : va_G} {cy : Nat → ClassId} {ad : Nat → Nat} (hin : jIn ad ksC.length) : jCN l D vwCl (tyC cy) cy ad ftC ksC (XtC ad) yX5_countHeirs (.code yX5_countHeirs cX5_countHeirs 5 (some .int) :: Om) ({ frames := 1, cells := 0, slots := 0, locals := 24 } : Room) 1 (W_X5_countHeirs ad) := by
  refine jCN_of (y := yX5_countHeirs) (cc := cX5_countHeirs) (nL := 5) (rk := 1) (rm := ({ frames := 1, cells := 0, slots := 0, locals := 24 } : Room)) (own := RX5) (tyC_ok cy) hin (XtC_ok ad) Om_good (by decide) rfl ?_
  intro Q av M hF
  obtain ⟨c, p2, rfl, hc, gp2, hF⟩ := hF
  refine ⟨Nat.le_of_ble_eq_true rfl, fun J hJ => ?_⟩
  show J 0 [(0, .ref (ad c)), (1, .ref (ad 8)), (2, .int (Ii p2))] [] M
  unfold w_X5_countHeirs at hF
  refine j_iconst hJ dX5_countHeirs_0 ?_
  refine j_istore_n (lv' := [(3, .int (Ii 0)), (0, .ref (ad c)), (1, .ref (ad 8)), (2, .int (Ii p2))]) hJ dX5_countHeirs_1 rfl (by decide) rfl ?_
  refine j_iconst hJ dX5_countHeirs_2 ?_
  refine j_istore (lv' := [(4, .int (Ii 0)), (3, .int (Ii 0)), (0, .ref (ad c)), (1, .ref (ad 8)), (2, .int (Ii p2))]) hJ dX5_countHeirs_3 (by decide) rfl ?_
  exact j_sub hJ [2, 3, 4, 1, 0] rfl (k_X5_countHeirs_b5 hin hc hJ  p2 0 0 _ gp2 rk_0 rk_0 hF)
def W_X5_reach (ad : Nat → Nat) (Q : Int → MM → Prop) (av : List Value) (M : MM) : Prop := ∃ (c : Nat) (p1 : Int) (p2 : Int), av = [.ref (ad c), .int (Ii p1), .int (Ii p2)] ∧ isP c ∧ ri_ p1 ∧ ri_ p2 ∧ w_X5_reach c Q p1 p2 M
set_option maxHeartbeats 4000000 in
set_option maxRecDepth 100000 in
theorem c_X5_reach {l : Launch} {D : va_G} {cy : Nat → ClassId} {ad : Nat → Nat} (hin : jIn ad ksC.length) : jCN l D vwCl (tyC cy) cy ad ftC ksC (XtC ad) yX5_reach (.code yX5_reach cX5_reach 3 (some .int) :: Om) ({ frames := 0, cells := 0, slots := 0, locals := 0 } : Room) 1 (W_X5_reach ad) := by
  refine jCN_of (y := yX5_reach) (cc := cX5_reach) (nL := 3) (rk := 1) (rm := ({ frames := 0, cells := 0, slots := 0, locals := 0 } : Room)) (own := RX5) (tyC_ok cy) hin (XtC_ok ad) Om_good (by decide) rfl ?_
  intro Q av M hF
  obtain ⟨c, p1, p2, rfl, hc, gp1, gp2, hF⟩ := hF
  refine ⟨Nat.le_of_ble_eq_true rfl, fun J hJ => ?_⟩
  show J 0 [(0, .ref (ad c)), (1, .int (Ii p1)), (2, .int (Ii p2))] [] M
  unfold w_X5_reach at hF
  refine j_aload_n hJ dX5_reach_0 rfl 0 rfl ?_
  refine j_gr (e := (c + 15)) hJ (kP_0 hc) fC_8_17 fl_X5_64 dX5_reach_1 rfl ?_
  refine j_iload_n hJ dX5_reach_4 rfl 1 rfl ?_
  refine j_iald hJ gp1 (kP_15 hc) hF.1 hF.2.1 dX5_reach_5 (fun v1 ev1 gv1 => ?_)
  have hF := hF.2.2 v1 ev1 gv1
  refine j_if_ne hJ 18 gv1 dX5_reach_6 (by decide) (fun z2 => ?_) (fun z2 => ?_)
  · have hF := hF.1 z2
    refine j_iload_n hJ dX5_reach_18 rfl 2 rfl ?_
    exact j_iret hJ rfl gp2 dX5_reach_19 hF
  · have hF := hF.2 z2
    refine j_aload_n hJ dX5_reach_9 rfl 0 rfl ?_
    refine j_gr (e := (c + 13)) hJ (kP_0 hc) fC_8_14 fl_X5_58 dX5_reach_10 rfl ?_
    refine j_iload_n hJ dX5_reach_13 rfl 1 rfl ?_
    refine j_zald hJ gp1 (kP_13 hc) hF.1 hF.2.1 dX5_reach_14 (fun v3 ev3 gv3 => ?_)
    have hF := hF.2.2 v3 ev3 gv3
    refine j_if_eq hJ 20 (jz_ri gv3) dX5_reach_15 (by decide) (fun z4 => ?_) (fun z4 => ?_)
    · have hF := hF.1 z4
      refine j_aload_n hJ dX5_reach_20 rfl 0 rfl ?_
      refine j_gr (e := (c + 15)) hJ (kP_0 hc) fC_8_17 fl_X5_64 dX5_reach_21 rfl ?_
      refine j_iload_n hJ dX5_reach_24 rfl 1 rfl ?_
      refine j_iconst hJ dX5_reach_25 ?_
      refine j_iast hJ gp1 rk_1 (kP_15 hc) hF.1 hF.2.1 dX5_reach_26 (fun M5 eM5 => ?_)
      have hF := hF.2.2 M5 eM5
      refine j_aload_n hJ dX5_reach_27 rfl 0 rfl ?_
      refine j_gr (e := (c + 17)) hJ (kP_0 hc) fC_8_19 fl_X5_70 dX5_reach_28 rfl ?_
      refine j_iload_n hJ dX5_reach_31 rfl 2 rfl ?_
      refine j_iload_n hJ dX5_reach_32 rfl 1 rfl ?_
      refine j_iast hJ gp2 gp1 (kP_17 hc) hF.1 hF.2.1 dX5_reach_33 (fun M6 eM6 => ?_)
      have hF := hF.2.2 M6 eM6
      refine j_iload_n hJ dX5_reach_34 rfl 2 rfl ?_
      refine j_iconst hJ dX5_reach_35 ?_
      refine j_iadd hJ dX5_reach_36 ?_
      have g7 := hF.1; have hF := hF.2
      exact j_iret hJ rfl g7 dX5_reach_37 hF
    · have hF := hF.2 z4
      refine j_iload_n hJ dX5_reach_18 rfl 2 rfl ?_
      exact j_iret hJ rfl gp2 dX5_reach_19 hF
def W_X5_findLost (ad : Nat → Nat) (Q : Int → MM → Prop) (av : List Value) (M : MM) : Prop := ∃ (c : Nat), av = [.ref (ad c)] ∧ isP c ∧ w_X5_findLost c Q  M
set_option maxHeartbeats 4000000 in
set_option maxRecDepth 100000 in
theorem k_X5_findLost_b178 {l : Launch} {D : va_G} {cy : Nat → ClassId} {ad : Nat → Nat} {Q : Int → MM → Prop} {J : Nat → List (Nat × Value) → List Value → MM → Prop} (hin : jIn ad ksC.length) {c : Nat} (hc : isP c) (hJ : jOk l D vwCl (tyC cy) cy ad ftC ksC (XtC ad) Om RX5 cX5_findLost 4 1 ({ frames := 2, cells := 0, slots := 0, locals := 46 } : Room) Q J) {K141 : Int → MM → Prop} (hK141 : ∀ (x2 : Int) (M : MM), ri_ x2 → K141 x2 M → J 141 [(0, .ref (ad c)), (2, .int (Ii x2))] [] M) : ∀ (x2 : Int) (M : MM), ri_ x2 → w_X5_findLost_b178 c Q K141 x2 M → J 178 [(0, .ref (ad c)), (2, .int (Ii x2))] [] M := by
  intro x2 M gx2 hF
  unfold w_X5_findLost_b178 at hF
  refine j_iinc (lv' := [(2, .int (Ii (x2 + 1))), (0, .ref (ad c))]) (k := 1) hJ dX5_findLost_178 rfl (by decide) rfl ?_
  have g1 := hF.1; have hF := hF.2
  refine j_goto hJ 141 dX5_findLost_181 (by decide) ?_
  exact j_sub hJ [1, 0] rfl (hK141 (x2 + 1) _ g1 hF)
set_option maxHeartbeats 4000000 in
set_option maxRecDepth 100000 in
theorem k_X5_findLost_b141 {l : Launch} {D : va_G} {cy : Nat → ClassId} {ad : Nat → Nat} {Q : Int → MM → Prop} {J : Nat → List (Nat × Value) → List Value → MM → Prop} (hin : jIn ad ksC.length) {c : Nat} (hc : isP c) (hJ : jOk l D vwCl (tyC cy) cy ad ftC ksC (XtC ad) Om RX5 cX5_findLost 4 1 ({ frames := 2, cells := 0, slots := 0, locals := 46 } : Room) Q J)  : ∀ (x2 : Int) (M : MM), ri_ x2 → w_X5_findLost_b141 c Q  x2 M → J 141 [(0, .ref (ad c)), (2, .int (Ii x2))] [] M := by
  have H9 : ∀ (n : Nat) (x2 : Int) (M : MM), ri_ x2 → jit (fun _ _ => False) (wb_X5_findLost_b141 c Q ) n x2 M → J 141 [(0, .ref (ad c)), (2, .int (Ii x2))] [] M := by
    intro n
    induction n with
    | zero => intro x2 M gx2 hF; exact False.elim hF
    | succ n ih =>
    intro x2 M gx2 hF
    have hF : wb_X5_findLost_b141 c Q  (jit (fun _ _ => False) (wb_X5_findLost_b141 c Q ) n) x2 M := hF
    unfold wb_X5_findLost_b141 at hF
    refine j_iload_n hJ dX5_findLost_141 rfl 1 rfl ?_
    refine j_aload_n hJ dX5_findLost_142 rfl 0 rfl ?_
    refine j_gi hJ (kP_0 hc) fC_8_0 rfl fl_X5_82 dX5_findLost_143 (fun v1 ev1 gv1 => ?_)
    have hF := hF v1 ev1 gv1
    refine j_icmp_ge hJ 184 gx2 gv1 dX5_findLost_146 (by decide) (fun z2 => ?_) (fun z2 => ?_)
    · have hF := hF.1 z2
      refine j_aload_n hJ dX5_findLost_184 rfl 0 rfl ?_
      refine j_gi hJ (kP_0 hc) fC_8_16 rfl fl_X5_89 dX5_findLost_185 (fun v3 ev3 gv3 => ?_)
      have hF := hF v3 ev3 gv3
      exact j_iret hJ rfl gv3 dX5_findLost_188 hF
    · have hF := hF.2 z2
      refine j_aload_n hJ dX5_findLost_149 rfl 0 rfl ?_
      refine j_gr (e := (c + 15)) hJ (kP_0 hc) fC_8_17 fl_X5_64 dX5_findLost_150 rfl ?_
      refine j_iload_n hJ dX5_findLost_153 rfl 1 rfl ?_
      refine j_iald hJ gx2 (kP_15 hc) hF.1 hF.2.1 dX5_findLost_154 (fun v4 ev4 gv4 => ?_)
      have hF := hF.2.2 v4 ev4 gv4
      refine j_if_ne hJ 178 gv4 dX5_findLost_155 (by decide) (fun z5 => ?_) (fun z5 => ?_)
      · have hF := hF.1 z5
        exact j_sub hJ [0, 1] rfl (k_X5_findLost_b178 hin hc hJ ih x2 _ gx2 hF)
      · have hF := hF.2 z5
        refine j_aload_n hJ dX5_findLost_158 rfl 0 rfl ?_
        refine j_gr (e := (c + 14)) hJ (kP_0 hc) fC_8_15 fl_X5_61 dX5_findLost_159 rfl ?_
        refine j_aload_n hJ dX5_findLost_162 rfl 0 rfl ?_
        refine j_gi hJ (kP_0 hc) fC_8_16 rfl fl_X5_89 dX5_findLost_163 (fun v6 ev6 gv6 => ?_)
        have hF := hF v6 ev6 gv6
        refine j_iload_n hJ dX5_findLost_166 rfl 1 rfl ?_
        refine j_iast hJ gv6 gx2 (kP_14 hc) hF.1 hF.2.1 dX5_findLost_167 (fun M7 eM7 => ?_)
        have hF := hF.2.2 M7 eM7
        refine j_aload_n hJ dX5_findLost_168 rfl 0 rfl ?_
        refine j_dup hJ dX5_findLost_169 rfl ?_
        refine j_gi hJ (kP_0 hc) fC_8_16 rfl fl_X5_89 dX5_findLost_170 (fun v8 ev8 gv8 => ?_)
        have hF := hF v8 ev8 gv8
        refine j_iconst hJ dX5_findLost_173 ?_
        refine j_iadd hJ dX5_findLost_174 ?_
        have g9 := hF.1; have hF := hF.2
        refine j_pi hJ g9 (kP_0 hc) fC_8_16 rfl fp_X5_89 dX5_findLost_175 (fun M10 eM10 => ?_)
        have hF := hF M10 eM10
        exact j_sub hJ [0, 1] rfl (k_X5_findLost_b178 hin hc hJ ih x2 _ gx2 hF)
  intro x2 M gx2 hF
  obtain ⟨n, hF⟩ := hF
  exact H9 n x2 M gx2 hF
set_option maxHeartbeats 4000000 in
set_option maxRecDepth 100000 in
theorem k_X5_findLost_b134 {l : Launch} {D : va_G} {cy : Nat → ClassId} {ad : Nat → Nat} {Q : Int → MM → Prop} {J : Nat → List (Nat × Value) → List Value → MM → Prop} (hin : jIn ad ksC.length) {c : Nat} (hc : isP c) (hJ : jOk l D vwCl (tyC cy) cy ad ftC ksC (XtC ad) Om RX5 cX5_findLost 4 1 ({ frames := 2, cells := 0, slots := 0, locals := 46 } : Room) Q J)  : ∀ (M : MM), w_X5_findLost_b134 c Q   M → J 134 [(0, .ref (ad c))] [] M := by
  intro  M  hF
  unfold w_X5_findLost_b134 at hF
  refine j_aload_n hJ dX5_findLost_134 rfl 0 rfl ?_
  refine j_iconst hJ dX5_findLost_135 ?_
  refine j_pi hJ rk_0 (kP_0 hc) fC_8_16 rfl fp_X5_89 dX5_findLost_136 (fun M1 eM1 => ?_)
  have hF := hF M1 eM1
  refine j_iconst hJ dX5_findLost_139 ?_
  refine j_istore_n (lv' := [(2, .int (Ii 0)), (0, .ref (ad c))]) hJ dX5_findLost_140 rfl (by decide) rfl ?_
  exact j_sub hJ [1, 0] rfl (k_X5_findLost_b141 hin hc hJ  0 _ rk_0 hF)
set_option maxHeartbeats 4000000 in
set_option maxRecDepth 100000 in
theorem k_X5_findLost_b122 {l : Launch} {D : va_G} {cy : Nat → ClassId} {ad : Nat → Nat} {Q : Int → MM → Prop} {J : Nat → List (Nat × Value) → List Value → MM → Prop} (hin : jIn ad ksC.length) {c : Nat} (hc : isP c) (hJ : jOk l D vwCl (tyC cy) cy ad ftC ksC (XtC ad) Om RX5 cX5_findLost 4 1 ({ frames := 2, cells := 0, slots := 0, locals := 46 } : Room) Q J) {K45 : Int → Int → MM → Prop} (hK45 : ∀ (x1 x2 : Int) (M : MM), ri_ x1 → ri_ x2 → K45 x1 x2 M → J 45 [(0, .ref (ad c)), (1, .int (Ii x1)), (2, .int (Ii x2))] [] M) {K70 : Int → Int → Int → MM → Prop} (hK70 : ∀ (x1 x2 x3 : Int) (M : MM), ri_ x1 → ri_ x2 → ri_ x3 → K70 x1 x2 x3 M → J 70 [(0, .ref (ad c)), (1, .int (Ii x1)), (2, .int (Ii x2)), (3, .int (Ii x3))] [] M) : ∀ (x1 x2 x3 : Int) (M : MM), ri_ x1 → ri_ x2 → ri_ x3 → w_X5_findLost_b122 c Q K45 K70 x1 x2 x3 M → J 122 [(0, .ref (ad c)), (1, .int (Ii x1)), (2, .int (Ii x2)), (3, .int (Ii x3))] [] M := by
  intro x1 x2 x3 M gx1 gx2 gx3 hF
  unfold w_X5_findLost_b122 at hF
  refine j_iinc (lv' := [(3, .int (Ii (x3 + 1))), (0, .ref (ad c)), (1, .int (Ii x1)), (2, .int (Ii x2))]) (k := 3) hJ dX5_findLost_122 rfl (by decide) rfl ?_
  have g1 := hF.1; have hF := hF.2
  refine j_goto hJ 70 dX5_findLost_125 (by decide) ?_
  exact j_sub hJ [1, 2, 3, 0] rfl (hK70 x1 x2 (x3 + 1) _ gx1 gx2 g1 hF)
set_option maxHeartbeats 4000000 in
set_option maxRecDepth 100000 in
theorem k_X5_findLost_b70 {l : Launch} {D : va_G} {cy : Nat → ClassId} {ad : Nat → Nat} {Q : Int → MM → Prop} {J : Nat → List (Nat × Value) → List Value → MM → Prop} (hin : jIn ad ksC.length) {c : Nat} (hc : isP c) (hJ : jOk l D vwCl (tyC cy) cy ad ftC ksC (XtC ad) Om RX5 cX5_findLost 4 1 ({ frames := 2, cells := 0, slots := 0, locals := 46 } : Room) Q J) {K45 : Int → Int → MM → Prop} (hK45 : ∀ (x1 x2 : Int) (M : MM), ri_ x1 → ri_ x2 → K45 x1 x2 M → J 45 [(0, .ref (ad c)), (1, .int (Ii x1)), (2, .int (Ii x2))] [] M) : ∀ (x1 x2 x3 : Int) (M : MM), ri_ x1 → ri_ x2 → ri_ x3 → w_X5_findLost_b70 c Q K45 x1 x2 x3 M → J 70 [(0, .ref (ad c)), (1, .int (Ii x1)), (2, .int (Ii x2)), (3, .int (Ii x3))] [] M := by
  have H9 : ∀ (n : Nat) (x1 x2 x3 : Int) (M : MM), ri_ x1 → ri_ x2 → ri_ x3 → jit (fun _ _ _ _ => False) (wb_X5_findLost_b70 c Q K45) n x1 x2 x3 M → J 70 [(0, .ref (ad c)), (1, .int (Ii x1)), (2, .int (Ii x2)), (3, .int (Ii x3))] [] M := by
    intro n
    induction n with
    | zero => intro x1 x2 x3 M gx1 gx2 gx3 hF; exact False.elim hF
    | succ n ih =>
    intro x1 x2 x3 M gx1 gx2 gx3 hF
    have hF : wb_X5_findLost_b70 c Q K45 (jit (fun _ _ _ _ => False) (wb_X5_findLost_b70 c Q K45) n) x1 x2 x3 M := hF
    unfold wb_X5_findLost_b70 at hF
    refine j_iload_n hJ dX5_findLost_70 rfl 3 rfl ?_
    refine j_aload_n hJ dX5_findLost_71 rfl 0 rfl ?_
    refine j_gr (e := (c + 4)) hJ (kP_0 hc) fC_8_4 fl_X5_21 dX5_findLost_72 rfl ?_
    refine j_aload_n hJ dX5_findLost_75 rfl 0 rfl ?_
    refine j_gr (e := (c + 17)) hJ (kP_0 hc) fC_8_19 fl_X5_70 dX5_findLost_76 rfl ?_
    refine j_iload_n hJ dX5_findLost_79 rfl 2 rfl ?_
    refine j_iald hJ gx2 (kP_17 hc) hF.1 hF.2.1 dX5_findLost_80 (fun v1 ev1 gv1 => ?_)
    have hF := hF.2.2 v1 ev1 gv1
    refine j_iconst hJ dX5_findLost_81 ?_
    refine j_iadd hJ dX5_findLost_82 ?_
    have g2 := hF.1; have hF := hF.2
    refine j_iald hJ g2 (kP_4 hc) hF.1 hF.2.1 dX5_findLost_83 (fun v3 ev3 gv3 => ?_)
    have hF := hF.2.2 v3 ev3 gv3
    refine j_icmp_ge hJ 128 gx3 gv3 dX5_findLost_84 (by decide) (fun z4 => ?_) (fun z4 => ?_)
    · have hF := hF.1 z4
      refine j_iinc (lv' := [(2, .int (Ii (x2 + 1))), (0, .ref (ad c)), (1, .int (Ii x1)), (3, .int (Ii x3))]) (k := 2) hJ dX5_findLost_128 rfl (by decide) rfl ?_
      have g5 := hF.1; have hF := hF.2
      refine j_goto hJ 45 dX5_findLost_131 (by decide) ?_
      exact j_sub hJ [1, 2, 0] rfl (hK45 x1 (x2 + 1) _ gx1 g5 hF)
    · have hF := hF.2 z4
      refine j_aload_n hJ dX5_findLost_87 rfl 0 rfl ?_
      refine j_gr (e := (c + 10)) hJ (kP_0 hc) fC_8_10 fl_X5_48 dX5_findLost_88 rfl ?_
      refine j_iload_n hJ dX5_findLost_91 rfl 3 rfl ?_
      refine j_zald hJ gx3 (kP_10 hc) hF.1 hF.2.1 dX5_findLost_92 (fun v6 ev6 gv6 => ?_)
      have hF := hF.2.2 v6 ev6 gv6
      refine j_if_eq hJ 122 (jz_ri gv6) dX5_findLost_93 (by decide) (fun z7 => ?_) (fun z7 => ?_)
      · have hF := hF.1 z7
        exact j_sub hJ [0, 1, 2, 3] rfl (k_X5_findLost_b122 hin hc hJ hK45 ih x1 x2 x3 _ gx1 gx2 gx3 hF)
      · have hF := hF.2 z7
        refine j_aload_n hJ dX5_findLost_96 rfl 0 rfl ?_
        refine j_gr (e := (c + 9)) hJ (kP_0 hc) fC_8_9 fl_X5_44 dX5_findLost_97 rfl ?_
        refine j_iload_n hJ dX5_findLost_100 rfl 3 rfl ?_
        refine j_lald hJ gx3 (kP_9 hc) hF.1 hF.2.1 dX5_findLost_101 (fun v8 ev8 gv8 => ?_)
        have hF := hF.2.2 v8 ev8 gv8
        refine j_ldc2 hJ (-1) om_442 (by decide) dX5_findLost_102 ?_
        refine j_lcmp_eq hJ 122 gv8 lk_m1 dX5_findLost_105 dX5_findLost_106 (by decide) (fun z9 => ?_) (fun z9 => ?_)
        · have hF := hF.1 z9
          exact j_sub hJ [0, 1, 2, 3] rfl (k_X5_findLost_b122 hin hc hJ hK45 ih x1 x2 x3 _ gx1 gx2 gx3 hF)
        · have hF := hF.2 z9
          refine j_aload_n hJ dX5_findLost_109 rfl 0 rfl ?_
          refine j_aload_n hJ dX5_findLost_110 rfl 0 rfl ?_
          refine j_gr (e := (c + 9)) hJ (kP_0 hc) fC_8_9 fl_X5_44 dX5_findLost_111 rfl ?_
          refine j_iload_n hJ dX5_findLost_114 rfl 3 rfl ?_
          refine j_lald hJ gx3 (kP_9 hc) hF.1 hF.2.1 dX5_findLost_115 (fun v10 ev10 gv10 => ?_)
          have hF := hF.2.2 v10 ev10 gv10
          refine j_l2i hJ dX5_findLost_116 ?_
          have g11 := hF.1; have hF := hF.2
          refine j_iload_n hJ dX5_findLost_117 rfl 1 rfl ?_
          refine j_callVi hJ (c_X5_reach (l := l) (D := D) (cy := cy) (ad := ad) hin) rfl om_516 ⟨rfl, rfl, Nat.le_of_ble_eq_true rfl, Nat.le_of_ble_eq_true rfl⟩ [.int (Ii v10), .int (Ii x1)] mv_X5_212 hd_X5_reachv (kP_0 hc) rfl rfl rfl (Nat.le_of_ble_eq_true rfl) dX5_findLost_118 ⟨c, v10, x1, rfl, hc, g11, gx1, hF⟩ (fun r12 M13 gr12 qM13 => ?_)
          have hF := qM13 gr12
          refine j_istore_n (lv' := [(1, .int (Ii r12)), (0, .ref (ad c)), (2, .int (Ii x2)), (3, .int (Ii x3))]) hJ dX5_findLost_121 rfl (by decide) rfl ?_
          exact j_sub hJ [1, 0, 2, 3] rfl (k_X5_findLost_b122 hin hc hJ hK45 ih r12 x2 x3 _ gr12 gx2 gx3 hF)
  intro x1 x2 x3 M gx1 gx2 gx3 hF
  obtain ⟨n, hF⟩ := hF
  exact H9 n x1 x2 x3 M gx1 gx2 gx3 hF
set_option maxHeartbeats 4000000 in
set_option maxRecDepth 100000 in
theorem k_X5_findLost_b45 {l : Launch} {D : va_G} {cy : Nat → ClassId} {ad : Nat → Nat} {Q : Int → MM → Prop} {J : Nat → List (Nat × Value) → List Value → MM → Prop} (hin : jIn ad ksC.length) {c : Nat} (hc : isP c) (hJ : jOk l D vwCl (tyC cy) cy ad ftC ksC (XtC ad) Om RX5 cX5_findLost 4 1 ({ frames := 2, cells := 0, slots := 0, locals := 46 } : Room) Q J)  : ∀ (x1 x2 : Int) (M : MM), ri_ x1 → ri_ x2 → w_X5_findLost_b45 c Q  x1 x2 M → J 45 [(0, .ref (ad c)), (1, .int (Ii x1)), (2, .int (Ii x2))] [] M := by
  have H9 : ∀ (n : Nat) (x1 x2 : Int) (M : MM), ri_ x1 → ri_ x2 → jit (fun _ _ _ => False) (wb_X5_findLost_b45 c Q ) n x1 x2 M → J 45 [(0, .ref (ad c)), (1, .int (Ii x1)), (2, .int (Ii x2))] [] M := by
    intro n
    induction n with
    | zero => intro x1 x2 M gx1 gx2 hF; exact False.elim hF
    | succ n ih =>
    intro x1 x2 M gx1 gx2 hF
    have hF : wb_X5_findLost_b45 c Q  (jit (fun _ _ _ => False) (wb_X5_findLost_b45 c Q ) n) x1 x2 M := hF
    unfold wb_X5_findLost_b45 at hF
    refine j_iload_n hJ dX5_findLost_45 rfl 2 rfl ?_
    refine j_iload_n hJ dX5_findLost_46 rfl 1 rfl ?_
    refine j_icmp_ge hJ 134 gx2 gx1 dX5_findLost_47 (by decide) (fun z1 => ?_) (fun z1 => ?_)
    · have hF := hF.1 z1
      exact j_sub hJ [0] rfl (k_X5_findLost_b134 hin hc hJ   _  hF)
    · have hF := hF.2 z1
      refine j_iload_n hJ dX5_findLost_50 rfl 2 rfl ?_
      refine j_aload_n hJ dX5_findLost_51 rfl 0 rfl ?_
      refine j_gi hJ (kP_0 hc) fC_8_0 rfl fl_X5_82 dX5_findLost_52 (fun v2 ev2 gv2 => ?_)
      have hF := hF v2 ev2 gv2
      refine j_icmp_ge hJ 134 gx2 gv2 dX5_findLost_55 (by decide) (fun z3 => ?_) (fun z3 => ?_)
      · have hF := hF.1 z3
        exact j_sub hJ [0] rfl (k_X5_findLost_b134 hin hc hJ   _  hF)
      · have hF := hF.2 z3
        refine j_aload_n hJ dX5_findLost_58 rfl 0 rfl ?_
        refine j_gr (e := (c + 4)) hJ (kP_0 hc) fC_8_4 fl_X5_21 dX5_findLost_59 rfl ?_
        refine j_aload_n hJ dX5_findLost_62 rfl 0 rfl ?_
        refine j_gr (e := (c + 17)) hJ (kP_0 hc) fC_8_19 fl_X5_70 dX5_findLost_63 rfl ?_
        refine j_iload_n hJ dX5_findLost_66 rfl 2 rfl ?_
        refine j_iald hJ gx2 (kP_17 hc) hF.1 hF.2.1 dX5_findLost_67 (fun v4 ev4 gv4 => ?_)
        have hF := hF.2.2 v4 ev4 gv4
        refine j_iald hJ gv4 (kP_4 hc) hF.1 hF.2.1 dX5_findLost_68 (fun v5 ev5 gv5 => ?_)
        have hF := hF.2.2 v5 ev5 gv5
        refine j_istore_n (lv' := [(3, .int (Ii v5)), (0, .ref (ad c)), (1, .int (Ii x1)), (2, .int (Ii x2))]) hJ dX5_findLost_69 rfl (by decide) rfl ?_
        exact j_sub hJ [1, 2, 3, 0] rfl (k_X5_findLost_b70 hin hc hJ ih x1 x2 v5 _ gx1 gx2 gv5 hF)
  intro x1 x2 M gx1 gx2 hF
  obtain ⟨n, hF⟩ := hF
  exact H9 n x1 x2 M gx1 gx2 hF
set_option maxHeartbeats 4000000 in
set_option maxRecDepth 100000 in
theorem k_X5_findLost_b17 {l : Launch} {D : va_G} {cy : Nat → ClassId} {ad : Nat → Nat} {Q : Int → MM → Prop} {J : Nat → List (Nat × Value) → List Value → MM → Prop} (hin : jIn ad ksC.length) {c : Nat} (hc : isP c) (hJ : jOk l D vwCl (tyC cy) cy ad ftC ksC (XtC ad) Om RX5 cX5_findLost 4 1 ({ frames := 2, cells := 0, slots := 0, locals := 46 } : Room) Q J)  : ∀ (x1 x2 : Int) (M : MM), ri_ x1 → ri_ x2 → w_X5_findLost_b17 c Q  x1 x2 M → J 17 [(0, .ref (ad c)), (1, .int (Ii x1)), (2, .int (Ii x2))] [] M := by
  have H9 : ∀ (n : Nat) (x1 x2 : Int) (M : MM), ri_ x1 → ri_ x2 → jit (fun _ _ _ => False) (wb_X5_findLost_b17 c Q ) n x1 x2 M → J 17 [(0, .ref (ad c)), (1, .int (Ii x1)), (2, .int (Ii x2))] [] M := by
    intro n
    induction n with
    | zero => intro x1 x2 M gx1 gx2 hF; exact False.elim hF
    | succ n ih =>
    intro x1 x2 M gx1 gx2 hF
    have hF : wb_X5_findLost_b17 c Q  (jit (fun _ _ _ => False) (wb_X5_findLost_b17 c Q ) n) x1 x2 M := hF
    unfold wb_X5_findLost_b17 at hF
    refine j_iload_n hJ dX5_findLost_17 rfl 2 rfl ?_
    refine j_aload_n hJ dX5_findLost_18 rfl 0 rfl ?_
    refine j_gi hJ (kP_0 hc) fC_8_11 rfl fl_X5_86 dX5_findLost_19 (fun v1 ev1 gv1 => ?_)
    have hF := hF v1 ev1 gv1
    refine j_icmp_ge hJ 43 gx2 gv1 dX5_findLost_22 (by decide) (fun z2 => ?_) (fun z2 => ?_)
    · have hF := hF.1 z2
      refine j_iconst hJ dX5_findLost_43 ?_
      refine j_istore_n (lv' := [(2, .int (Ii 0)), (0, .ref (ad c)), (1, .int (Ii x1))]) hJ dX5_findLost_44 rfl (by decide) rfl ?_
      exact j_sub hJ [1, 2, 0] rfl (k_X5_findLost_b45 hin hc hJ  x1 0 _ gx1 rk_0 hF)
    · have hF := hF.2 z2
      refine j_aload_n hJ dX5_findLost_25 rfl 0 rfl ?_
      refine j_aload_n hJ dX5_findLost_26 rfl 0 rfl ?_
      refine j_gr (e := (c + 12)) hJ (kP_0 hc) fC_8_13 fl_X5_55 dX5_findLost_27 rfl ?_
      refine j_iload_n hJ dX5_findLost_30 rfl 2 rfl ?_
      refine j_iald hJ gx2 (kP_12 hc) hF.1 hF.2.1 dX5_findLost_31 (fun v3 ev3 gv3 => ?_)
      have hF := hF.2.2 v3 ev3 gv3
      refine j_iload_n hJ dX5_findLost_32 rfl 1 rfl ?_
      refine j_callVi hJ (c_X5_reach (l := l) (D := D) (cy := cy) (ad := ad) hin) rfl om_516 ⟨rfl, rfl, Nat.le_of_ble_eq_true rfl, Nat.le_of_ble_eq_true rfl⟩ [.int (Ii v3), .int (Ii x1)] mv_X5_212 hd_X5_reachv (kP_0 hc) rfl rfl rfl (Nat.le_of_ble_eq_true rfl) dX5_findLost_33 ⟨c, v3, x1, rfl, hc, gv3, gx1, hF⟩ (fun r4 M5 gr4 qM5 => ?_)
      have hF := qM5 gr4
      refine j_istore_n (lv' := [(1, .int (Ii r4)), (0, .ref (ad c)), (2, .int (Ii x2))]) hJ dX5_findLost_36 rfl (by decide) rfl ?_
      refine j_iinc (lv' := [(2, .int (Ii (x2 + 1))), (1, .int (Ii r4)), (0, .ref (ad c))]) (k := 2) hJ dX5_findLost_37 rfl (by decide) rfl ?_
      have g6 := hF.1; have hF := hF.2
      refine j_goto hJ 17 dX5_findLost_40 (by decide) ?_
      exact j_sub hJ [2, 1, 0] rfl (ih r4 (x2 + 1) _ gr4 g6 hF)
  intro x1 x2 M gx1 gx2 hF
  obtain ⟨n, hF⟩ := hF
  exact H9 n x1 x2 M gx1 gx2 hF
set_option maxHeartbeats 4000000 in
set_option maxRecDepth 100000 in
theorem c_X5_findLost {l : Launch} {D : va_G} {cy : Nat → ClassId} {ad : Nat → Nat} (hin : jIn ad ksC.length) : jCN l D vwCl (tyC cy) cy ad ftC ksC (XtC ad) yX5_findLost (.code yX5_findLost cX5_findLost 4 (some .int) :: Om) ({ frames := 2, cells := 0, slots := 0, locals := 46 } : Room) 1 (W_X5_findLost ad) := by
  refine jCN_of (y := yX5_findLost) (cc := cX5_findLost) (nL := 4) (rk := 1) (rm := ({ frames := 2, cells := 0, slots := 0, locals := 46 } : Room)) (own := RX5) (tyC_ok cy) hin (XtC_ok ad) Om_good (by decide) rfl ?_
  intro Q av M hF
  obtain ⟨c, rfl, hc, hF⟩ := hF
  refine ⟨Nat.le_of_ble_eq_true rfl, fun J hJ => ?_⟩
  show J 0 [(0, .ref (ad c))] [] M
  unfold w_X5_findLost at hF
  refine j_aload_n hJ dX5_findLost_0 rfl 0 rfl ?_
  refine j_gr (e := (c + 15)) hJ (kP_0 hc) fC_8_17 fl_X5_64 dX5_findLost_1 rfl ?_
  refine j_iconst hJ dX5_findLost_4 ?_
  refine j_aload_n hJ dX5_findLost_5 rfl 0 rfl ?_
  refine j_gi hJ (kP_0 hc) fC_8_0 rfl fl_X5_82 dX5_findLost_6 (fun v1 ev1 gv1 => ?_)
  have hF := hF v1 ev1 gv1
  refine j_iconst hJ dX5_findLost_9 ?_
  refine j_callSv hJ (c_J7_fill_fda19_C (l := l) (D := D) (cy := cy) (ad := ad) hin) rfl om_214 ⟨rfl, rfl, Nat.le_of_ble_eq_true rfl, Nat.le_of_ble_eq_true rfl⟩ [.ref (ad (c + 15)), .int (Ii 0), .int (Ii v1), .int (Ii 0)] mv_X5_209 hd_J7_fill_fda19 rfl (Nat.le_of_ble_eq_true rfl) dX5_findLost_10 ⟨(c + 15), 400, 0, v1, 0, rfl, (kP_15 hc), (by decide), rk_0, gv1, rk_0, hF⟩ (fun M3 qM3 => ?_)
  have hF := qM3
  refine j_iconst hJ dX5_findLost_13 ?_
  refine j_istore_n (lv' := [(1, .int (Ii 0)), (0, .ref (ad c))]) hJ dX5_findLost_14 rfl (by decide) rfl ?_
  refine j_iconst hJ dX5_findLost_15 ?_
  refine j_istore_n (lv' := [(2, .int (Ii 0)), (1, .int (Ii 0)), (0, .ref (ad c))]) hJ dX5_findLost_16 rfl (by decide) rfl ?_
  exact j_sub hJ [2, 1, 0] rfl (k_X5_findLost_b17 hin hc hJ  0 0 _ rk_0 rk_0 hF)
def W_X5_listMissing (ad : Nat → Nat) (Q : Int → MM → Prop) (av : List Value) (M : MM) : Prop := ∃ (c : Nat) (p1 : Nat) (p2 : Nat) (np2 : Nat), av = [.ref (ad c), .ref (ad p1), .ref (ad p2)] ∧ isP c ∧ isP p1 ∧ ksC[p2]? = some (0, np2) ∧ np2 < 2147483648 ∧ w_X5_listMissing c p1 p2 np2 Q  M
set_option maxHeartbeats 4000000 in
set_option maxRecDepth 100000 in
theorem k_X5_listMissing_b38 {l : Launch} {D : va_G} {cy : Nat → ClassId} {ad : Nat → Nat} {Q : Int → MM → Prop} {J : Nat → List (Nat × Value) → List Value → MM → Prop} (hin : jIn ad ksC.length) {c p1 p2 np2 : Nat} (hc : isP c) (hp1 : isP p1) (hp2 : ksC[p2]? = some (0, np2)) (lp2 : np2 < 2147483648) (hJ : jOk l D vwCl (tyC cy) cy ad ftC ksC (XtC ad) Om RX5 cX5_listMissing 5 1 ({ frames := 0, cells := 0, slots := 0, locals := 0 } : Room) Q J) {K5 : Int → Int → MM → Prop} (hK5 : ∀ (x3 x4 : Int) (M : MM), ri_ x3 → ri_ x4 → K5 x3 x4 M → J 5 [(0, .ref (ad c)), (1, .ref (ad p1)), (2, .ref (ad p2)), (3, .int (Ii x3)), (4, .int (Ii x4))] [] M) : ∀ (x3 x4 : Int) (M : MM), ri_ x3 → ri_ x4 → w_X5_listMissing_b38 c p1 p2 np2 Q K5 x3 x4 M → J 38 [(0, .ref (ad c)), (1, .ref (ad p1)), (2, .ref (ad p2)), (3, .int (Ii x3)), (4, .int (Ii x4))] [] M := by
  intro x3 x4 M gx3 gx4 hF
  unfold w_X5_listMissing_b38 at hF
  refine j_iinc (lv' := [(4, .int (Ii (x4 + 1))), (0, .ref (ad c)), (1, .ref (ad p1)), (2, .ref (ad p2)), (3, .int (Ii x3))]) (k := 4) hJ dX5_listMissing_38 rfl (by decide) rfl ?_
  have g1 := hF.1; have hF := hF.2
  refine j_goto hJ 5 dX5_listMissing_41 (by decide) ?_
  exact j_sub hJ [1, 2, 3, 4, 0] rfl (hK5 x3 (x4 + 1) _ gx3 g1 hF)
set_option maxHeartbeats 4000000 in
set_option maxRecDepth 100000 in
theorem k_X5_listMissing_b5 {l : Launch} {D : va_G} {cy : Nat → ClassId} {ad : Nat → Nat} {Q : Int → MM → Prop} {J : Nat → List (Nat × Value) → List Value → MM → Prop} (hin : jIn ad ksC.length) {c p1 p2 np2 : Nat} (hc : isP c) (hp1 : isP p1) (hp2 : ksC[p2]? = some (0, np2)) (lp2 : np2 < 2147483648) (hJ : jOk l D vwCl (tyC cy) cy ad ftC ksC (XtC ad) Om RX5 cX5_listMissing 5 1 ({ frames := 0, cells := 0, slots := 0, locals := 0 } : Room) Q J)  : ∀ (x3 x4 : Int) (M : MM), ri_ x3 → ri_ x4 → w_X5_listMissing_b5 c p1 p2 np2 Q  x3 x4 M → J 5 [(0, .ref (ad c)), (1, .ref (ad p1)), (2, .ref (ad p2)), (3, .int (Ii x3)), (4, .int (Ii x4))] [] M := by
  have H9 : ∀ (n : Nat) (x3 x4 : Int) (M : MM), ri_ x3 → ri_ x4 → jit (fun _ _ _ => False) (wb_X5_listMissing_b5 c p1 p2 np2 Q ) n x3 x4 M → J 5 [(0, .ref (ad c)), (1, .ref (ad p1)), (2, .ref (ad p2)), (3, .int (Ii x3)), (4, .int (Ii x4))] [] M := by
    intro n
    induction n with
    | zero => intro x3 x4 M gx3 gx4 hF; exact False.elim hF
    | succ n ih =>
    intro x3 x4 M gx3 gx4 hF
    have hF : wb_X5_listMissing_b5 c p1 p2 np2 Q  (jit (fun _ _ _ => False) (wb_X5_listMissing_b5 c p1 p2 np2 Q ) n) x3 x4 M := hF
    unfold wb_X5_listMissing_b5 at hF
    refine j_iload hJ dX5_listMissing_5 4 rfl ?_
    refine j_aload_n hJ dX5_listMissing_7 rfl 0 rfl ?_
    refine j_gi hJ (kP_0 hc) fC_8_0 rfl fl_X5_82 dX5_listMissing_8 (fun v1 ev1 gv1 => ?_)
    have hF := hF v1 ev1 gv1
    refine j_icmp_ge hJ 44 gx4 gv1 dX5_listMissing_11 (by decide) (fun z2 => ?_) (fun z2 => ?_)
    · have hF := hF.1 z2
      refine j_iload_n hJ dX5_listMissing_44 rfl 3 rfl ?_
      exact j_iret hJ rfl gx3 dX5_listMissing_45 hF
    · have hF := hF.2 z2
      refine j_aload_n hJ dX5_listMissing_14 rfl 1 rfl ?_
      refine j_gr (e := (p1 + 8)) hJ (kP_0 hp1) fC_8_8 fl_X5_35 dX5_listMissing_15 rfl ?_
      refine j_aload_n hJ dX5_listMissing_18 rfl 0 rfl ?_
      refine j_gr (e := (c + 1)) hJ (kP_0 hc) fC_8_1 fl_X5_11 dX5_listMissing_19 rfl ?_
      refine j_iload hJ dX5_listMissing_22 4 rfl ?_
      refine j_iald hJ gx4 (kP_1 hc) hF.1 hF.2.1 dX5_listMissing_24 (fun v3 ev3 gv3 => ?_)
      have hF := hF.2.2 v3 ev3 gv3
      refine j_iald hJ gv3 (kP_8 hp1) hF.1 hF.2.1 dX5_listMissing_25 (fun v4 ev4 gv4 => ?_)
      have hF := hF.2.2 v4 ev4 gv4
      refine j_iconst hJ dX5_listMissing_26 ?_
      refine j_icmp_ne hJ 38 gv4 rk_m1 dX5_listMissing_27 (by decide) (fun z5 => ?_) (fun z5 => ?_)
      · have hF := hF.1 z5
        exact j_sub hJ [0, 1, 2, 3, 4] rfl (k_X5_listMissing_b38 hin hc hp1 hp2 lp2 hJ ih x3 x4 _ gx3 gx4 hF)
      · have hF := hF.2 z5
        refine j_aload_n hJ dX5_listMissing_30 rfl 2 rfl ?_
        refine j_iload_n hJ dX5_listMissing_31 rfl 3 rfl ?_
        refine j_iload hJ dX5_listMissing_32 4 rfl ?_
        refine j_iast hJ gx3 gx4 hp2 hF.1 hF.2.1 dX5_listMissing_34 (fun M6 eM6 => ?_)
        have hF := hF.2.2 M6 eM6
        refine j_iinc (lv' := [(3, .int (Ii (x3 + 1))), (0, .ref (ad c)), (1, .ref (ad p1)), (2, .ref (ad p2)), (4, .int (Ii x4))]) (k := 3) hJ dX5_listMissing_35 rfl (by decide) rfl ?_
        have g7 := hF.1; have hF := hF.2
        exact j_sub hJ [1, 2, 3, 0, 4] rfl (k_X5_listMissing_b38 hin hc hp1 hp2 lp2 hJ ih (x3 + 1) x4 _ g7 gx4 hF)
  intro x3 x4 M gx3 gx4 hF
  obtain ⟨n, hF⟩ := hF
  exact H9 n x3 x4 M gx3 gx4 hF
set_option maxHeartbeats 4000000 in
set_option maxRecDepth 100000 in
theorem c_X5_listMissing {l : Launch} {D : va_G} {cy : Nat → ClassId} {ad : Nat → Nat} (hin : jIn ad ksC.length) : jCN l D vwCl (tyC cy) cy ad ftC ksC (XtC ad) yX5_listMissing (.code yX5_listMissing cX5_listMissing 5 (some .int) :: Om) ({ frames := 0, cells := 0, slots := 0, locals := 0 } : Room) 1 (W_X5_listMissing ad) := by
  refine jCN_of (y := yX5_listMissing) (cc := cX5_listMissing) (nL := 5) (rk := 1) (rm := ({ frames := 0, cells := 0, slots := 0, locals := 0 } : Room)) (own := RX5) (tyC_ok cy) hin (XtC_ok ad) Om_good (by decide) rfl ?_
  intro Q av M hF
  obtain ⟨c, p1, p2, np2, rfl, hc, hp1, hp2, lp2, hF⟩ := hF
  refine ⟨Nat.le_of_ble_eq_true rfl, fun J hJ => ?_⟩
  show J 0 [(0, .ref (ad c)), (1, .ref (ad p1)), (2, .ref (ad p2))] [] M
  unfold w_X5_listMissing at hF
  refine j_iconst hJ dX5_listMissing_0 ?_
  refine j_istore_n (lv' := [(3, .int (Ii 0)), (0, .ref (ad c)), (1, .ref (ad p1)), (2, .ref (ad p2))]) hJ dX5_listMissing_1 rfl (by decide) rfl ?_
  refine j_iconst hJ dX5_listMissing_2 ?_
  refine j_istore (lv' := [(4, .int (Ii 0)), (3, .int (Ii 0)), (0, .ref (ad c)), (1, .ref (ad p1)), (2, .ref (ad p2))]) hJ dX5_listMissing_3 (by decide) rfl ?_
  exact j_sub hJ [2, 3, 4, 1, 0] rfl (k_X5_listMissing_b5 hin hc hp1 hp2 lp2 hJ  0 0 _ rk_0 rk_0 hF)
def W_X5_isSame (ad : Nat → Nat) (Q : Int → MM → Prop) (av : List Value) (M : MM) : Prop := ∃ (c : Nat) (p1 : Int) (p2 : Nat) (p3 : Int), av = [.ref (ad c), .int (Ii p1), .ref (ad p2), .int (Ii p3)] ∧ isP c ∧ ri_ p1 ∧ isP p2 ∧ ri_ p3 ∧ w_X5_isSame c p2 Q p1 p3 M
set_option maxHeartbeats 4000000 in
set_option maxRecDepth 100000 in
theorem k_X5_isSame_b151 {l : Launch} {D : va_G} {cy : Nat → ClassId} {ad : Nat → Nat} {Q : Int → MM → Prop} {J : Nat → List (Nat × Value) → List Value → MM → Prop} (hin : jIn ad ksC.length) {c p2 : Nat} (hc : isP c) (hp2 : isP p2) (hJ : jOk l D vwCl (tyC cy) cy ad ftC ksC (XtC ad) Om RX5 cX5_isSame 10 3 ({ frames := 0, cells := 0, slots := 0, locals := 0 } : Room) Q J) {K55 : Int → Int → Int → MM → Prop} (hK55 : ∀ (x1 x4 x5 : Int) (M : MM), ri_ x1 → ri_ x4 → ri_ x5 → K55 x1 x4 x5 M → J 55 [(0, .ref (ad c)), (1, .int (Ii x1)), (2, .ref (ad p2)), (4, .int (Ii x4)), (5, .int (Ii x5))] [] M) : ∀ (x1 x4 x5 x6 x8 : Int) (M : MM), ri_ x1 → ri_ x4 → ri_ x5 → rl_ x6 → rl_ x8 → w_X5_isSame_b151 c p2 Q K55 x1 x4 x5 x6 x8 M → J 151 [(0, .ref (ad c)), (1, .int (Ii x1)), (2, .ref (ad p2)), (4, .int (Ii x4)), (5, .int (Ii x5)), (6, .long (Ll x6)), (8, .long (Ll x8))] [] M := by
  intro x1 x4 x5 x6 x8 M gx1 gx4 gx5 gx6 gx8 hF
  unfold w_X5_isSame_b151 at hF
  refine j_lload hJ dX5_isSame_151 5 rfl ?_
  refine j_lload hJ dX5_isSame_153 6 rfl ?_
  refine j_lcmp_eq hJ 161 gx6 gx8 dX5_isSame_155 dX5_isSame_156 (by decide) (fun z1 => ?_) (fun z1 => ?_)
  · have hF := hF.1 z1
    refine j_iinc (lv' := [(5, .int (Ii (x5 + 1))), (0, .ref (ad c)), (1, .int (Ii x1)), (2, .ref (ad p2)), (4, .int (Ii x4)), (6, .long (Ll x6)), (8, .long (Ll x8))]) (k := 4) hJ dX5_isSame_161 rfl (by decide) rfl ?_
    have g2 := hF.1; have hF := hF.2
    refine j_goto hJ 55 dX5_isSame_164 (by decide) ?_
    exact j_sub hJ [1, 2, 3, 4, 0] rfl (hK55 x1 x4 (x5 + 1) _ gx1 gx4 g2 hF)
  · have hF := hF.2 z1
    refine j_iconst hJ dX5_isSame_159 ?_
    exact j_zret hJ rfl (by decide) dX5_isSame_160 hF
set_option maxHeartbeats 4000000 in
set_option maxRecDepth 100000 in
theorem k_X5_isSame_b149 {l : Launch} {D : va_G} {cy : Nat → ClassId} {ad : Nat → Nat} {Q : Int → MM → Prop} {J : Nat → List (Nat × Value) → List Value → MM → Prop} (hin : jIn ad ksC.length) {c p2 : Nat} (hc : isP c) (hp2 : isP p2) (hJ : jOk l D vwCl (tyC cy) cy ad ftC ksC (XtC ad) Om RX5 cX5_isSame 10 3 ({ frames := 0, cells := 0, slots := 0, locals := 0 } : Room) Q J) {K55 : Int → Int → Int → MM → Prop} (hK55 : ∀ (x1 x4 x5 : Int) (M : MM), ri_ x1 → ri_ x4 → ri_ x5 → K55 x1 x4 x5 M → J 55 [(0, .ref (ad c)), (1, .int (Ii x1)), (2, .ref (ad p2)), (4, .int (Ii x4)), (5, .int (Ii x5))] [] M) : ∀ (x1 x4 x5 x6 s0 : Int) (M : MM), ri_ x1 → ri_ x4 → ri_ x5 → rl_ x6 → rl_ s0 → w_X5_isSame_b149 c p2 Q K55 x1 x4 x5 x6 s0 M → J 149 [(0, .ref (ad c)), (1, .int (Ii x1)), (2, .ref (ad p2)), (4, .int (Ii x4)), (5, .int (Ii x5)), (6, .long (Ll x6))] [.long (Ll s0)] M := by
  intro x1 x4 x5 x6 s0 M gx1 gx4 gx5 gx6 gs0 hF
  unfold w_X5_isSame_b149 at hF
  refine j_lstore (lv' := [(8, .long (Ll s0)), (0, .ref (ad c)), (1, .int (Ii x1)), (2, .ref (ad p2)), (4, .int (Ii x4)), (5, .int (Ii x5)), (6, .long (Ll x6))]) hJ dX5_isSame_149 (by decide) rfl ?_
  exact j_sub hJ [1, 2, 3, 4, 5, 6, 0] rfl (k_X5_isSame_b151 hin hc hp2 hJ hK55 x1 x4 x5 x6 s0 _ gx1 gx4 gx5 gx6 gs0 hF)
set_option maxHeartbeats 4000000 in
set_option maxRecDepth 100000 in
theorem k_X5_isSame_b123 {l : Launch} {D : va_G} {cy : Nat → ClassId} {ad : Nat → Nat} {Q : Int → MM → Prop} {J : Nat → List (Nat × Value) → List Value → MM → Prop} (hin : jIn ad ksC.length) {c p2 : Nat} (hc : isP c) (hp2 : isP p2) (hJ : jOk l D vwCl (tyC cy) cy ad ftC ksC (XtC ad) Om RX5 cX5_isSame 10 3 ({ frames := 0, cells := 0, slots := 0, locals := 0 } : Room) Q J) {K55 : Int → Int → Int → MM → Prop} (hK55 : ∀ (x1 x4 x5 : Int) (M : MM), ri_ x1 → ri_ x4 → ri_ x5 → K55 x1 x4 x5 M → J 55 [(0, .ref (ad c)), (1, .int (Ii x1)), (2, .ref (ad p2)), (4, .int (Ii x4)), (5, .int (Ii x5))] [] M) : ∀ (x1 x4 x5 x8 s0 : Int) (M : MM), ri_ x1 → ri_ x4 → ri_ x5 → rl_ x8 → rl_ s0 → w_X5_isSame_b123 c p2 Q K55 x1 x4 x5 x8 s0 M → J 123 [(0, .ref (ad c)), (1, .int (Ii x1)), (2, .ref (ad p2)), (4, .int (Ii x4)), (5, .int (Ii x5)), (8, .long (Ll x8))] [.long (Ll s0)] M := by
  intro x1 x4 x5 x8 s0 M gx1 gx4 gx5 gx8 gs0 hF
  unfold w_X5_isSame_b123 at hF
  refine j_lstore (lv' := [(6, .long (Ll s0)), (0, .ref (ad c)), (1, .int (Ii x1)), (2, .ref (ad p2)), (4, .int (Ii x4)), (5, .int (Ii x5)), (8, .long (Ll x8))]) hJ dX5_isSame_123 (by decide) rfl ?_
  refine j_lload hJ dX5_isSame_125 6 rfl ?_
  refine j_ldc2 hJ (-1) om_442 (by decide) dX5_isSame_127 ?_
  refine j_lcmp_ne hJ 140 gx8 lk_m1 dX5_isSame_130 dX5_isSame_131 (by decide) (fun z1 => ?_) (fun z1 => ?_)
  · have hF := hF.1 z1
    refine j_aload_n hJ dX5_isSame_140 rfl 3 rfl ?_
    refine j_gr (e := (p2 + 1)) hJ (kP_0 hp2) fC_8_1 fl_X5_11 dX5_isSame_141 rfl ?_
    refine j_lload hJ dX5_isSame_144 6 rfl ?_
    refine j_l2i hJ dX5_isSame_146 ?_
    have g2 := hF.1; have hF := hF.2
    refine j_iald hJ g2 (kP_1 hp2) hF.1 hF.2.1 dX5_isSame_147 (fun v3 ev3 gv3 => ?_)
    have hF := hF.2.2 v3 ev3 gv3
    refine j_i2l hJ gv3 dX5_isSame_148 ?_
    exact j_sub hJ [1, 2, 3, 4, 5, 0] rfl (k_X5_isSame_b149 hin hc hp2 hJ hK55 x1 x4 x5 s0 v3 _ gx1 gx4 gx5 gs0 (rl_ri gv3) hF)
  · have hF := hF.2 z1
    refine j_ldc2 hJ (-1) om_442 (by decide) dX5_isSame_134 ?_
    refine j_goto hJ 149 dX5_isSame_137 (by decide) ?_
    exact j_sub hJ [1, 2, 3, 4, 5, 0] rfl (k_X5_isSame_b149 hin hc hp2 hJ hK55 x1 x4 x5 s0 (-1) _ gx1 gx4 gx5 gs0 lk_m1 hF)
set_option maxHeartbeats 4000000 in
set_option maxRecDepth 100000 in
theorem k_X5_isSame_b55 {l : Launch} {D : va_G} {cy : Nat → ClassId} {ad : Nat → Nat} {Q : Int → MM → Prop} {J : Nat → List (Nat × Value) → List Value → MM → Prop} (hin : jIn ad ksC.length) {c p2 : Nat} (hc : isP c) (hp2 : isP p2) (hJ : jOk l D vwCl (tyC cy) cy ad ftC ksC (XtC ad) Om RX5 cX5_isSame 10 3 ({ frames := 0, cells := 0, slots := 0, locals := 0 } : Room) Q J)  : ∀ (x1 x4 x5 : Int) (M : MM), ri_ x1 → ri_ x4 → ri_ x5 → w_X5_isSame_b55 c p2 Q  x1 x4 x5 M → J 55 [(0, .ref (ad c)), (1, .int (Ii x1)), (2, .ref (ad p2)), (4, .int (Ii x4)), (5, .int (Ii x5))] [] M := by
  have H9 : ∀ (n : Nat) (x1 x4 x5 : Int) (M : MM), ri_ x1 → ri_ x4 → ri_ x5 → jit (fun _ _ _ _ => False) (wb_X5_isSame_b55 c p2 Q ) n x1 x4 x5 M → J 55 [(0, .ref (ad c)), (1, .int (Ii x1)), (2, .ref (ad p2)), (4, .int (Ii x4)), (5, .int (Ii x5))] [] M := by
    intro n
    induction n with
    | zero => intro x1 x4 x5 M gx1 gx4 gx5 hF; exact False.elim hF
    | succ n ih =>
    intro x1 x4 x5 M gx1 gx4 gx5 hF
    have hF : wb_X5_isSame_b55 c p2 Q  (jit (fun _ _ _ _ => False) (wb_X5_isSame_b55 c p2 Q ) n) x1 x4 x5 M := hF
    unfold wb_X5_isSame_b55 at hF
    refine j_iload hJ dX5_isSame_55 4 rfl ?_
    refine j_aload_n hJ dX5_isSame_57 rfl 0 rfl ?_
    refine j_gr (e := (c + 4)) hJ (kP_0 hc) fC_8_4 fl_X5_21 dX5_isSame_58 rfl ?_
    refine j_iload_n hJ dX5_isSame_61 rfl 1 rfl ?_
    refine j_iconst hJ dX5_isSame_62 ?_
    refine j_iadd hJ dX5_isSame_63 ?_
    have g1 := hF.1; have hF := hF.2
    refine j_iald hJ g1 (kP_4 hc) hF.1 hF.2.1 dX5_isSame_64 (fun v2 ev2 gv2 => ?_)
    have hF := hF.2.2 v2 ev2 gv2
    refine j_icmp_ge hJ 167 gx5 gv2 dX5_isSame_65 (by decide) (fun z3 => ?_) (fun z3 => ?_)
    · have hF := hF.1 z3
      refine j_iconst hJ dX5_isSame_167 ?_
      exact j_zret hJ rfl (by decide) dX5_isSame_168 hF
    · have hF := hF.2 z3
      refine j_aload_n hJ dX5_isSame_68 rfl 0 rfl ?_
      refine j_gr (e := (c + 9)) hJ (kP_0 hc) fC_8_9 fl_X5_44 dX5_isSame_69 rfl ?_
      refine j_iload hJ dX5_isSame_72 4 rfl ?_
      refine j_lald hJ gx5 (kP_9 hc) hF.1 hF.2.1 dX5_isSame_74 (fun v4 ev4 gv4 => ?_)
      have hF := hF.2.2 v4 ev4 gv4
      refine j_lstore (lv' := [(6, .long (Ll v4)), (0, .ref (ad c)), (1, .int (Ii x1)), (2, .ref (ad p2)), (4, .int (Ii x4)), (5, .int (Ii x5))]) hJ dX5_isSame_75 (by decide) rfl ?_
      refine j_aload_n hJ dX5_isSame_77 rfl 3 rfl ?_
      refine j_gr (e := (p2 + 9)) hJ (kP_0 hp2) fC_8_9 fl_X5_44 dX5_isSame_78 rfl ?_
      refine j_iload hJ dX5_isSame_81 5 rfl ?_
      refine j_iload hJ dX5_isSame_83 4 rfl ?_
      refine j_iadd hJ dX5_isSame_85 ?_
      have g5 := hF.1; have hF := hF.2
      refine j_lald hJ g5 (kP_9 hp2) hF.1 hF.2.1 dX5_isSame_86 (fun v6 ev6 gv6 => ?_)
      have hF := hF.2.2 v6 ev6 gv6
      refine j_lstore (lv' := [(8, .long (Ll v6)), (6, .long (Ll v4)), (0, .ref (ad c)), (1, .int (Ii x1)), (2, .ref (ad p2)), (4, .int (Ii x4)), (5, .int (Ii x5))]) hJ dX5_isSame_87 (by decide) rfl ?_
      refine j_aload_n hJ dX5_isSame_89 rfl 2 rfl ?_
      refine j_gr (e := (c + 10)) hJ (kP_0 hc) fC_8_10 fl_X5_48 dX5_isSame_90 rfl ?_
      refine j_iload hJ dX5_isSame_93 6 rfl ?_
      refine j_zald hJ gx5 (kP_10 hc) hF.1 hF.2.1 dX5_isSame_95 (fun v7 ev7 gv7 => ?_)
      have hF := hF.2.2 v7 ev7 gv7
      refine j_if_eq hJ 151 (jz_ri gv7) dX5_isSame_96 (by decide) (fun z8 => ?_) (fun z8 => ?_)
      · have hF := hF.1 z8
        exact j_sub hJ [2, 3, 4, 5, 6, 1, 0] rfl (k_X5_isSame_b151 hin hc hp2 hJ ih x1 x4 x5 v4 v6 _ gx1 gx4 gx5 gv4 gv6 hF)
      · have hF := hF.2 z8
        refine j_lload hJ dX5_isSame_99 1 rfl ?_
        refine j_ldc2 hJ (-1) om_442 (by decide) dX5_isSame_101 ?_
        refine j_lcmp_ne hJ 114 gv4 lk_m1 dX5_isSame_104 dX5_isSame_105 (by decide) (fun z9 => ?_) (fun z9 => ?_)
        · have hF := hF.1 z9
          refine j_aload_n hJ dX5_isSame_114 rfl 2 rfl ?_
          refine j_gr (e := (c + 1)) hJ (kP_0 hc) fC_8_1 fl_X5_11 dX5_isSame_115 rfl ?_
          refine j_lload hJ dX5_isSame_118 1 rfl ?_
          refine j_l2i hJ dX5_isSame_120 ?_
          have g10 := hF.1; have hF := hF.2
          refine j_iald hJ g10 (kP_1 hc) hF.1 hF.2.1 dX5_isSame_121 (fun v11 ev11 gv11 => ?_)
          have hF := hF.2.2 v11 ev11 gv11
          refine j_i2l hJ gv11 dX5_isSame_122 ?_
          exact j_sub hJ [2, 3, 4, 5, 6, 0] rfl (k_X5_isSame_b123 hin hc hp2 hJ ih x1 x4 x5 v6 v11 _ gx1 gx4 gx5 gv6 (rl_ri gv11) hF)
        · have hF := hF.2 z9
          refine j_ldc2 hJ (-1) om_442 (by decide) dX5_isSame_108 ?_
          refine j_goto hJ 123 dX5_isSame_111 (by decide) ?_
          exact j_sub hJ [2, 3, 4, 5, 6, 0] rfl (k_X5_isSame_b123 hin hc hp2 hJ ih x1 x4 x5 v6 (-1) _ gx1 gx4 gx5 gv6 lk_m1 hF)
  intro x1 x4 x5 M gx1 gx4 gx5 hF
  obtain ⟨n, hF⟩ := hF
  exact H9 n x1 x4 x5 M gx1 gx4 gx5 hF
set_option maxHeartbeats 4000000 in
set_option maxRecDepth 100000 in
theorem c_X5_isSame {l : Launch} {D : va_G} {cy : Nat → ClassId} {ad : Nat → Nat} (hin : jIn ad ksC.length) : jCN l D vwCl (tyC cy) cy ad ftC ksC (XtC ad) yX5_isSame (.code yX5_isSame cX5_isSame 10 (some .boolean) :: Om) ({ frames := 0, cells := 0, slots := 0, locals := 0 } : Room) 3 (W_X5_isSame ad) := by
  refine jCN_of (y := yX5_isSame) (cc := cX5_isSame) (nL := 10) (rk := 3) (rm := ({ frames := 0, cells := 0, slots := 0, locals := 0 } : Room)) (own := RX5) (tyC_ok cy) hin (XtC_ok ad) Om_good (by decide) rfl ?_
  intro Q av M hF
  obtain ⟨c, p1, p2, p3, rfl, hc, gp1, hp2, gp3, hF⟩ := hF
  refine ⟨Nat.le_of_ble_eq_true rfl, fun J hJ => ?_⟩
  show J 0 [(0, .ref (ad c)), (1, .int (Ii p1)), (2, .ref (ad p2)), (3, .int (Ii p3))] [] M
  unfold w_X5_isSame at hF
  refine j_aload_n hJ dX5_isSame_0 rfl 0 rfl ?_
  refine j_gr (e := (c + 2)) hJ (kP_0 hc) fC_8_2 fl_X5_15 dX5_isSame_1 rfl ?_
  refine j_iload_n hJ dX5_isSame_4 rfl 1 rfl ?_
  refine j_iald hJ gp1 (kP_2 hc) hF.1 hF.2.1 dX5_isSame_5 (fun v1 ev1 gv1 => ?_)
  have hF := hF.2.2 v1 ev1 gv1
  refine j_aload_n hJ dX5_isSame_6 rfl 2 rfl ?_
  refine j_gr (e := (p2 + 2)) hJ (kP_0 hp2) fC_8_2 fl_X5_15 dX5_isSame_7 rfl ?_
  refine j_iload_n hJ dX5_isSame_10 rfl 3 rfl ?_
  refine j_iald hJ gp3 (kP_2 hp2) hF.1 hF.2.1 dX5_isSame_11 (fun v2 ev2 gv2 => ?_)
  have hF := hF.2.2 v2 ev2 gv2
  refine j_icmp_ne hJ 30 gv1 gv2 dX5_isSame_12 (by decide) (fun z3 => ?_) (fun z3 => ?_)
  · have hF := hF.1 z3
    refine j_iconst hJ dX5_isSame_30 ?_
    exact j_zret hJ rfl (by decide) dX5_isSame_31 hF
  · have hF := hF.2 z3
    refine j_aload_n hJ dX5_isSame_15 rfl 0 rfl ?_
    refine j_gr (e := (c + 3)) hJ (kP_0 hc) fC_8_3 fl_X5_18 dX5_isSame_16 rfl ?_
    refine j_iload_n hJ dX5_isSame_19 rfl 1 rfl ?_
    refine j_iald hJ gp1 (kP_3 hc) hF.1 hF.2.1 dX5_isSame_20 (fun v4 ev4 gv4 => ?_)
    have hF := hF.2.2 v4 ev4 gv4
    refine j_aload_n hJ dX5_isSame_21 rfl 2 rfl ?_
    refine j_gr (e := (p2 + 3)) hJ (kP_0 hp2) fC_8_3 fl_X5_18 dX5_isSame_22 rfl ?_
    refine j_iload_n hJ dX5_isSame_25 rfl 3 rfl ?_
    refine j_iald hJ gp3 (kP_3 hp2) hF.1 hF.2.1 dX5_isSame_26 (fun v5 ev5 gv5 => ?_)
    have hF := hF.2.2 v5 ev5 gv5
    refine j_icmp_eq hJ 32 gv4 gv5 dX5_isSame_27 (by decide) (fun z6 => ?_) (fun z6 => ?_)
    · have hF := hF.1 z6
      refine j_aload_n hJ dX5_isSame_32 rfl 2 rfl ?_
      refine j_gr (e := (p2 + 4)) hJ (kP_0 hp2) fC_8_4 fl_X5_21 dX5_isSame_33 rfl ?_
      refine j_iload_n hJ dX5_isSame_36 rfl 3 rfl ?_
      refine j_iald hJ gp3 (kP_4 hp2) hF.1 hF.2.1 dX5_isSame_37 (fun v7 ev7 gv7 => ?_)
      have hF := hF.2.2 v7 ev7 gv7
      refine j_aload_n hJ dX5_isSame_38 rfl 0 rfl ?_
      refine j_gr (e := (c + 4)) hJ (kP_0 hc) fC_8_4 fl_X5_21 dX5_isSame_39 rfl ?_
      refine j_iload_n hJ dX5_isSame_42 rfl 1 rfl ?_
      refine j_iald hJ gp1 (kP_4 hc) hF.1 hF.2.1 dX5_isSame_43 (fun v8 ev8 gv8 => ?_)
      have hF := hF.2.2 v8 ev8 gv8
      refine j_isub hJ dX5_isSame_44 ?_
      have g9 := hF.1; have hF := hF.2
      refine j_istore (lv' := [(4, .int (Ii (v7 - v8))), (0, .ref (ad c)), (1, .int (Ii p1)), (2, .ref (ad p2)), (3, .int (Ii p3))]) hJ dX5_isSame_45 (by decide) rfl ?_
      refine j_aload_n hJ dX5_isSame_47 rfl 1 rfl ?_
      refine j_gr (e := (c + 4)) hJ (kP_0 hc) fC_8_4 fl_X5_21 dX5_isSame_48 rfl ?_
      refine j_iload_n hJ dX5_isSame_51 rfl 2 rfl ?_
      refine j_iald hJ gp1 (kP_4 hc) hF.1 hF.2.1 dX5_isSame_52 (fun v10 ev10 gv10 => ?_)
      have hF := hF.2.2 v10 ev10 gv10
      refine j_istore (lv' := [(5, .int (Ii v10)), (4, .int (Ii (v7 - v8))), (0, .ref (ad c)), (1, .int (Ii p1)), (2, .ref (ad p2)), (3, .int (Ii p3))]) hJ dX5_isSame_53 (by decide) rfl ?_
      exact j_sub hJ [2, 3, 4, 1, 0] rfl (k_X5_isSame_b55 hin hc hp2 hJ  p1 (v7 - v8) v10 _ gp1 g9 gv10 hF)
    · have hF := hF.2 z6
      refine j_iconst hJ dX5_isSame_30 ?_
      exact j_zret hJ rfl (by decide) dX5_isSame_31 hF
def W_X5_listChanged (ad : Nat → Nat) (Q : Int → MM → Prop) (av : List Value) (M : MM) : Prop := ∃ (c : Nat) (p1 : Nat) (p2 : Nat) (np2 : Nat), av = [.ref (ad c), .ref (ad p1), .ref (ad p2)] ∧ isP c ∧ isP p1 ∧ ksC[p2]? = some (0, np2) ∧ np2 < 2147483648 ∧ w_X5_listChanged c p1 p2 np2 Q  M
set_option maxHeartbeats 4000000 in
set_option maxRecDepth 100000 in
theorem k_X5_listChanged_b54 {l : Launch} {D : va_G} {cy : Nat → ClassId} {ad : Nat → Nat} {Q : Int → MM → Prop} {J : Nat → List (Nat × Value) → List Value → MM → Prop} (hin : jIn ad ksC.length) {c p1 p2 np2 : Nat} (hc : isP c) (hp1 : isP p1) (hp2 : ksC[p2]? = some (0, np2)) (lp2 : np2 < 2147483648) (hJ : jOk l D vwCl (tyC cy) cy ad ftC ksC (XtC ad) Om RX5 cX5_listChanged 6 1 ({ frames := 1, cells := 0, slots := 0, locals := 29 } : Room) Q J) {K5 : Int → Int → MM → Prop} (hK5 : ∀ (x3 x4 : Int) (M : MM), ri_ x3 → ri_ x4 → K5 x3 x4 M → J 5 [(0, .ref (ad c)), (1, .ref (ad p1)), (2, .ref (ad p2)), (3, .int (Ii x3)), (4, .int (Ii x4))] [] M) : ∀ (x3 x4 : Int) (M : MM), ri_ x3 → ri_ x4 → w_X5_listChanged_b54 c p1 p2 np2 Q K5 x3 x4 M → J 54 [(0, .ref (ad c)), (1, .ref (ad p1)), (2, .ref (ad p2)), (3, .int (Ii x3)), (4, .int (Ii x4))] [] M := by
  intro x3 x4 M gx3 gx4 hF
  unfold w_X5_listChanged_b54 at hF
  refine j_iinc (lv' := [(4, .int (Ii (x4 + 1))), (0, .ref (ad c)), (1, .ref (ad p1)), (2, .ref (ad p2)), (3, .int (Ii x3))]) (k := 4) hJ dX5_listChanged_54 rfl (by decide) rfl ?_
  have g1 := hF.1; have hF := hF.2
  refine j_goto hJ 5 dX5_listChanged_57 (by decide) ?_
  exact j_sub hJ [1, 2, 3, 4, 0] rfl (hK5 x3 (x4 + 1) _ gx3 g1 hF)
set_option maxHeartbeats 4000000 in
set_option maxRecDepth 100000 in
theorem k_X5_listChanged_b5 {l : Launch} {D : va_G} {cy : Nat → ClassId} {ad : Nat → Nat} {Q : Int → MM → Prop} {J : Nat → List (Nat × Value) → List Value → MM → Prop} (hin : jIn ad ksC.length) {c p1 p2 np2 : Nat} (hc : isP c) (hp1 : isP p1) (hp2 : ksC[p2]? = some (0, np2)) (lp2 : np2 < 2147483648) (hJ : jOk l D vwCl (tyC cy) cy ad ftC ksC (XtC ad) Om RX5 cX5_listChanged 6 1 ({ frames := 1, cells := 0, slots := 0, locals := 29 } : Room) Q J)  : ∀ (x3 x4 : Int) (M : MM), ri_ x3 → ri_ x4 → w_X5_listChanged_b5 c p1 p2 np2 Q  x3 x4 M → J 5 [(0, .ref (ad c)), (1, .ref (ad p1)), (2, .ref (ad p2)), (3, .int (Ii x3)), (4, .int (Ii x4))] [] M := by
  have H9 : ∀ (n : Nat) (x3 x4 : Int) (M : MM), ri_ x3 → ri_ x4 → jit (fun _ _ _ => False) (wb_X5_listChanged_b5 c p1 p2 np2 Q ) n x3 x4 M → J 5 [(0, .ref (ad c)), (1, .ref (ad p1)), (2, .ref (ad p2)), (3, .int (Ii x3)), (4, .int (Ii x4))] [] M := by
    intro n
    induction n with
    | zero => intro x3 x4 M gx3 gx4 hF; exact False.elim hF
    | succ n ih =>
    intro x3 x4 M gx3 gx4 hF
    have hF : wb_X5_listChanged_b5 c p1 p2 np2 Q  (jit (fun _ _ _ => False) (wb_X5_listChanged_b5 c p1 p2 np2 Q ) n) x3 x4 M := hF
    unfold wb_X5_listChanged_b5 at hF
    refine j_iload hJ dX5_listChanged_5 4 rfl ?_
    refine j_aload_n hJ dX5_listChanged_7 rfl 0 rfl ?_
    refine j_gi hJ (kP_0 hc) fC_8_0 rfl fl_X5_82 dX5_listChanged_8 (fun v1 ev1 gv1 => ?_)
    have hF := hF v1 ev1 gv1
    refine j_icmp_ge hJ 60 gx4 gv1 dX5_listChanged_11 (by decide) (fun z2 => ?_) (fun z2 => ?_)
    · have hF := hF.1 z2
      refine j_iload_n hJ dX5_listChanged_60 rfl 3 rfl ?_
      exact j_iret hJ rfl gx3 dX5_listChanged_61 hF
    · have hF := hF.2 z2
      refine j_aload_n hJ dX5_listChanged_14 rfl 1 rfl ?_
      refine j_gr (e := (p1 + 8)) hJ (kP_0 hp1) fC_8_8 fl_X5_35 dX5_listChanged_15 rfl ?_
      refine j_aload_n hJ dX5_listChanged_18 rfl 0 rfl ?_
      refine j_gr (e := (c + 1)) hJ (kP_0 hc) fC_8_1 fl_X5_11 dX5_listChanged_19 rfl ?_
      refine j_iload hJ dX5_listChanged_22 4 rfl ?_
      refine j_iald hJ gx4 (kP_1 hc) hF.1 hF.2.1 dX5_listChanged_24 (fun v3 ev3 gv3 => ?_)
      have hF := hF.2.2 v3 ev3 gv3
      refine j_iald hJ gv3 (kP_8 hp1) hF.1 hF.2.1 dX5_listChanged_25 (fun v4 ev4 gv4 => ?_)
      have hF := hF.2.2 v4 ev4 gv4
      refine j_istore (lv' := [(5, .int (Ii v4)), (0, .ref (ad c)), (1, .ref (ad p1)), (2, .ref (ad p2)), (3, .int (Ii x3)), (4, .int (Ii x4))]) hJ dX5_listChanged_26 (by decide) rfl ?_
      refine j_iload hJ dX5_listChanged_28 0 rfl ?_
      refine j_iconst hJ dX5_listChanged_30 ?_
      refine j_icmp_eq hJ 54 gv4 rk_m1 dX5_listChanged_31 (by decide) (fun z5 => ?_) (fun z5 => ?_)
      · have hF := hF.1 z5
        exact j_sub hJ [1, 2, 3, 4, 5] rfl (k_X5_listChanged_b54 hin hc hp1 hp2 lp2 hJ ih x3 x4 _ gx3 gx4 hF)
      · have hF := hF.2 z5
        refine j_aload_n hJ dX5_listChanged_34 rfl 1 rfl ?_
        refine j_iload hJ dX5_listChanged_35 5 rfl ?_
        refine j_aload_n hJ dX5_listChanged_37 rfl 2 rfl ?_
        refine j_iload hJ dX5_listChanged_38 0 rfl ?_
        refine j_callVz hJ (c_X5_isSame (l := l) (D := D) (cy := cy) (ad := ad) hin) rfl om_520 ⟨rfl, rfl, Nat.le_of_ble_eq_true rfl, Nat.le_of_ble_eq_true rfl⟩ [.int (Ii x4), .ref (ad p1), .int (Ii v4)] mv_X5_215 hd_X5_isSamev (kP_0 hc) rfl rfl rfl (Nat.le_of_ble_eq_true rfl) dX5_listChanged_40 ⟨c, x4, p1, v4, rfl, hc, gx4, hp1, gv4, hF⟩ (fun r6 M7 gr6 qM7 => ?_)
        have hF := qM7 gr6
        refine j_if_ne hJ 54 (jz_ri gr6) dX5_listChanged_43 (by decide) (fun z8 => ?_) (fun z8 => ?_)
        · have hF := hF.1 z8
          exact j_sub hJ [1, 2, 3, 4, 5] rfl (k_X5_listChanged_b54 hin hc hp1 hp2 lp2 hJ ih x3 x4 _ gx3 gx4 hF)
        · have hF := hF.2 z8
          refine j_aload_n hJ dX5_listChanged_46 rfl 3 rfl ?_
          refine j_iload_n hJ dX5_listChanged_47 rfl 4 rfl ?_
          refine j_iload hJ dX5_listChanged_48 5 rfl ?_
          refine j_iast hJ gx3 gx4 hp2 hF.1 hF.2.1 dX5_listChanged_50 (fun M9 eM9 => ?_)
          have hF := hF.2.2 M9 eM9
          refine j_iinc (lv' := [(3, .int (Ii (x3 + 1))), (5, .int (Ii v4)), (0, .ref (ad c)), (1, .ref (ad p1)), (2, .ref (ad p2)), (4, .int (Ii x4))]) (k := 4) hJ dX5_listChanged_51 rfl (by decide) rfl ?_
          have g10 := hF.1; have hF := hF.2
          exact j_sub hJ [2, 3, 4, 0, 5] rfl (k_X5_listChanged_b54 hin hc hp1 hp2 lp2 hJ ih (x3 + 1) x4 _ g10 gx4 hF)
  intro x3 x4 M gx3 gx4 hF
  obtain ⟨n, hF⟩ := hF
  exact H9 n x3 x4 M gx3 gx4 hF
set_option maxHeartbeats 4000000 in
set_option maxRecDepth 100000 in
theorem c_X5_listChanged {l : Launch} {D : va_G} {cy : Nat → ClassId} {ad : Nat → Nat} (hin : jIn ad ksC.length) : jCN l D vwCl (tyC cy) cy ad ftC ksC (XtC ad) yX5_listChanged (.code yX5_listChanged cX5_listChanged 6 (some .int) :: Om) ({ frames := 1, cells := 0, slots := 0, locals := 29 } : Room) 1 (W_X5_listChanged ad) := by
  refine jCN_of (y := yX5_listChanged) (cc := cX5_listChanged) (nL := 6) (rk := 1) (rm := ({ frames := 1, cells := 0, slots := 0, locals := 29 } : Room)) (own := RX5) (tyC_ok cy) hin (XtC_ok ad) Om_good (by decide) rfl ?_
  intro Q av M hF
  obtain ⟨c, p1, p2, np2, rfl, hc, hp1, hp2, lp2, hF⟩ := hF
  refine ⟨Nat.le_of_ble_eq_true rfl, fun J hJ => ?_⟩
  show J 0 [(0, .ref (ad c)), (1, .ref (ad p1)), (2, .ref (ad p2))] [] M
  unfold w_X5_listChanged at hF
  refine j_iconst hJ dX5_listChanged_0 ?_
  refine j_istore_n (lv' := [(3, .int (Ii 0)), (0, .ref (ad c)), (1, .ref (ad p1)), (2, .ref (ad p2))]) hJ dX5_listChanged_1 rfl (by decide) rfl ?_
  refine j_iconst hJ dX5_listChanged_2 ?_
  refine j_istore (lv' := [(4, .int (Ii 0)), (3, .int (Ii 0)), (0, .ref (ad c)), (1, .ref (ad p1)), (2, .ref (ad p2))]) hJ dX5_listChanged_3 (by decide) rfl ?_
  exact j_sub hJ [2, 3, 4, 1, 0] rfl (k_X5_listChanged_b5 hin hc hp1 hp2 lp2 hJ  0 0 _ rk_0 rk_0 hF)
def W_X5_pairSlots (ad : Nat → Nat) (Q : Int → MM → Prop) (av : List Value) (M : MM) : Prop := ∃ (c : Nat) (p1 : Int) (p2 : Nat) (p3 : Int), av = [.ref (ad c), .int (Ii p1), .ref (ad p2), .int (Ii p3)] ∧ isP c ∧ ri_ p1 ∧ isP p2 ∧ ri_ p3 ∧ w_X5_pairSlots c p2 Q p1 p3 M
set_option maxHeartbeats 4000000 in
set_option maxRecDepth 100000 in
theorem k_X5_pairSlots_b220 {l : Launch} {D : va_G} {cy : Nat → ClassId} {ad : Nat → Nat} {Q : Int → MM → Prop} {J : Nat → List (Nat × Value) → List Value → MM → Prop} (hin : jIn ad ksC.length) {c p2 : Nat} (hc : isP c) (hp2 : isP p2) (hJ : jOk l D vwCl (tyC cy) cy ad ftC ksC (XtC ad) Om RX5 cX5_pairSlots 12 1 ({ frames := 0, cells := 0, slots := 0, locals := 0 } : Room) Q J) {K69 : Int → Int → Int → Int → MM → Prop} (hK69 : ∀ (x1 x5 x6 x7 : Int) (M : MM), ri_ x1 → ri_ x5 → ri_ x6 → ri_ x7 → K69 x1 x5 x6 x7 M → J 69 [(0, .ref (ad c)), (1, .int (Ii x1)), (2, .ref (ad p2)), (5, .int (Ii x5)), (6, .int (Ii x6)), (7, .int (Ii x7))] [] M) : ∀ (x1 x5 x6 x7 : Int) (M : MM), ri_ x1 → ri_ x5 → ri_ x6 → ri_ x7 → w_X5_pairSlots_b220 c p2 Q K69 x1 x5 x6 x7 M → J 220 [(0, .ref (ad c)), (1, .int (Ii x1)), (2, .ref (ad p2)), (5, .int (Ii x5)), (6, .int (Ii x6)), (7, .int (Ii x7))] [] M := by
  intro x1 x5 x6 x7 M gx1 gx5 gx6 gx7 hF
  unfold w_X5_pairSlots_b220 at hF
  refine j_iinc (lv' := [(7, .int (Ii (x7 + 1))), (0, .ref (ad c)), (1, .int (Ii x1)), (2, .ref (ad p2)), (5, .int (Ii x5)), (6, .int (Ii x6))]) (k := 5) hJ dX5_pairSlots_220 rfl (by decide) rfl ?_
  have g1 := hF.1; have hF := hF.2
  refine j_goto hJ 69 dX5_pairSlots_223 (by decide) ?_
  exact j_sub hJ [1, 2, 3, 4, 5, 0] rfl (hK69 x1 x5 x6 (x7 + 1) _ gx1 gx5 gx6 g1 hF)
set_option maxHeartbeats 4000000 in
set_option maxRecDepth 100000 in
theorem k_X5_pairSlots_b131 {l : Launch} {D : va_G} {cy : Nat → ClassId} {ad : Nat → Nat} {Q : Int → MM → Prop} {J : Nat → List (Nat × Value) → List Value → MM → Prop} (hin : jIn ad ksC.length) {c p2 : Nat} (hc : isP c) (hp2 : isP p2) (hJ : jOk l D vwCl (tyC cy) cy ad ftC ksC (XtC ad) Om RX5 cX5_pairSlots 12 1 ({ frames := 0, cells := 0, slots := 0, locals := 0 } : Room) Q J) {K69 : Int → Int → Int → Int → MM → Prop} (hK69 : ∀ (x1 x5 x6 x7 : Int) (M : MM), ri_ x1 → ri_ x5 → ri_ x6 → ri_ x7 → K69 x1 x5 x6 x7 M → J 69 [(0, .ref (ad c)), (1, .int (Ii x1)), (2, .ref (ad p2)), (5, .int (Ii x5)), (6, .int (Ii x6)), (7, .int (Ii x7))] [] M) : ∀ (x1 x5 x6 x7 x8 x10 : Int) (M : MM), ri_ x1 → ri_ x5 → ri_ x6 → ri_ x7 → rl_ x8 → rl_ x10 → w_X5_pairSlots_b131 c p2 Q K69 x1 x5 x6 x7 x8 x10 M → J 131 [(0, .ref (ad c)), (1, .int (Ii x1)), (2, .ref (ad p2)), (5, .int (Ii x5)), (6, .int (Ii x6)), (7, .int (Ii x7)), (8, .long (Ll x8)), (10, .long (Ll x10))] [] M := by
  intro x1 x5 x6 x7 x8 x10 M gx1 gx5 gx6 gx7 gx8 gx10 hF
  unfold w_X5_pairSlots_b131 at hF
  refine j_lload hJ dX5_pairSlots_131 6 rfl ?_
  refine j_lload hJ dX5_pairSlots_133 7 rfl ?_
  refine j_lcmp_eq hJ 220 gx8 gx10 dX5_pairSlots_135 dX5_pairSlots_136 (by decide) (fun z1 => ?_) (fun z1 => ?_)
  · have hF := hF.1 z1
    exact j_sub hJ [0, 1, 2, 3, 4, 5] rfl (k_X5_pairSlots_b220 hin hc hp2 hJ hK69 x1 x5 x6 x7 _ gx1 gx5 gx6 gx7 hF)
  · have hF := hF.2 z1
    refine j_iconst hJ dX5_pairSlots_139 ?_
    exact j_iret hJ rfl rk_m1 dX5_pairSlots_140 hF
set_option maxHeartbeats 4000000 in
set_option maxRecDepth 100000 in
theorem k_X5_pairSlots_b203 {l : Launch} {D : va_G} {cy : Nat → ClassId} {ad : Nat → Nat} {Q : Int → MM → Prop} {J : Nat → List (Nat × Value) → List Value → MM → Prop} (hin : jIn ad ksC.length) {c p2 : Nat} (hc : isP c) (hp2 : isP p2) (hJ : jOk l D vwCl (tyC cy) cy ad ftC ksC (XtC ad) Om RX5 cX5_pairSlots 12 1 ({ frames := 0, cells := 0, slots := 0, locals := 0 } : Room) Q J) {K69 : Int → Int → Int → Int → MM → Prop} (hK69 : ∀ (x1 x5 x6 x7 : Int) (M : MM), ri_ x1 → ri_ x5 → ri_ x6 → ri_ x7 → K69 x1 x5 x6 x7 M → J 69 [(0, .ref (ad c)), (1, .int (Ii x1)), (2, .ref (ad p2)), (5, .int (Ii x5)), (6, .int (Ii x6)), (7, .int (Ii x7))] [] M) : ∀ (x1 x5 x6 x7 x8 x10 : Int) (M : MM), ri_ x1 → ri_ x5 → ri_ x6 → ri_ x7 → rl_ x8 → rl_ x10 → w_X5_pairSlots_b203 c p2 Q K69 x1 x5 x6 x7 x8 x10 M → J 203 [(0, .ref (ad c)), (1, .int (Ii x1)), (2, .ref (ad p2)), (5, .int (Ii x5)), (6, .int (Ii x6)), (7, .int (Ii x7)), (8, .long (Ll x8)), (10, .long (Ll x10))] [] M := by
  intro x1 x5 x6 x7 x8 x10 M gx1 gx5 gx6 gx7 gx8 gx10 hF
  unfold w_X5_pairSlots_b203 at hF
  refine j_aload_n hJ dX5_pairSlots_203 rfl 0 rfl ?_
  refine j_gr (e := (c + 15)) hJ (kP_0 hc) fC_8_17 fl_X5_64 dX5_pairSlots_204 rfl ?_
  refine j_lload hJ dX5_pairSlots_207 6 rfl ?_
  refine j_l2i hJ dX5_pairSlots_209 ?_
  have g1 := hF.1; have hF := hF.2
  refine j_iald hJ g1 (kP_15 hc) hF.1 hF.2.1 dX5_pairSlots_210 (fun v2 ev2 gv2 => ?_)
  have hF := hF.2.2 v2 ev2 gv2
  refine j_i2l hJ gv2 dX5_pairSlots_211 ?_
  refine j_lload hJ dX5_pairSlots_212 7 rfl ?_
  refine j_lcmp_eq hJ 220 (rl_ri gv2) gx10 dX5_pairSlots_214 dX5_pairSlots_215 (by decide) (fun z3 => ?_) (fun z3 => ?_)
  · have hF := hF.1 z3
    exact j_sub hJ [0, 1, 2, 3, 4, 5] rfl (k_X5_pairSlots_b220 hin hc hp2 hJ hK69 x1 x5 x6 x7 _ gx1 gx5 gx6 gx7 hF)
  · have hF := hF.2 z3
    refine j_iconst hJ dX5_pairSlots_218 ?_
    exact j_iret hJ rfl rk_m1 dX5_pairSlots_219 hF
set_option maxHeartbeats 4000000 in
set_option maxRecDepth 100000 in
theorem k_X5_pairSlots_b69 {l : Launch} {D : va_G} {cy : Nat → ClassId} {ad : Nat → Nat} {Q : Int → MM → Prop} {J : Nat → List (Nat × Value) → List Value → MM → Prop} (hin : jIn ad ksC.length) {c p2 : Nat} (hc : isP c) (hp2 : isP p2) (hJ : jOk l D vwCl (tyC cy) cy ad ftC ksC (XtC ad) Om RX5 cX5_pairSlots 12 1 ({ frames := 0, cells := 0, slots := 0, locals := 0 } : Room) Q J)  : ∀ (x1 x5 x6 x7 : Int) (M : MM), ri_ x1 → ri_ x5 → ri_ x6 → ri_ x7 → w_X5_pairSlots_b69 c p2 Q  x1 x5 x6 x7 M → J 69 [(0, .ref (ad c)), (1, .int (Ii x1)), (2, .ref (ad p2)), (5, .int (Ii x5)), (6, .int (Ii x6)), (7, .int (Ii x7))] [] M := by
  have H9 : ∀ (n : Nat) (x1 x5 x6 x7 : Int) (M : MM), ri_ x1 → ri_ x5 → ri_ x6 → ri_ x7 → jit (fun _ _ _ _ _ => False) (wb_X5_pairSlots_b69 c p2 Q ) n x1 x5 x6 x7 M → J 69 [(0, .ref (ad c)), (1, .int (Ii x1)), (2, .ref (ad p2)), (5, .int (Ii x5)), (6, .int (Ii x6)), (7, .int (Ii x7))] [] M := by
    intro n
    induction n with
    | zero => intro x1 x5 x6 x7 M gx1 gx5 gx6 gx7 hF; exact False.elim hF
    | succ n ih =>
    intro x1 x5 x6 x7 M gx1 gx5 gx6 gx7 hF
    have hF : wb_X5_pairSlots_b69 c p2 Q  (jit (fun _ _ _ _ _ => False) (wb_X5_pairSlots_b69 c p2 Q ) n) x1 x5 x6 x7 M := hF
    unfold wb_X5_pairSlots_b69 at hF
    refine j_iload hJ dX5_pairSlots_69 5 rfl ?_
    refine j_aload_n hJ dX5_pairSlots_71 rfl 0 rfl ?_
    refine j_gr (e := (c + 4)) hJ (kP_0 hc) fC_8_4 fl_X5_21 dX5_pairSlots_72 rfl ?_
    refine j_iload_n hJ dX5_pairSlots_75 rfl 1 rfl ?_
    refine j_iconst hJ dX5_pairSlots_76 ?_
    refine j_iadd hJ dX5_pairSlots_77 ?_
    have g1 := hF.1; have hF := hF.2
    refine j_iald hJ g1 (kP_4 hc) hF.1 hF.2.1 dX5_pairSlots_78 (fun v2 ev2 gv2 => ?_)
    have hF := hF.2.2 v2 ev2 gv2
    refine j_icmp_ge hJ 226 gx7 gv2 dX5_pairSlots_79 (by decide) (fun z3 => ?_) (fun z3 => ?_)
    · have hF := hF.1 z3
      refine j_iload hJ dX5_pairSlots_226 3 rfl ?_
      exact j_iret hJ rfl gx5 dX5_pairSlots_228 hF
    · have hF := hF.2 z3
      refine j_aload_n hJ dX5_pairSlots_82 rfl 0 rfl ?_
      refine j_gr (e := (c + 9)) hJ (kP_0 hc) fC_8_9 fl_X5_44 dX5_pairSlots_83 rfl ?_
      refine j_iload hJ dX5_pairSlots_86 5 rfl ?_
      refine j_lald hJ gx7 (kP_9 hc) hF.1 hF.2.1 dX5_pairSlots_88 (fun v4 ev4 gv4 => ?_)
      have hF := hF.2.2 v4 ev4 gv4
      refine j_lstore (lv' := [(8, .long (Ll v4)), (0, .ref (ad c)), (1, .int (Ii x1)), (2, .ref (ad p2)), (5, .int (Ii x5)), (6, .int (Ii x6)), (7, .int (Ii x7))]) hJ dX5_pairSlots_89 (by decide) rfl ?_
      refine j_aload_n hJ dX5_pairSlots_91 rfl 3 rfl ?_
      refine j_gr (e := (p2 + 9)) hJ (kP_0 hp2) fC_8_9 fl_X5_44 dX5_pairSlots_92 rfl ?_
      refine j_iload hJ dX5_pairSlots_95 6 rfl ?_
      refine j_iload hJ dX5_pairSlots_97 5 rfl ?_
      refine j_iadd hJ dX5_pairSlots_99 ?_
      have g5 := hF.1; have hF := hF.2
      refine j_lald hJ g5 (kP_9 hp2) hF.1 hF.2.1 dX5_pairSlots_100 (fun v6 ev6 gv6 => ?_)
      have hF := hF.2.2 v6 ev6 gv6
      refine j_lstore (lv' := [(10, .long (Ll v6)), (8, .long (Ll v4)), (0, .ref (ad c)), (1, .int (Ii x1)), (2, .ref (ad p2)), (5, .int (Ii x5)), (6, .int (Ii x6)), (7, .int (Ii x7))]) hJ dX5_pairSlots_101 (by decide) rfl ?_
      refine j_aload_n hJ dX5_pairSlots_103 rfl 2 rfl ?_
      refine j_gr (e := (c + 10)) hJ (kP_0 hc) fC_8_10 fl_X5_48 dX5_pairSlots_104 rfl ?_
      refine j_iload hJ dX5_pairSlots_107 7 rfl ?_
      refine j_zald hJ gx7 (kP_10 hc) hF.1 hF.2.1 dX5_pairSlots_109 (fun v7 ev7 gv7 => ?_)
      have hF := hF.2.2 v7 ev7 gv7
      refine j_if_eq hJ 131 (jz_ri gv7) dX5_pairSlots_110 (by decide) (fun z8 => ?_) (fun z8 => ?_)
      · have hF := hF.1 z8
        exact j_sub hJ [2, 3, 4, 5, 6, 7, 1, 0] rfl (k_X5_pairSlots_b131 hin hc hp2 hJ ih x1 x5 x6 x7 v4 v6 _ gx1 gx5 gx6 gx7 gv4 gv6 hF)
      · have hF := hF.2 z8
        refine j_lload hJ dX5_pairSlots_113 1 rfl ?_
        refine j_ldc2 hJ (-1) om_442 (by decide) dX5_pairSlots_115 ?_
        refine j_lcmp_eq hJ 131 gv4 lk_m1 dX5_pairSlots_118 dX5_pairSlots_119 (by decide) (fun z9 => ?_) (fun z9 => ?_)
        · have hF := hF.1 z9
          exact j_sub hJ [2, 3, 4, 5, 6, 7, 1, 0] rfl (k_X5_pairSlots_b131 hin hc hp2 hJ ih x1 x5 x6 x7 v4 v6 _ gx1 gx5 gx6 gx7 gv4 gv6 hF)
        · have hF := hF.2 z9
          refine j_lload hJ dX5_pairSlots_122 0 rfl ?_
          refine j_ldc2 hJ (-1) om_442 (by decide) dX5_pairSlots_124 ?_
          refine j_lcmp_ne hJ 141 gv6 lk_m1 dX5_pairSlots_127 dX5_pairSlots_128 (by decide) (fun z10 => ?_) (fun z10 => ?_)
          · have hF := hF.1 z10
            refine j_aload_n hJ dX5_pairSlots_141 rfl 2 rfl ?_
            refine j_gr (e := (c + 15)) hJ (kP_0 hc) fC_8_17 fl_X5_64 dX5_pairSlots_142 rfl ?_
            refine j_lload hJ dX5_pairSlots_145 1 rfl ?_
            refine j_l2i hJ dX5_pairSlots_147 ?_
            have g11 := hF.1; have hF := hF.2
            refine j_iald hJ g11 (kP_15 hc) hF.1 hF.2.1 dX5_pairSlots_148 (fun v12 ev12 gv12 => ?_)
            have hF := hF.2.2 v12 ev12 gv12
            refine j_iconst hJ dX5_pairSlots_149 ?_
            refine j_icmp_ne hJ 203 gv12 rk_m1 dX5_pairSlots_150 (by decide) (fun z13 => ?_) (fun z13 => ?_)
            · have hF := hF.1 z13
              exact j_sub hJ [2, 3, 4, 5, 6, 7, 1, 0] rfl (k_X5_pairSlots_b203 hin hc hp2 hJ ih x1 x5 x6 x7 v4 v6 _ gx1 gx5 gx6 gx7 gv4 gv6 hF)
            · have hF := hF.2 z13
              refine j_aload_n hJ dX5_pairSlots_153 rfl 4 rfl ?_
              refine j_gr (e := (p2 + 16)) hJ (kP_0 hp2) fC_8_18 fl_X5_67 dX5_pairSlots_154 rfl ?_
              refine j_lload hJ dX5_pairSlots_157 0 rfl ?_
              refine j_l2i hJ dX5_pairSlots_159 ?_
              have g14 := hF.1; have hF := hF.2
              refine j_iald hJ g14 (kP_16 hp2) hF.1 hF.2.1 dX5_pairSlots_160 (fun v15 ev15 gv15 => ?_)
              have hF := hF.2.2 v15 ev15 gv15
              refine j_iconst hJ dX5_pairSlots_161 ?_
              refine j_icmp_ne hJ 203 gv15 rk_m1 dX5_pairSlots_162 (by decide) (fun z16 => ?_) (fun z16 => ?_)
              · have hF := hF.1 z16
                exact j_sub hJ [2, 3, 4, 5, 6, 7, 1, 0] rfl (k_X5_pairSlots_b203 hin hc hp2 hJ ih x1 x5 x6 x7 v4 v6 _ gx1 gx5 gx6 gx7 gv4 gv6 hF)
              · have hF := hF.2 z16
                refine j_aload_n hJ dX5_pairSlots_165 rfl 2 rfl ?_
                refine j_gr (e := (c + 15)) hJ (kP_0 hc) fC_8_17 fl_X5_64 dX5_pairSlots_166 rfl ?_
                refine j_lload hJ dX5_pairSlots_169 1 rfl ?_
                refine j_l2i hJ dX5_pairSlots_171 ?_
                have g17 := hF.1; have hF := hF.2
                refine j_lload hJ dX5_pairSlots_172 0 rfl ?_
                refine j_l2i hJ dX5_pairSlots_174 ?_
                have g18 := hF.1; have hF := hF.2
                refine j_iast hJ g17 g18 (kP_15 hc) hF.1 hF.2.1 dX5_pairSlots_175 (fun M19 eM19 => ?_)
                have hF := hF.2.2 M19 eM19
                refine j_aload_n hJ dX5_pairSlots_176 rfl 4 rfl ?_
                refine j_gr (e := (p2 + 16)) hJ (kP_0 hp2) fC_8_18 fl_X5_67 dX5_pairSlots_177 rfl ?_
                refine j_lload hJ dX5_pairSlots_180 0 rfl ?_
                refine j_l2i hJ dX5_pairSlots_182 ?_
                have g20 := hF.1; have hF := hF.2
                refine j_lload hJ dX5_pairSlots_183 1 rfl ?_
                refine j_l2i hJ dX5_pairSlots_185 ?_
                have g21 := hF.1; have hF := hF.2
                refine j_iast hJ g20 g21 (kP_16 hp2) hF.1 hF.2.1 dX5_pairSlots_186 (fun M22 eM22 => ?_)
                have hF := hF.2.2 M22 eM22
                refine j_aload_n hJ dX5_pairSlots_187 rfl 2 rfl ?_
                refine j_gr (e := (c + 17)) hJ (kP_0 hc) fC_8_19 fl_X5_70 dX5_pairSlots_188 rfl ?_
                refine j_iload hJ dX5_pairSlots_191 5 rfl ?_
                refine j_lload hJ dX5_pairSlots_193 1 rfl ?_
                refine j_l2i hJ dX5_pairSlots_195 ?_
                have g23 := hF.1; have hF := hF.2
                refine j_iast hJ gx5 g23 (kP_17 hc) hF.1 hF.2.1 dX5_pairSlots_196 (fun M24 eM24 => ?_)
                have hF := hF.2.2 M24 eM24
                refine j_iinc (lv' := [(5, .int (Ii (x5 + 1))), (10, .long (Ll v6)), (8, .long (Ll v4)), (0, .ref (ad c)), (1, .int (Ii x1)), (2, .ref (ad p2)), (6, .int (Ii x6)), (7, .int (Ii x7))]) (k := 5) hJ dX5_pairSlots_197 rfl (by decide) rfl ?_
                have g25 := hF.1; have hF := hF.2
                refine j_goto hJ 220 dX5_pairSlots_200 (by decide) ?_
                exact j_sub hJ [3, 4, 5, 0, 6, 7] rfl (k_X5_pairSlots_b220 hin hc hp2 hJ ih x1 (x5 + 1) x6 x7 _ gx1 g25 gx6 gx7 hF)
          · have hF := hF.2 z10
            exact j_sub hJ [2, 3, 4, 5, 6, 7, 1, 0] rfl (k_X5_pairSlots_b131 hin hc hp2 hJ ih x1 x5 x6 x7 v4 v6 _ gx1 gx5 gx6 gx7 gv4 gv6 hF)
  intro x1 x5 x6 x7 M gx1 gx5 gx6 gx7 hF
  obtain ⟨n, hF⟩ := hF
  exact H9 n x1 x5 x6 x7 M gx1 gx5 gx6 gx7 hF
set_option maxHeartbeats 4000000 in
set_option maxRecDepth 100000 in
theorem c_X5_pairSlots {l : Launch} {D : va_G} {cy : Nat → ClassId} {ad : Nat → Nat} (hin : jIn ad ksC.length) : jCN l D vwCl (tyC cy) cy ad ftC ksC (XtC ad) yX5_pairSlots (.code yX5_pairSlots cX5_pairSlots 12 (some .int) :: Om) ({ frames := 0, cells := 0, slots := 0, locals := 0 } : Room) 1 (W_X5_pairSlots ad) := by
  refine jCN_of (y := yX5_pairSlots) (cc := cX5_pairSlots) (nL := 12) (rk := 1) (rm := ({ frames := 0, cells := 0, slots := 0, locals := 0 } : Room)) (own := RX5) (tyC_ok cy) hin (XtC_ok ad) Om_good (by decide) rfl ?_
  intro Q av M hF
  obtain ⟨c, p1, p2, p3, rfl, hc, gp1, hp2, gp3, hF⟩ := hF
  refine ⟨Nat.le_of_ble_eq_true rfl, fun J hJ => ?_⟩
  show J 0 [(0, .ref (ad c)), (1, .int (Ii p1)), (2, .ref (ad p2)), (3, .int (Ii p3))] [] M
  unfold w_X5_pairSlots at hF
  refine j_aload_n hJ dX5_pairSlots_0 rfl 0 rfl ?_
  refine j_gr (e := (c + 15)) hJ (kP_0 hc) fC_8_17 fl_X5_64 dX5_pairSlots_1 rfl ?_
  refine j_iload_n hJ dX5_pairSlots_4 rfl 1 rfl ?_
  refine j_iald hJ gp1 (kP_15 hc) hF.1 hF.2.1 dX5_pairSlots_5 (fun v1 ev1 gv1 => ?_)
  have hF := hF.2.2 v1 ev1 gv1
  refine j_istore (lv' := [(4, .int (Ii v1)), (0, .ref (ad c)), (1, .int (Ii p1)), (2, .ref (ad p2)), (3, .int (Ii p3))]) hJ dX5_pairSlots_6 (by decide) rfl ?_
  refine j_aload_n hJ dX5_pairSlots_8 rfl 1 rfl ?_
  refine j_gr (e := (c + 2)) hJ (kP_0 hc) fC_8_2 fl_X5_15 dX5_pairSlots_9 rfl ?_
  refine j_iload_n hJ dX5_pairSlots_12 rfl 2 rfl ?_
  refine j_iald hJ gp1 (kP_2 hc) hF.1 hF.2.1 dX5_pairSlots_13 (fun v2 ev2 gv2 => ?_)
  have hF := hF.2.2 v2 ev2 gv2
  refine j_aload_n hJ dX5_pairSlots_14 rfl 3 rfl ?_
  refine j_gr (e := (p2 + 2)) hJ (kP_0 hp2) fC_8_2 fl_X5_15 dX5_pairSlots_15 rfl ?_
  refine j_iload hJ dX5_pairSlots_18 0 rfl ?_
  refine j_iald hJ gv1 (kP_2 hp2) hF.1 hF.2.1 dX5_pairSlots_20 (fun v3 ev3 gv3 => ?_)
  have hF := hF.2.2 v3 ev3 gv3
  refine j_icmp_ne hJ 40 gv2 gv3 dX5_pairSlots_21 (by decide) (fun z4 => ?_) (fun z4 => ?_)
  · have hF := hF.1 z4
    refine j_iconst hJ dX5_pairSlots_40 ?_
    exact j_iret hJ rfl rk_m1 dX5_pairSlots_41 hF
  · have hF := hF.2 z4
    refine j_aload_n hJ dX5_pairSlots_24 rfl 1 rfl ?_
    refine j_gr (e := (c + 3)) hJ (kP_0 hc) fC_8_3 fl_X5_18 dX5_pairSlots_25 rfl ?_
    refine j_iload_n hJ dX5_pairSlots_28 rfl 2 rfl ?_
    refine j_iald hJ gp1 (kP_3 hc) hF.1 hF.2.1 dX5_pairSlots_29 (fun v5 ev5 gv5 => ?_)
    have hF := hF.2.2 v5 ev5 gv5
    refine j_aload_n hJ dX5_pairSlots_30 rfl 3 rfl ?_
    refine j_gr (e := (p2 + 3)) hJ (kP_0 hp2) fC_8_3 fl_X5_18 dX5_pairSlots_31 rfl ?_
    refine j_iload hJ dX5_pairSlots_34 0 rfl ?_
    refine j_iald hJ gv1 (kP_3 hp2) hF.1 hF.2.1 dX5_pairSlots_36 (fun v6 ev6 gv6 => ?_)
    have hF := hF.2.2 v6 ev6 gv6
    refine j_icmp_eq hJ 42 gv5 gv6 dX5_pairSlots_37 (by decide) (fun z7 => ?_) (fun z7 => ?_)
    · have hF := hF.1 z7
      refine j_iload_n hJ dX5_pairSlots_42 rfl 4 rfl ?_
      refine j_istore (lv' := [(5, .int (Ii p3)), (4, .int (Ii v1)), (0, .ref (ad c)), (1, .int (Ii p1)), (2, .ref (ad p2)), (3, .int (Ii p3))]) hJ dX5_pairSlots_43 (by decide) rfl ?_
      refine j_aload_n hJ dX5_pairSlots_45 rfl 4 rfl ?_
      refine j_gr (e := (p2 + 4)) hJ (kP_0 hp2) fC_8_4 fl_X5_21 dX5_pairSlots_46 rfl ?_
      refine j_iload hJ dX5_pairSlots_49 1 rfl ?_
      refine j_iald hJ gv1 (kP_4 hp2) hF.1 hF.2.1 dX5_pairSlots_51 (fun v8 ev8 gv8 => ?_)
      have hF := hF.2.2 v8 ev8 gv8
      refine j_aload_n hJ dX5_pairSlots_52 rfl 2 rfl ?_
      refine j_gr (e := (c + 4)) hJ (kP_0 hc) fC_8_4 fl_X5_21 dX5_pairSlots_53 rfl ?_
      refine j_iload_n hJ dX5_pairSlots_56 rfl 3 rfl ?_
      refine j_iald hJ gp1 (kP_4 hc) hF.1 hF.2.1 dX5_pairSlots_57 (fun v9 ev9 gv9 => ?_)
      have hF := hF.2.2 v9 ev9 gv9
      refine j_isub hJ dX5_pairSlots_58 ?_
      have g10 := hF.1; have hF := hF.2
      refine j_istore (lv' := [(6, .int (Ii (v8 - v9))), (5, .int (Ii p3)), (4, .int (Ii v1)), (0, .ref (ad c)), (1, .int (Ii p1)), (2, .ref (ad p2)), (3, .int (Ii p3))]) hJ dX5_pairSlots_59 (by decide) rfl ?_
      refine j_aload_n hJ dX5_pairSlots_61 rfl 3 rfl ?_
      refine j_gr (e := (c + 4)) hJ (kP_0 hc) fC_8_4 fl_X5_21 dX5_pairSlots_62 rfl ?_
      refine j_iload_n hJ dX5_pairSlots_65 rfl 4 rfl ?_
      refine j_iald hJ gp1 (kP_4 hc) hF.1 hF.2.1 dX5_pairSlots_66 (fun v11 ev11 gv11 => ?_)
      have hF := hF.2.2 v11 ev11 gv11
      refine j_istore (lv' := [(7, .int (Ii v11)), (6, .int (Ii (v8 - v9))), (5, .int (Ii p3)), (4, .int (Ii v1)), (0, .ref (ad c)), (1, .int (Ii p1)), (2, .ref (ad p2)), (3, .int (Ii p3))]) hJ dX5_pairSlots_67 (by decide) rfl ?_
      exact j_sub hJ [4, 5, 6, 2, 1, 0] rfl (k_X5_pairSlots_b69 hin hc hp2 hJ  p1 p3 (v8 - v9) v11 _ gp1 gp3 g10 gv11 hF)
    · have hF := hF.2 z7
      refine j_iconst hJ dX5_pairSlots_40 ?_
      exact j_iret hJ rfl rk_m1 dX5_pairSlots_41 hF
def W_X5_isLike (ad : Nat → Nat) (Q : Int → MM → Prop) (av : List Value) (M : MM) : Prop := ∃ (c : Nat) (p1 : Int) (p2 : Nat) (p3 : Int), av = [.ref (ad c), .int (Ii p1), .ref (ad p2), .int (Ii p3)] ∧ isP c ∧ ri_ p1 ∧ isP p2 ∧ ri_ p3 ∧ w_X5_isLike c p2 Q p1 p3 M
set_option maxHeartbeats 4000000 in
set_option maxRecDepth 100000 in
theorem k_X5_isLike_b53 {l : Launch} {D : va_G} {cy : Nat → ClassId} {ad : Nat → Nat} {Q : Int → MM → Prop} {J : Nat → List (Nat × Value) → List Value → MM → Prop} (hin : jIn ad ksC.length) {c p2 : Nat} (hc : isP c) (hp2 : isP p2) (hJ : jOk l D vwCl (tyC cy) cy ad ftC ksC (XtC ad) Om RX5 cX5_isLike 6 3 ({ frames := 2, cells := 0, slots := 0, locals := 46 } : Room) Q J)  : ∀ (x4 x5 : Int) (M : MM), ri_ x4 → ri_ x5 → w_X5_isLike_b53 c p2 Q  x4 x5 M → J 53 [(0, .ref (ad c)), (2, .ref (ad p2)), (4, .int (Ii x4)), (5, .int (Ii x5))] [] M := by
  have H9 : ∀ (n : Nat) (x4 x5 : Int) (M : MM), ri_ x4 → ri_ x5 → jit (fun _ _ _ => False) (wb_X5_isLike_b53 c p2 Q ) n x4 x5 M → J 53 [(0, .ref (ad c)), (2, .ref (ad p2)), (4, .int (Ii x4)), (5, .int (Ii x5))] [] M := by
    intro n
    induction n with
    | zero => intro x4 x5 M gx4 gx5 hF; exact False.elim hF
    | succ n ih =>
    intro x4 x5 M gx4 gx5 hF
    have hF : wb_X5_isLike_b53 c p2 Q  (jit (fun _ _ _ => False) (wb_X5_isLike_b53 c p2 Q ) n) x4 x5 M := hF
    unfold wb_X5_isLike_b53 at hF
    refine j_iload hJ dX5_isLike_53 3 rfl ?_
    refine j_iload hJ dX5_isLike_55 2 rfl ?_
    refine j_icmp_ge hJ 99 gx5 gx4 dX5_isLike_57 (by decide) (fun z1 => ?_) (fun z1 => ?_)
    · have hF := hF.1 z1
      refine j_iconst hJ dX5_isLike_99 ?_
      exact j_zret hJ rfl (by decide) dX5_isLike_100 hF
    · have hF := hF.2 z1
      refine j_iload hJ dX5_isLike_60 3 rfl ?_
      refine j_aload_n hJ dX5_isLike_62 rfl 0 rfl ?_
      refine j_gi hJ (kP_0 hc) fC_8_0 rfl fl_X5_82 dX5_isLike_63 (fun v2 ev2 gv2 => ?_)
      have hF := hF v2 ev2 gv2
      refine j_icmp_ge hJ 99 gx5 gv2 dX5_isLike_66 (by decide) (fun z3 => ?_) (fun z3 => ?_)
      · have hF := hF.1 z3
        refine j_iconst hJ dX5_isLike_99 ?_
        exact j_zret hJ rfl (by decide) dX5_isLike_100 hF
      · have hF := hF.2 z3
        refine j_aload_n hJ dX5_isLike_69 rfl 0 rfl ?_
        refine j_aload_n hJ dX5_isLike_70 rfl 0 rfl ?_
        refine j_gr (e := (c + 17)) hJ (kP_0 hc) fC_8_19 fl_X5_70 dX5_isLike_71 rfl ?_
        refine j_iload hJ dX5_isLike_74 3 rfl ?_
        refine j_iald hJ gx5 (kP_17 hc) hF.1 hF.2.1 dX5_isLike_76 (fun v4 ev4 gv4 => ?_)
        have hF := hF.2.2 v4 ev4 gv4
        refine j_aload_n hJ dX5_isLike_77 rfl 1 rfl ?_
        refine j_iload hJ dX5_isLike_78 2 rfl ?_
        refine j_callVi hJ (c_X5_pairSlots (l := l) (D := D) (cy := cy) (ad := ad) hin) rfl om_524 ⟨rfl, rfl, Nat.le_of_ble_eq_true rfl, Nat.le_of_ble_eq_true rfl⟩ [.int (Ii v4), .ref (ad p2), .int (Ii x4)] mv_X5_219 hd_X5_pairSlotsv (kP_0 hc) rfl rfl rfl (Nat.le_of_ble_eq_true rfl) dX5_isLike_80 ⟨c, v4, p2, x4, rfl, hc, gv4, hp2, gx4, hF⟩ (fun r5 M6 gr5 qM6 => ?_)
        have hF := qM6 gr5
        refine j_istore (lv' := [(4, .int (Ii r5)), (0, .ref (ad c)), (2, .ref (ad p2)), (5, .int (Ii x5))]) hJ dX5_isLike_83 (by decide) rfl ?_
        refine j_iload hJ dX5_isLike_85 0 rfl ?_
        refine j_iconst hJ dX5_isLike_87 ?_
        refine j_icmp_ne hJ 93 gr5 rk_m1 dX5_isLike_88 (by decide) (fun z7 => ?_) (fun z7 => ?_)
        · have hF := hF.1 z7
          refine j_iinc (lv' := [(5, .int (Ii (x5 + 1))), (4, .int (Ii r5)), (0, .ref (ad c)), (2, .ref (ad p2))]) (k := 3) hJ dX5_isLike_93 rfl (by decide) rfl ?_
          have g8 := hF.1; have hF := hF.2
          refine j_goto hJ 53 dX5_isLike_96 (by decide) ?_
          exact j_sub hJ [2, 3, 1, 0] rfl (ih r5 (x5 + 1) _ gr5 g8 hF)
        · have hF := hF.2 z7
          refine j_iconst hJ dX5_isLike_91 ?_
          exact j_zret hJ rfl (by decide) dX5_isLike_92 hF
  intro x4 x5 M gx4 gx5 hF
  obtain ⟨n, hF⟩ := hF
  exact H9 n x4 x5 M gx4 gx5 hF
set_option maxHeartbeats 4000000 in
set_option maxRecDepth 100000 in
theorem c_X5_isLike {l : Launch} {D : va_G} {cy : Nat → ClassId} {ad : Nat → Nat} (hin : jIn ad ksC.length) : jCN l D vwCl (tyC cy) cy ad ftC ksC (XtC ad) yX5_isLike (.code yX5_isLike cX5_isLike 6 (some .boolean) :: Om) ({ frames := 2, cells := 0, slots := 0, locals := 46 } : Room) 3 (W_X5_isLike ad) := by
  refine jCN_of (y := yX5_isLike) (cc := cX5_isLike) (nL := 6) (rk := 3) (rm := ({ frames := 2, cells := 0, slots := 0, locals := 46 } : Room)) (own := RX5) (tyC_ok cy) hin (XtC_ok ad) Om_good (by decide) rfl ?_
  intro Q av M hF
  obtain ⟨c, p1, p2, p3, rfl, hc, gp1, hp2, gp3, hF⟩ := hF
  refine ⟨Nat.le_of_ble_eq_true rfl, fun J hJ => ?_⟩
  show J 0 [(0, .ref (ad c)), (1, .int (Ii p1)), (2, .ref (ad p2)), (3, .int (Ii p3))] [] M
  unfold w_X5_isLike at hF
  refine j_aload_n hJ dX5_isLike_0 rfl 0 rfl ?_
  refine j_gr (e := (c + 15)) hJ (kP_0 hc) fC_8_17 fl_X5_64 dX5_isLike_1 rfl ?_
  refine j_iconst hJ dX5_isLike_4 ?_
  refine j_aload_n hJ dX5_isLike_5 rfl 0 rfl ?_
  refine j_gi hJ (kP_0 hc) fC_8_0 rfl fl_X5_82 dX5_isLike_6 (fun v1 ev1 gv1 => ?_)
  have hF := hF v1 ev1 gv1
  refine j_iconst hJ dX5_isLike_9 ?_
  refine j_callSv hJ (c_J7_fill_fda19_C (l := l) (D := D) (cy := cy) (ad := ad) hin) rfl om_214 ⟨rfl, rfl, Nat.le_of_ble_eq_true rfl, Nat.le_of_ble_eq_true rfl⟩ [.ref (ad (c + 15)), .int (Ii 0), .int (Ii v1), .int (Ii (-1))] mv_X5_209 hd_J7_fill_fda19 rfl (Nat.le_of_ble_eq_true rfl) dX5_isLike_10 ⟨(c + 15), 400, 0, v1, (-1), rfl, (kP_15 hc), (by decide), rk_0, gv1, rk_m1, hF⟩ (fun M3 qM3 => ?_)
  have hF := qM3
  refine j_aload_n hJ dX5_isLike_13 rfl 2 rfl ?_
  refine j_gr (e := (p2 + 16)) hJ (kP_0 hp2) fC_8_18 fl_X5_67 dX5_isLike_14 rfl ?_
  refine j_iconst hJ dX5_isLike_17 ?_
  refine j_aload_n hJ dX5_isLike_18 rfl 2 rfl ?_
  refine j_gi hJ (kP_0 hp2) fC_8_0 rfl fl_X5_82 dX5_isLike_19 (fun v4 ev4 gv4 => ?_)
  have hF := hF v4 ev4 gv4
  refine j_iconst hJ dX5_isLike_22 ?_
  refine j_callSv hJ (c_J7_fill_fda19_C (l := l) (D := D) (cy := cy) (ad := ad) hin) rfl om_214 ⟨rfl, rfl, Nat.le_of_ble_eq_true rfl, Nat.le_of_ble_eq_true rfl⟩ [.ref (ad (p2 + 16)), .int (Ii 0), .int (Ii v4), .int (Ii (-1))] mv_X5_209 hd_J7_fill_fda19 rfl (Nat.le_of_ble_eq_true rfl) dX5_isLike_23 ⟨(p2 + 16), 400, 0, v4, (-1), rfl, (kP_16 hp2), (by decide), rk_0, gv4, rk_m1, hF⟩ (fun M6 qM6 => ?_)
  have hF := qM6
  refine j_aload_n hJ dX5_isLike_26 rfl 0 rfl ?_
  refine j_gr (e := (c + 15)) hJ (kP_0 hc) fC_8_17 fl_X5_64 dX5_isLike_27 rfl ?_
  refine j_iload_n hJ dX5_isLike_30 rfl 1 rfl ?_
  refine j_iload_n hJ dX5_isLike_31 rfl 3 rfl ?_
  refine j_iast hJ gp1 gp3 (kP_15 hc) hF.1 hF.2.1 dX5_isLike_32 (fun M7 eM7 => ?_)
  have hF := hF.2.2 M7 eM7
  refine j_aload_n hJ dX5_isLike_33 rfl 2 rfl ?_
  refine j_gr (e := (p2 + 16)) hJ (kP_0 hp2) fC_8_18 fl_X5_67 dX5_isLike_34 rfl ?_
  refine j_iload_n hJ dX5_isLike_37 rfl 3 rfl ?_
  refine j_iload_n hJ dX5_isLike_38 rfl 1 rfl ?_
  refine j_iast hJ gp3 gp1 (kP_16 hp2) hF.1 hF.2.1 dX5_isLike_39 (fun M8 eM8 => ?_)
  have hF := hF.2.2 M8 eM8
  refine j_aload_n hJ dX5_isLike_40 rfl 0 rfl ?_
  refine j_gr (e := (c + 17)) hJ (kP_0 hc) fC_8_19 fl_X5_70 dX5_isLike_41 rfl ?_
  refine j_iconst hJ dX5_isLike_44 ?_
  refine j_iload_n hJ dX5_isLike_45 rfl 1 rfl ?_
  refine j_iast hJ rk_0 gp1 (kP_17 hc) (by decide) (by decide) dX5_isLike_46 (fun M9 eM9 => ?_)
  have hF := hF M9 eM9
  refine j_iconst hJ dX5_isLike_47 ?_
  refine j_istore (lv' := [(4, .int (Ii 1)), (0, .ref (ad c)), (1, .int (Ii p1)), (2, .ref (ad p2)), (3, .int (Ii p3))]) hJ dX5_isLike_48 (by decide) rfl ?_
  refine j_iconst hJ dX5_isLike_50 ?_
  refine j_istore (lv' := [(5, .int (Ii 0)), (4, .int (Ii 1)), (0, .ref (ad c)), (1, .int (Ii p1)), (2, .ref (ad p2)), (3, .int (Ii p3))]) hJ dX5_isLike_51 (by decide) rfl ?_
  exact j_sub hJ [2, 4, 1, 0] rfl (k_X5_isLike_b53 hin hc hp2 hJ  1 0 _ rk_1 rk_0 hF)
def W_X9_isDigit (ad : Nat → Nat) (Q : Int → MM → Prop) (av : List Value) (M : MM) : Prop := ∃ (p1 : Int), av = [.int (Ii p1)] ∧ ri_ p1 ∧ w_X9_isDigit  Q p1 M
set_option maxHeartbeats 4000000 in
set_option maxRecDepth 100000 in
theorem c_X9_isDigit {l : Launch} {D : va_G} {cy : Nat → ClassId} {ad : Nat → Nat} (hin : jIn ad ksC.length) : jCN l D vwCl (tyC cy) cy ad ftC ksC (XtC ad) yX9_isDigit (.code yX9_isDigit cX9_isDigit 1 (some .boolean) :: Om) ({ frames := 0, cells := 0, slots := 0, locals := 0 } : Room) 3 (W_X9_isDigit ad) := by
  refine jCN_of (y := yX9_isDigit) (cc := cX9_isDigit) (nL := 1) (rk := 3) (rm := ({ frames := 0, cells := 0, slots := 0, locals := 0 } : Room)) (own := RX9) (tyC_ok cy) hin (XtC_ok ad) Om_good (by decide) rfl ?_
  intro Q av M hF
  obtain ⟨p1, rfl, gp1, hF⟩ := hF
  refine ⟨Nat.le_of_ble_eq_true rfl, fun J hJ => ?_⟩
  show J 0 [(0, .int (Ii p1))] [] M
  unfold w_X9_isDigit at hF
  refine j_iload_n hJ dX9_isDigit_0 rfl 0 rfl ?_
  refine j_bipush hJ dX9_isDigit_1 (by decide) ?_
  refine j_icmp_lt hJ 16 gp1 rk_48 dX9_isDigit_3 (by decide) (fun z1 => ?_) (fun z1 => ?_)
  · have hF := hF.1 z1
    refine j_iconst hJ dX9_isDigit_16 ?_
    exact j_zret hJ rfl (by decide) dX9_isDigit_17 hF
  · have hF := hF.2 z1
    refine j_iload_n hJ dX9_isDigit_6 rfl 0 rfl ?_
    refine j_bipush hJ dX9_isDigit_7 (by decide) ?_
    refine j_icmp_gt hJ 16 gp1 rk_57 dX9_isDigit_9 (by decide) (fun z2 => ?_) (fun z2 => ?_)
    · have hF := hF.1 z2
      refine j_iconst hJ dX9_isDigit_16 ?_
      exact j_zret hJ rfl (by decide) dX9_isDigit_17 hF
    · have hF := hF.2 z2
      refine j_iconst hJ dX9_isDigit_12 ?_
      refine j_goto hJ 17 dX9_isDigit_13 (by decide) ?_
      exact j_zret hJ rfl (by decide) dX9_isDigit_17 hF
def W_X9_symbolOf (ad : Nat → Nat) (Q : Int → MM → Prop) (av : List Value) (M : MM) : Prop := ∃ (p1 : Int), av = [.int (Ii p1)] ∧ ri_ p1 ∧ w_X9_symbolOf  Q p1 M
set_option maxHeartbeats 4000000 in
set_option maxRecDepth 100000 in
theorem k_X9_symbolOf_b39 {l : Launch} {D : va_G} {cy : Nat → ClassId} {ad : Nat → Nat} {Q : Int → MM → Prop} {J : Nat → List (Nat × Value) → List Value → MM → Prop} (hin : jIn ad ksC.length)   (hJ : jOk l D vwCl (tyC cy) cy ad ftC ksC (XtC ad) Om RX9 cX9_symbolOf 1 1 ({ frames := 1, cells := 0, slots := 0, locals := 20 } : Room) Q J)  : ∀ (x0 : Int) (M : MM), ri_ x0 → w_X9_symbolOf_b39  Q  x0 M → J 39 [(0, .int (Ii x0))] [] M := by
  intro x0 M gx0 hF
  unfold w_X9_symbolOf_b39 at hF
  refine j_iload_n hJ dX9_symbolOf_39 rfl 0 rfl ?_
  refine j_callSz hJ (c_X9_isDigit (l := l) (D := D) (cy := cy) (ad := ad) hin) rfl om_528 ⟨rfl, rfl, Nat.le_of_ble_eq_true rfl, Nat.le_of_ble_eq_true rfl⟩ [.int (Ii x0)] mv_X9_65 hd_X9_isDigit rfl (Nat.le_of_ble_eq_true rfl) dX9_symbolOf_40 ⟨x0, rfl, gx0, hF⟩ (fun r1 M2 gr1 qM2 => ?_)
  have hF := qM2 gr1
  refine j_if_eq hJ 56 (jz_ri gr1) dX9_symbolOf_43 (by decide) (fun z3 => ?_) (fun z3 => ?_)
  · have hF := hF.1 z3
    refine j_iconst hJ dX9_symbolOf_56 ?_
    exact j_iret hJ rfl rk_0 dX9_symbolOf_57 hF
  · have hF := hF.2 z3
    refine j_iload_n hJ dX9_symbolOf_46 rfl 0 rfl ?_
    refine j_bipush hJ dX9_symbolOf_47 (by decide) ?_
    refine j_isub hJ dX9_symbolOf_49 ?_
    have g4 := hF.1; have hF := hF.2
    refine j_bipush hJ dX9_symbolOf_50 (by decide) ?_
    refine j_iadd hJ dX9_symbolOf_52 ?_
    have g5 := hF.1; have hF := hF.2
    refine j_goto hJ 57 dX9_symbolOf_53 (by decide) ?_
    exact j_iret hJ rfl g5 dX9_symbolOf_57 hF
set_option maxHeartbeats 4000000 in
set_option maxRecDepth 100000 in
theorem k_X9_symbolOf_b19 {l : Launch} {D : va_G} {cy : Nat → ClassId} {ad : Nat → Nat} {Q : Int → MM → Prop} {J : Nat → List (Nat × Value) → List Value → MM → Prop} (hin : jIn ad ksC.length)   (hJ : jOk l D vwCl (tyC cy) cy ad ftC ksC (XtC ad) Om RX9 cX9_symbolOf 1 1 ({ frames := 1, cells := 0, slots := 0, locals := 20 } : Room) Q J)  : ∀ (x0 : Int) (M : MM), ri_ x0 → w_X9_symbolOf_b19  Q  x0 M → J 19 [(0, .int (Ii x0))] [] M := by
  intro x0 M gx0 hF
  unfold w_X9_symbolOf_b19 at hF
  refine j_iload_n hJ dX9_symbolOf_19 rfl 0 rfl ?_
  refine j_bipush hJ dX9_symbolOf_20 (by decide) ?_
  refine j_icmp_lt hJ 39 gx0 rk_97 dX9_symbolOf_22 (by decide) (fun z1 => ?_) (fun z1 => ?_)
  · have hF := hF.1 z1
    exact j_sub hJ [0] rfl (k_X9_symbolOf_b39 hin  hJ  x0 _ gx0 hF)
  · have hF := hF.2 z1
    refine j_iload_n hJ dX9_symbolOf_25 rfl 0 rfl ?_
    refine j_bipush hJ dX9_symbolOf_26 (by decide) ?_
    refine j_icmp_gt hJ 39 gx0 rk_122 dX9_symbolOf_28 (by decide) (fun z2 => ?_) (fun z2 => ?_)
    · have hF := hF.1 z2
      exact j_sub hJ [0] rfl (k_X9_symbolOf_b39 hin  hJ  x0 _ gx0 hF)
    · have hF := hF.2 z2
      refine j_iload_n hJ dX9_symbolOf_31 rfl 0 rfl ?_
      refine j_bipush hJ dX9_symbolOf_32 (by decide) ?_
      refine j_isub hJ dX9_symbolOf_34 ?_
      have g3 := hF.1; have hF := hF.2
      refine j_bipush hJ dX9_symbolOf_35 (by decide) ?_
      refine j_iadd hJ dX9_symbolOf_37 ?_
      have g4 := hF.1; have hF := hF.2
      exact j_iret hJ rfl g4 dX9_symbolOf_38 hF
set_option maxHeartbeats 4000000 in
set_option maxRecDepth 100000 in
theorem c_X9_symbolOf {l : Launch} {D : va_G} {cy : Nat → ClassId} {ad : Nat → Nat} (hin : jIn ad ksC.length) : jCN l D vwCl (tyC cy) cy ad ftC ksC (XtC ad) yX9_symbolOf (.code yX9_symbolOf cX9_symbolOf 1 (some .int) :: Om) ({ frames := 1, cells := 0, slots := 0, locals := 20 } : Room) 1 (W_X9_symbolOf ad) := by
  refine jCN_of (y := yX9_symbolOf) (cc := cX9_symbolOf) (nL := 1) (rk := 1) (rm := ({ frames := 1, cells := 0, slots := 0, locals := 20 } : Room)) (own := RX9) (tyC_ok cy) hin (XtC_ok ad) Om_good (by decide) rfl ?_
  intro Q av M hF
  obtain ⟨p1, rfl, gp1, hF⟩ := hF
  refine ⟨Nat.le_of_ble_eq_true rfl, fun J hJ => ?_⟩
  show J 0 [(0, .int (Ii p1))] [] M
  unfold w_X9_symbolOf at hF
  refine j_iload_n hJ dX9_symbolOf_0 rfl 0 rfl ?_
  refine j_bipush hJ dX9_symbolOf_1 (by decide) ?_
  refine j_icmp_lt hJ 19 gp1 rk_65 dX9_symbolOf_3 (by decide) (fun z1 => ?_) (fun z1 => ?_)
  · have hF := hF.1 z1
    exact j_sub hJ [0] rfl (k_X9_symbolOf_b19 hin  hJ  p1 _ gp1 hF)
  · have hF := hF.2 z1
    refine j_iload_n hJ dX9_symbolOf_6 rfl 0 rfl ?_
    refine j_bipush hJ dX9_symbolOf_7 (by decide) ?_
    refine j_icmp_gt hJ 19 gp1 rk_90 dX9_symbolOf_9 (by decide) (fun z2 => ?_) (fun z2 => ?_)
    · have hF := hF.1 z2
      exact j_sub hJ [0] rfl (k_X9_symbolOf_b19 hin  hJ  p1 _ gp1 hF)
    · have hF := hF.2 z2
      refine j_iload_n hJ dX9_symbolOf_12 rfl 0 rfl ?_
      refine j_bipush hJ dX9_symbolOf_13 (by decide) ?_
      refine j_isub hJ dX9_symbolOf_15 ?_
      have g3 := hF.1; have hF := hF.2
      refine j_iconst hJ dX9_symbolOf_16 ?_
      refine j_iadd hJ dX9_symbolOf_17 ?_
      have g4 := hF.1; have hF := hF.2
      exact j_iret hJ rfl g4 dX9_symbolOf_18 hF
def W_J0_isLatin1_aae02_C (ad : Nat → Nat) (Q : Int → MM → Prop) (av : List Value) (M : MM) : Prop := av = [.ref (ad 901)] ∧ w_J0_isLatin1_aae02_C  Q  M
set_option maxHeartbeats 4000000 in
set_option maxRecDepth 100000 in
theorem c_J0_isLatin1_aae02_C {l : Launch} {D : va_G} {cy : Nat → ClassId} {ad : Nat → Nat} (hin : jIn ad ksC.length) : jCN l D vwCl (tyC cy) cy ad ftC ksC (XtC ad) yJ0_isLatin1_aae02 (.code yJ0_isLatin1_aae02 cJ0_isLatin1_aae02 1 (some .boolean) :: Om) ({ frames := 0, cells := 0, slots := 0, locals := 0 } : Room) 3 (W_J0_isLatin1_aae02_C ad) := by
  refine jCN_of (y := yJ0_isLatin1_aae02) (cc := cJ0_isLatin1_aae02) (nL := 1) (rk := 3) (rm := ({ frames := 0, cells := 0, slots := 0, locals := 0 } : Room)) (own := RJ0) (tyC_ok cy) hin (XtC_ok ad) Om_good (by decide) rfl ?_
  intro Q av M hF
  obtain ⟨rfl, hF⟩ := hF
  refine ⟨Nat.le_of_ble_eq_true rfl, fun J hJ => ?_⟩
  show J 0 [(0, .ref (ad 901))] [] M
  unfold w_J0_isLatin1_aae02_C at hF
  refine j_gs hJ XtC_cs om_535 dJ0_isLatin1_aae02_0 ?_
  refine j_if_eq hJ 17 rk_1 dJ0_isLatin1_aae02_3 (by decide) (fun z => absurd z (by decide)) (fun _ => ?_)
  refine j_aload_n hJ dJ0_isLatin1_aae02_6 rfl 0 rfl ?_
  refine j_gsf hJ XtC_s2 om_536 dJ0_isLatin1_aae02_7 ?_
  refine j_if_ne hJ 17 rk_0 dJ0_isLatin1_aae02_10 (by decide) (fun z => absurd z (by decide)) (fun _ => ?_)
  refine j_iconst hJ dJ0_isLatin1_aae02_13 ?_
  refine j_goto hJ 18 dJ0_isLatin1_aae02_14 (by decide) ?_
  exact j_zret hJ rfl (by decide) dJ0_isLatin1_aae02_18 hF
def W_J0_coder_7d493_C (ad : Nat → Nat) (Q : Int → MM → Prop) (av : List Value) (M : MM) : Prop := av = [.ref (ad 901)] ∧ w_J0_coder_7d493_C  Q  M
set_option maxHeartbeats 4000000 in
set_option maxRecDepth 100000 in
theorem c_J0_coder_7d493_C {l : Launch} {D : va_G} {cy : Nat → ClassId} {ad : Nat → Nat} (hin : jIn ad ksC.length) : jCN l D vwCl (tyC cy) cy ad ftC ksC (XtC ad) yJ0_coder_7d493 (.code yJ0_coder_7d493 cJ0_coder_7d493 1 (some .byte) :: Om) ({ frames := 0, cells := 0, slots := 0, locals := 0 } : Room) 4 (W_J0_coder_7d493_C ad) := by
  refine jCN_of (y := yJ0_coder_7d493) (cc := cJ0_coder_7d493) (nL := 1) (rk := 4) (rm := ({ frames := 0, cells := 0, slots := 0, locals := 0 } : Room)) (own := RJ0) (tyC_ok cy) hin (XtC_ok ad) Om_good (by decide) rfl ?_
  intro Q av M hF
  obtain ⟨rfl, hF⟩ := hF
  refine ⟨Nat.le_of_ble_eq_true rfl, fun J hJ => ?_⟩
  show J 0 [(0, .ref (ad 901))] [] M
  unfold w_J0_coder_7d493_C at hF
  refine j_gs hJ XtC_cs om_535 dJ0_coder_7d493_0 ?_
  refine j_if_eq hJ 13 rk_1 dJ0_coder_7d493_3 (by decide) (fun z => absurd z (by decide)) (fun _ => ?_)
  refine j_aload_n hJ dJ0_coder_7d493_6 rfl 0 rfl ?_
  refine j_gsf hJ XtC_s2 om_536 dJ0_coder_7d493_7 ?_
  refine j_goto hJ 14 dJ0_coder_7d493_10 (by decide) ?_
  exact j_bret hJ rfl (by omega) dJ0_coder_7d493_14 hF
def W_J0_length_8abf5_C (ad : Nat → Nat) (Q : Int → MM → Prop) (av : List Value) (M : MM) : Prop := av = [.ref (ad 901)] ∧ w_J0_length_8abf5_C  Q  M
set_option maxHeartbeats 4000000 in
set_option maxRecDepth 100000 in
theorem c_J0_length_8abf5_C {l : Launch} {D : va_G} {cy : Nat → ClassId} {ad : Nat → Nat} (hin : jIn ad ksC.length) : jCN l D vwCl (tyC cy) cy ad ftC ksC (XtC ad) yJ0_length_8abf5 (.code yJ0_length_8abf5 cJ0_length_8abf5 1 (some .int) :: Om) ({ frames := 1, cells := 0, slots := 0, locals := 20 } : Room) 1 (W_J0_length_8abf5_C ad) := by
  refine jCN_of (y := yJ0_length_8abf5) (cc := cJ0_length_8abf5) (nL := 1) (rk := 1) (rm := ({ frames := 1, cells := 0, slots := 0, locals := 20 } : Room)) (own := RJ0) (tyC_ok cy) hin (XtC_ok ad) Om_good (by decide) rfl ?_
  intro Q av M hF
  obtain ⟨rfl, hF⟩ := hF
  refine ⟨Nat.le_of_ble_eq_true rfl, fun J hJ => ?_⟩
  show J 0 [(0, .ref (ad 901))] [] M
  unfold w_J0_length_8abf5_C at hF
  refine j_aload_n hJ dJ0_length_8abf5_0 rfl 0 rfl ?_
  refine j_gsf hJ XtC_s3 om_542 dJ0_length_8abf5_1 ?_
  refine j_tlen hJ XtC_s4 dJ0_length_8abf5_4 ?_
  refine j_aload_n hJ dJ0_length_8abf5_5 rfl 0 rfl ?_
  refine j_callTb hJ (c_J0_coder_7d493_C (l := l) (D := D) (cy := cy) (ad := ad) hin) rfl om_543 ⟨rfl, rfl, Nat.le_of_ble_eq_true rfl, Nat.le_of_ble_eq_true rfl⟩ [] mv_J0_335 hd_J0_coder_7d493v XtC_s0 rfl (Nat.le_of_ble_eq_true rfl) dJ0_length_8abf5_6 ⟨rfl, hF⟩ (fun r1 M2 gr1 qM2 => ?_)
  have hF := qM2 gr1
  refine j_ishr hJ dJ0_length_8abf5_9 ?_
  exact j_iret hJ rfl (ri_of _) dJ0_length_8abf5_10 hF
def W_J1_canEncode_9a6ad_C (ad : Nat → Nat) (Q : Int → MM → Prop) (av : List Value) (M : MM) : Prop := ∃ (p1 : Int), av = [.int (Ii p1)] ∧ ri_ p1 ∧ w_J1_canEncode_9a6ad_C  Q p1 M
set_option maxHeartbeats 4000000 in
set_option maxRecDepth 100000 in
theorem c_J1_canEncode_9a6ad_C {l : Launch} {D : va_G} {cy : Nat → ClassId} {ad : Nat → Nat} (hin : jIn ad ksC.length) : jCN l D vwCl (tyC cy) cy ad ftC ksC (XtC ad) yJ1_canEncode_9a6ad (.code yJ1_canEncode_9a6ad cJ1_canEncode_9a6ad 1 (some .boolean) :: Om) ({ frames := 0, cells := 0, slots := 0, locals := 0 } : Room) 3 (W_J1_canEncode_9a6ad_C ad) := by
  refine jCN_of (y := yJ1_canEncode_9a6ad) (cc := cJ1_canEncode_9a6ad) (nL := 1) (rk := 3) (rm := ({ frames := 0, cells := 0, slots := 0, locals := 0 } : Room)) (own := RJ1) (tyC_ok cy) hin (XtC_ok ad) Om_good (by decide) rfl ?_
  intro Q av M hF
  obtain ⟨p1, rfl, gp1, hF⟩ := hF
  refine ⟨Nat.le_of_ble_eq_true rfl, fun J hJ => ?_⟩
  show J 0 [(0, .int (Ii p1))] [] M
  unfold w_J1_canEncode_9a6ad_C at hF
  refine j_iload_n hJ dJ1_canEncode_9a6ad_0 rfl 0 rfl ?_
  refine j_if_lt hJ 15 gp1 dJ1_canEncode_9a6ad_1 (by decide) (fun z1 => ?_) (fun z1 => ?_)
  · have hF := hF.1 z1
    refine j_iconst hJ dJ1_canEncode_9a6ad_15 ?_
    exact j_zret hJ rfl (by decide) dJ1_canEncode_9a6ad_16 hF
  · have hF := hF.2 z1
    refine j_iload_n hJ dJ1_canEncode_9a6ad_4 rfl 0 rfl ?_
    refine j_sipush hJ dJ1_canEncode_9a6ad_5 (by decide) ?_
    refine j_icmp_gt hJ 15 gp1 rk_255 dJ1_canEncode_9a6ad_8 (by decide) (fun z2 => ?_) (fun z2 => ?_)
    · have hF := hF.1 z2
      refine j_iconst hJ dJ1_canEncode_9a6ad_15 ?_
      exact j_zret hJ rfl (by decide) dJ1_canEncode_9a6ad_16 hF
    · have hF := hF.2 z2
      refine j_iconst hJ dJ1_canEncode_9a6ad_11 ?_
      refine j_goto hJ 16 dJ1_canEncode_9a6ad_12 (by decide) ?_
      exact j_zret hJ rfl (by decide) dJ1_canEncode_9a6ad_16 hF
def W_J1_indexOfChar_4cfef_C (ad : Nat → Nat) (Q : Int → MM → Prop) (av : List Value) (M : MM) : Prop := ∃ (p2 : Int) (p3 : Int) (p4 : Int), av = [.ref (ad 902), .int (Ii p2), .int (Ii p3), .int (Ii p4)] ∧ ri_ p2 ∧ ri_ p3 ∧ ri_ p4 ∧ w_J1_indexOfChar_4cfef_C  Q p2 p3 p4 M
set_option maxHeartbeats 4000000 in
set_option maxRecDepth 100000 in
theorem k_J1_indexOfChar_4cfef_C_b7 {l : Launch} {D : va_G} {cy : Nat → ClassId} {ad : Nat → Nat} {Q : Int → MM → Prop} {J : Nat → List (Nat × Value) → List Value → MM → Prop} (hin : jIn ad ksC.length)   (hJ : jOk l D vwCl (tyC cy) cy ad ftC ksC (XtC ad) Om RJ1 cJ1_indexOfChar_4cfef 6 1 ({ frames := 0, cells := 0, slots := 0, locals := 0 } : Room) Q J)  : ∀ (x3 x4 x5 : Int) (M : MM), ri_ x3 → ri_ x4 → ri_ x5 → w_J1_indexOfChar_4cfef_C_b7  Q  x3 x4 x5 M → J 7 [(0, .ref (ad 902)), (3, .int (Ii x3)), (4, .int (Ii x4)), (5, .int (Ii x5))] [] M := by
  have H9 : ∀ (n : Nat) (x3 x4 x5 : Int) (M : MM), ri_ x3 → ri_ x4 → ri_ x5 → jit (fun _ _ _ _ => False) (wb_J1_indexOfChar_4cfef_C_b7  Q ) n x3 x4 x5 M → J 7 [(0, .ref (ad 902)), (3, .int (Ii x3)), (4, .int (Ii x4)), (5, .int (Ii x5))] [] M := by
    intro n
    induction n with
    | zero => intro x3 x4 x5 M gx3 gx4 gx5 hF; exact False.elim hF
    | succ n ih =>
    intro x3 x4 x5 M gx3 gx4 gx5 hF
    have hF : wb_J1_indexOfChar_4cfef_C_b7  Q  (jit (fun _ _ _ _ => False) (wb_J1_indexOfChar_4cfef_C_b7  Q ) n) x3 x4 x5 M := hF
    unfold wb_J1_indexOfChar_4cfef_C_b7 at hF
    refine j_iload hJ dJ1_indexOfChar_4cfef_7 3 rfl ?_
    refine j_iload_n hJ dJ1_indexOfChar_4cfef_9 rfl 1 rfl ?_
    refine j_icmp_ge hJ 31 gx5 gx3 dJ1_indexOfChar_4cfef_10 (by decide) (fun z1 => ?_) (fun z1 => ?_)
    · have hF := hF.1 z1
      refine j_iconst hJ dJ1_indexOfChar_4cfef_31 ?_
      exact j_iret hJ rfl rk_m1 dJ1_indexOfChar_4cfef_32 hF
    · have hF := hF.2 z1
      refine j_aload_n hJ dJ1_indexOfChar_4cfef_13 rfl 0 rfl ?_
      refine j_iload hJ dJ1_indexOfChar_4cfef_14 3 rfl ?_
      refine j_tb hJ XtC_s4 gx5 hF.1 hF.2.1 dJ1_indexOfChar_4cfef_16 ?_
      have hF := hF.2.2
      refine j_iload hJ dJ1_indexOfChar_4cfef_17 2 rfl ?_
      refine j_icmp_ne hJ 25 (sgb_ri _) gx4 dJ1_indexOfChar_4cfef_19 (by decide) (fun z2 => ?_) (fun z2 => ?_)
      · have hF := hF.1 z2
        refine j_iinc (lv' := [(5, .int (Ii (x5 + 1))), (0, .ref (ad 902)), (3, .int (Ii x3)), (4, .int (Ii x4))]) (k := 3) hJ dJ1_indexOfChar_4cfef_25 rfl (by decide) rfl ?_
        have g3 := hF.1; have hF := hF.2
        refine j_goto hJ 7 dJ1_indexOfChar_4cfef_28 (by decide) ?_
        exact j_sub hJ [1, 2, 3, 0] rfl (ih x3 x4 (x5 + 1) _ gx3 gx4 g3 hF)
      · have hF := hF.2 z2
        refine j_iload hJ dJ1_indexOfChar_4cfef_22 3 rfl ?_
        exact j_iret hJ rfl gx5 dJ1_indexOfChar_4cfef_24 hF
  intro x3 x4 x5 M gx3 gx4 gx5 hF
  obtain ⟨n, hF⟩ := hF
  exact H9 n x3 x4 x5 M gx3 gx4 gx5 hF
set_option maxHeartbeats 4000000 in
set_option maxRecDepth 100000 in
theorem c_J1_indexOfChar_4cfef_C {l : Launch} {D : va_G} {cy : Nat → ClassId} {ad : Nat → Nat} (hin : jIn ad ksC.length) : jCN l D vwCl (tyC cy) cy ad ftC ksC (XtC ad) yJ1_indexOfChar_4cfef (.code yJ1_indexOfChar_4cfef cJ1_indexOfChar_4cfef 6 (some .int) :: Om) ({ frames := 0, cells := 0, slots := 0, locals := 0 } : Room) 1 (W_J1_indexOfChar_4cfef_C ad) := by
  refine jCN_of (y := yJ1_indexOfChar_4cfef) (cc := cJ1_indexOfChar_4cfef) (nL := 6) (rk := 1) (rm := ({ frames := 0, cells := 0, slots := 0, locals := 0 } : Room)) (own := RJ1) (tyC_ok cy) hin (XtC_ok ad) Om_good (by decide) rfl ?_
  intro Q av M hF
  obtain ⟨p2, p3, p4, rfl, gp2, gp3, gp4, hF⟩ := hF
  refine ⟨Nat.le_of_ble_eq_true rfl, fun J hJ => ?_⟩
  show J 0 [(0, .ref (ad 902)), (1, .int (Ii p2)), (2, .int (Ii p3)), (3, .int (Ii p4))] [] M
  unfold w_J1_indexOfChar_4cfef_C at hF
  refine j_iload_n hJ dJ1_indexOfChar_4cfef_0 rfl 1 rfl ?_
  refine j_i2b hJ dJ1_indexOfChar_4cfef_1 ?_
  refine j_istore (lv' := [(4, .int (Ii (ji2b p2))), (0, .ref (ad 902)), (1, .int (Ii p2)), (2, .int (Ii p3)), (3, .int (Ii p4))]) hJ dJ1_indexOfChar_4cfef_2 (by decide) rfl ?_
  refine j_iload_n hJ dJ1_indexOfChar_4cfef_4 rfl 3 rfl ?_
  refine j_istore (lv' := [(5, .int (Ii p3)), (4, .int (Ii (ji2b p2))), (0, .ref (ad 902)), (1, .int (Ii p2)), (2, .int (Ii p3)), (3, .int (Ii p4))]) hJ dJ1_indexOfChar_4cfef_5 (by decide) rfl ?_
  exact j_sub hJ [2, 5, 1, 0] rfl (k_J1_indexOfChar_4cfef_C_b7 hin  hJ  p4 (ji2b p2) p3 _ gp4 (ri_of _) gp3 hF)
def W_J1_indexOf_4cfef_C (ad : Nat → Nat) (Q : Int → MM → Prop) (av : List Value) (M : MM) : Prop := ∃ (p2 : Int) (p3 : Int) (p4 : Int), av = [.ref (ad 902), .int (Ii p2), .int (Ii p3), .int (Ii p4)] ∧ ri_ p2 ∧ ri_ p3 ∧ ri_ p4 ∧ w_J1_indexOf_4cfef_C  Q p2 p3 p4 M
set_option maxHeartbeats 4000000 in
set_option maxRecDepth 100000 in
theorem c_J1_indexOf_4cfef_C {l : Launch} {D : va_G} {cy : Nat → ClassId} {ad : Nat → Nat} (hin : jIn ad ksC.length) : jCN l D vwCl (tyC cy) cy ad ftC ksC (XtC ad) yJ1_indexOf_4cfef (.code yJ1_indexOf_4cfef cJ1_indexOf_4cfef 4 (some .int) :: Om) ({ frames := 1, cells := 0, slots := 0, locals := 40 } : Room) 1 (W_J1_indexOf_4cfef_C ad) := by
  refine jCN_of (y := yJ1_indexOf_4cfef) (cc := cJ1_indexOf_4cfef) (nL := 4) (rk := 1) (rm := ({ frames := 1, cells := 0, slots := 0, locals := 40 } : Room)) (own := RJ1) (tyC_ok cy) hin (XtC_ok ad) Om_good (by decide) rfl ?_
  intro Q av M hF
  obtain ⟨p2, p3, p4, rfl, gp2, gp3, gp4, hF⟩ := hF
  refine ⟨Nat.le_of_ble_eq_true rfl, fun J hJ => ?_⟩
  show J 0 [(0, .ref (ad 902)), (1, .int (Ii p2)), (2, .int (Ii p3)), (3, .int (Ii p4))] [] M
  unfold w_J1_indexOf_4cfef_C at hF
  refine j_iload_n hJ dJ1_indexOf_4cfef_0 rfl 1 rfl ?_
  refine j_callSz hJ (c_J1_canEncode_9a6ad_C (l := l) (D := D) (cy := cy) (ad := ad) hin) rfl om_551 ⟨rfl, rfl, Nat.le_of_ble_eq_true rfl, Nat.le_of_ble_eq_true rfl⟩ [.int (Ii p2)] mv_J1_88 hd_J1_canEncode_9a6ad rfl (Nat.le_of_ble_eq_true rfl) dJ1_indexOf_4cfef_1 ⟨p2, rfl, gp2, hF⟩ (fun r1 M2 gr1 qM2 => ?_)
  have hF := qM2 gr1
  refine j_if_ne hJ 9 (jz_ri gr1) dJ1_indexOf_4cfef_4 (by decide) (fun z3 => ?_) (fun z3 => ?_)
  · have hF := hF.1 z3
    refine j_iload_n hJ dJ1_indexOf_4cfef_9 rfl 2 rfl ?_
    refine j_iconst hJ dJ1_indexOf_4cfef_10 ?_
    refine j_mmax hJ gp3 rk_0 ⟨om_555, om_126, om_12, om_127⟩ ⟨Nat.le_of_ble_eq_true rfl, Nat.le_of_ble_eq_true rfl⟩ dJ1_indexOf_4cfef_11 ?_
    refine j_istore_n (lv' := [(2, .int (Ii (max p3 0))), (0, .ref (ad 902)), (1, .int (Ii p2)), (3, .int (Ii p4))]) hJ dJ1_indexOf_4cfef_14 rfl (by decide) rfl ?_
    refine j_iload_n hJ dJ1_indexOf_4cfef_15 rfl 3 rfl ?_
    refine j_aload_n hJ dJ1_indexOf_4cfef_16 rfl 1 rfl ?_
    refine j_tlen hJ XtC_s4 dJ1_indexOf_4cfef_17 ?_
    refine j_mmin hJ gp4 (by unfold ri_; omega) ⟨om_556, om_11, om_12, om_13⟩ ⟨Nat.le_of_ble_eq_true rfl, Nat.le_of_ble_eq_true rfl⟩ dJ1_indexOf_4cfef_18 ?_
    refine j_istore_n (lv' := [(3, .int (Ii (min p4 ((16 : Nat) : Int)))), (2, .int (Ii (max p3 0))), (0, .ref (ad 902)), (1, .int (Ii p2))]) hJ dJ1_indexOf_4cfef_21 rfl (by decide) rfl ?_
    refine j_iload_n hJ dJ1_indexOf_4cfef_22 rfl 1 rfl ?_
    refine j_iload_n hJ dJ1_indexOf_4cfef_23 rfl 0 rfl ?_
    refine j_icmp_lt hJ 29 (ri_max gp3 rk_0) (ri_min gp4 (by unfold ri_; omega)) dJ1_indexOf_4cfef_24 (by decide) (fun z4 => ?_) (fun z4 => ?_)
    · have hF := hF.1 z4
      refine j_aload_n hJ dJ1_indexOf_4cfef_29 rfl 2 rfl ?_
      refine j_iload_n hJ dJ1_indexOf_4cfef_30 rfl 3 rfl ?_
      refine j_iload_n hJ dJ1_indexOf_4cfef_31 rfl 1 rfl ?_
      refine j_iload_n hJ dJ1_indexOf_4cfef_32 rfl 0 rfl ?_
      refine j_callSi hJ (c_J1_indexOfChar_4cfef_C (l := l) (D := D) (cy := cy) (ad := ad) hin) rfl om_557 ⟨rfl, rfl, Nat.le_of_ble_eq_true rfl, Nat.le_of_ble_eq_true rfl⟩ [.ref (ad 902), .int (Ii p2), .int (Ii (max p3 0)), .int (Ii (min p4 ((16 : Nat) : Int)))] mv_J1_95 hd_J1_indexOfChar_4cfef rfl (Nat.le_of_ble_eq_true rfl) dJ1_indexOf_4cfef_33 ⟨p2, (max p3 0), (min p4 ((16 : Nat) : Int)), rfl, gp2, (ri_max gp3 rk_0), (ri_min gp4 (by unfold ri_; omega)), hF⟩ (fun r5 M6 gr5 qM6 => ?_)
      have hF := qM6 gr5
      exact j_iret hJ rfl gr5 dJ1_indexOf_4cfef_36 hF
    · have hF := hF.2 z4
      refine j_iconst hJ dJ1_indexOf_4cfef_27 ?_
      exact j_iret hJ rfl rk_m1 dJ1_indexOf_4cfef_28 hF
  · have hF := hF.2 z3
    refine j_iconst hJ dJ1_indexOf_4cfef_7 ?_
    exact j_iret hJ rfl rk_m1 dJ1_indexOf_4cfef_8 hF
def W_J0_indexOf_7cf53_C (ad : Nat → Nat) (Q : Int → MM → Prop) (av : List Value) (M : MM) : Prop := ∃ (p1 : Int) (p2 : Int), av = [.ref (ad 901), .int (Ii p1), .int (Ii p2)] ∧ ri_ p1 ∧ ri_ p2 ∧ w_J0_indexOf_7cf53_C  Q p1 p2 M
set_option maxHeartbeats 4000000 in
set_option maxRecDepth 100000 in
theorem c_J0_indexOf_7cf53_C {l : Launch} {D : va_G} {cy : Nat → ClassId} {ad : Nat → Nat} (hin : jIn ad ksC.length) : jCN l D vwCl (tyC cy) cy ad ftC ksC (XtC ad) yJ0_indexOf_7cf53 (.code yJ0_indexOf_7cf53 cJ0_indexOf_7cf53 3 (some .int) :: Om) ({ frames := 2, cells := 0, slots := 0, locals := 63 } : Room) 1 (W_J0_indexOf_7cf53_C ad) := by
  refine jCN_of (y := yJ0_indexOf_7cf53) (cc := cJ0_indexOf_7cf53) (nL := 3) (rk := 1) (rm := ({ frames := 2, cells := 0, slots := 0, locals := 63 } : Room)) (own := RJ0) (tyC_ok cy) hin (XtC_ok ad) Om_good (by decide) rfl ?_
  intro Q av M hF
  obtain ⟨p1, p2, rfl, gp1, gp2, hF⟩ := hF
  refine ⟨Nat.le_of_ble_eq_true rfl, fun J hJ => ?_⟩
  show J 0 [(0, .ref (ad 901)), (1, .int (Ii p1)), (2, .int (Ii p2))] [] M
  unfold w_J0_indexOf_7cf53_C at hF
  refine j_aload_n hJ dJ0_indexOf_7cf53_0 rfl 0 rfl ?_
  refine j_callTz hJ (c_J0_isLatin1_aae02_C (l := l) (D := D) (cy := cy) (ad := ad) hin) rfl om_537 ⟨rfl, rfl, Nat.le_of_ble_eq_true rfl, Nat.le_of_ble_eq_true rfl⟩ [] mv_J0_492 hd_J0_isLatin1_aae02v XtC_s0 rfl (Nat.le_of_ble_eq_true rfl) dJ0_indexOf_7cf53_1 ⟨rfl, hF⟩ (fun r1 M2 gr1 qM2 => ?_)
  have hF := qM2 gr1
  refine j_if_eq hJ 23 (jz_ri gr1) dJ0_indexOf_7cf53_4 (by decide) (fun z3 => ?_) (fun z3 => ?_)
  · have hF := hF.1 z3
    refine j_aload_n hJ dJ0_indexOf_7cf53_23 rfl 0 rfl ?_
    refine j_gsf hJ XtC_s3 om_542 dJ0_indexOf_7cf53_24 ?_
    refine j_iload_n hJ dJ0_indexOf_7cf53_27 rfl 1 rfl ?_
    refine j_iload_n hJ dJ0_indexOf_7cf53_28 rfl 2 rfl ?_
    refine j_aload_n hJ dJ0_indexOf_7cf53_29 rfl 0 rfl ?_
    refine j_callTi hJ (c_J0_length_8abf5_C (l := l) (D := D) (cy := cy) (ad := ad) hin) rfl om_547 ⟨rfl, rfl, Nat.le_of_ble_eq_true rfl, Nat.le_of_ble_eq_true rfl⟩ [] mv_J0_505 hd_J0_length_8abf5v XtC_s0 rfl (Nat.le_of_ble_eq_true rfl) dJ0_indexOf_7cf53_30 ⟨rfl, hF⟩ (fun r4 M5 gr4 qM5 => ?_)
    have hF := qM5 gr4
    exact False.elim hF
  · have hF := hF.2 z3
    refine j_aload_n hJ dJ0_indexOf_7cf53_7 rfl 0 rfl ?_
    refine j_gsf hJ XtC_s3 om_542 dJ0_indexOf_7cf53_8 ?_
    refine j_iload_n hJ dJ0_indexOf_7cf53_11 rfl 1 rfl ?_
    refine j_iload_n hJ dJ0_indexOf_7cf53_12 rfl 2 rfl ?_
    refine j_aload_n hJ dJ0_indexOf_7cf53_13 rfl 0 rfl ?_
    refine j_callTi hJ (c_J0_length_8abf5_C (l := l) (D := D) (cy := cy) (ad := ad) hin) rfl om_547 ⟨rfl, rfl, Nat.le_of_ble_eq_true rfl, Nat.le_of_ble_eq_true rfl⟩ [] mv_J0_505 hd_J0_length_8abf5v XtC_s0 rfl (Nat.le_of_ble_eq_true rfl) dJ0_indexOf_7cf53_14 ⟨rfl, hF⟩ (fun r6 M7 gr6 qM7 => ?_)
    have hF := qM7 gr6
    refine j_callSi hJ (c_J1_indexOf_4cfef_C (l := l) (D := D) (cy := cy) (ad := ad) hin) rfl om_560 ⟨rfl, rfl, Nat.le_of_ble_eq_true rfl, Nat.le_of_ble_eq_true rfl⟩ [.ref (ad 902), .int (Ii p1), .int (Ii p2), .int (Ii r6)] mv_J0_637 hd_J1_indexOf_4cfef rfl (Nat.le_of_ble_eq_true rfl) dJ0_indexOf_7cf53_17 ⟨p1, p2, r6, rfl, gp1, gp2, gr6, hF⟩ (fun r8 M9 gr8 qM9 => ?_)
    have hF := qM9 gr8
    refine j_goto hJ 36 dJ0_indexOf_7cf53_20 (by decide) ?_
    exact j_iret hJ rfl gr8 dJ0_indexOf_7cf53_36 hF
def W_J0_indexOf_0f7a4_C (ad : Nat → Nat) (Q : Int → MM → Prop) (av : List Value) (M : MM) : Prop := ∃ (p1 : Int), av = [.ref (ad 901), .int (Ii p1)] ∧ ri_ p1 ∧ w_J0_indexOf_0f7a4_C  Q p1 M
set_option maxHeartbeats 4000000 in
set_option maxRecDepth 100000 in
theorem c_J0_indexOf_0f7a4_C {l : Launch} {D : va_G} {cy : Nat → ClassId} {ad : Nat → Nat} (hin : jIn ad ksC.length) : jCN l D vwCl (tyC cy) cy ad ftC ksC (XtC ad) yJ0_indexOf_0f7a4 (.code yJ0_indexOf_0f7a4 cJ0_indexOf_0f7a4 2 (some .int) :: Om) ({ frames := 3, cells := 0, slots := 0, locals := 85 } : Room) 1 (W_J0_indexOf_0f7a4_C ad) := by
  refine jCN_of (y := yJ0_indexOf_0f7a4) (cc := cJ0_indexOf_0f7a4) (nL := 2) (rk := 1) (rm := ({ frames := 3, cells := 0, slots := 0, locals := 85 } : Room)) (own := RJ0) (tyC_ok cy) hin (XtC_ok ad) Om_good (by decide) rfl ?_
  intro Q av M hF
  obtain ⟨p1, rfl, gp1, hF⟩ := hF
  refine ⟨Nat.le_of_ble_eq_true rfl, fun J hJ => ?_⟩
  show J 0 [(0, .ref (ad 901)), (1, .int (Ii p1))] [] M
  unfold w_J0_indexOf_0f7a4_C at hF
  refine j_aload_n hJ dJ0_indexOf_0f7a4_0 rfl 0 rfl ?_
  refine j_iload_n hJ dJ0_indexOf_0f7a4_1 rfl 1 rfl ?_
  refine j_iconst hJ dJ0_indexOf_0f7a4_2 ?_
  refine j_callTi hJ (c_J0_indexOf_7cf53_C (l := l) (D := D) (cy := cy) (ad := ad) hin) rfl om_563 ⟨rfl, rfl, Nat.le_of_ble_eq_true rfl, Nat.le_of_ble_eq_true rfl⟩ [.int (Ii p1), .int (Ii 0)] mv_J0_633 hd_J0_indexOf_7cf53v XtC_s0 rfl (Nat.le_of_ble_eq_true rfl) dJ0_indexOf_0f7a4_3 ⟨p1, 0, rfl, gp1, rk_0, hF⟩ (fun r1 M2 gr1 qM2 => ?_)
  have hF := qM2 gr1
  exact j_iret hJ rfl gr1 dJ0_indexOf_0f7a4_6 hF
def W_X9_scanSign (ad : Nat → Nat) (Q : Int → MM → Prop) (av : List Value) (M : MM) : Prop := av = [.ref (ad 1)] ∧ w_X9_scanSign  Q  M
set_option maxHeartbeats 4000000 in
set_option maxRecDepth 100000 in
theorem k_X9_scanSign_b115 {l : Launch} {D : va_G} {cy : Nat → ClassId} {ad : Nat → Nat} {Q : Int → MM → Prop} {J : Nat → List (Nat × Value) → List Value → MM → Prop} (hin : jIn ad ksC.length)   (hJ : jOk l D vwCl (tyC cy) cy ad ftC ksC (XtC ad) Om RX9 cX9_scanSign 3 0 ({ frames := 4, cells := 0, slots := 0, locals := 106 } : Room) Q J)  : ∀ (M : MM), w_X9_scanSign_b115  Q   M → J 115 [(0, .ref (ad 1))] [] M := by
  intro  M  hF
  unfold w_X9_scanSign_b115 at hF
  refine j_aload_n hJ dX9_scanSign_115 rfl 0 rfl ?_
  refine j_dup hJ dX9_scanSign_116 rfl ?_
  refine j_gi hJ kC_1 fC_12_4 rfl fl_X9_69 dX9_scanSign_117 (fun v1 ev1 gv1 => ?_)
  have hF := hF v1 ev1 gv1
  refine j_iconst hJ dX9_scanSign_120 ?_
  refine j_iadd hJ dX9_scanSign_121 ?_
  have g2 := hF.1; have hF := hF.2
  refine j_pi hJ g2 kC_1 fC_12_4 rfl fp_X9_69 dX9_scanSign_122 (fun M3 eM3 => ?_)
  have hF := hF M3 eM3
  exact j_vret hJ rfl dX9_scanSign_125 hF
set_option maxHeartbeats 4000000 in
set_option maxRecDepth 100000 in
theorem k_X9_scanSign_b40 {l : Launch} {D : va_G} {cy : Nat → ClassId} {ad : Nat → Nat} {Q : Int → MM → Prop} {J : Nat → List (Nat × Value) → List Value → MM → Prop} (hin : jIn ad ksC.length)   (hJ : jOk l D vwCl (tyC cy) cy ad ftC ksC (XtC ad) Om RX9 cX9_scanSign 3 0 ({ frames := 4, cells := 0, slots := 0, locals := 106 } : Room) Q J)  : ∀ (x1 s0 : Int) (M : MM), ri_ x1 → ri_ s0 → w_X9_scanSign_b40  Q  x1 s0 M → J 40 [(0, .ref (ad 1)), (1, .int (Ii x1))] [.int (Ii s0), .ref (ad 1)] M := by
  intro x1 s0 M gx1 gs0 hF
  unfold w_X9_scanSign_b40 at hF
  refine j_pi hJ gs0 kC_1 fC_12_9 rfl fp_X9_75 dX9_scanSign_40 (fun M1 eM1 => ?_)
  have hF := hF M1 eM1
  refine j_aload_n hJ dX9_scanSign_43 rfl 0 rfl ?_
  refine j_gi hJ kC_1 fC_12_4 rfl fl_X9_69 dX9_scanSign_44 (fun v2 ev2 gv2 => ?_)
  have hF := hF v2 ev2 gv2
  refine j_aload_n hJ dX9_scanSign_47 rfl 0 rfl ?_
  refine j_gi hJ kC_1 fC_12_1 rfl fl_X9_49 dX9_scanSign_48 (fun v3 ev3 gv3 => ?_)
  have hF := hF v3 ev3 gv3
  refine j_icmp_ge hJ 68 gv2 gv3 dX9_scanSign_51 (by decide) (fun z4 => ?_) (fun z4 => ?_)
  · have hF := hF.1 z4
    exact j_vret hJ rfl dX9_scanSign_68 hF
  · have hF := hF.2 z4
    refine j_aload_n hJ dX9_scanSign_54 rfl 0 rfl ?_
    refine j_gr (e := 2) hJ kC_1 fC_12_0 fl_X9_11 dX9_scanSign_55 rfl ?_
    refine j_aload_n hJ dX9_scanSign_58 rfl 0 rfl ?_
    refine j_gi hJ kC_1 fC_12_4 rfl fl_X9_69 dX9_scanSign_59 (fun v5 ev5 gv5 => ?_)
    have hF := hF v5 ev5 gv5
    refine j_iald hJ gv5 kC_2 hF.1 hF.2.1 dX9_scanSign_62 (fun v6 ev6 gv6 => ?_)
    have hF := hF.2.2 v6 ev6 gv6
    refine j_bipush hJ dX9_scanSign_63 (by decide) ?_
    refine j_icmp_eq hJ 69 gv6 rk_61 dX9_scanSign_65 (by decide) (fun z7 => ?_) (fun z7 => ?_)
    · have hF := hF.1 z7
      refine j_iload_n hJ dX9_scanSign_69 rfl 1 rfl ?_
      refine j_bipush hJ dX9_scanSign_70 (by decide) ?_
      refine j_icmp_ne hJ 84 gx1 rk_33 dX9_scanSign_72 (by decide) (fun z8 => ?_) (fun z8 => ?_)
      · have hF := hF.1 z8
        refine j_iload_n hJ dX9_scanSign_84 rfl 1 rfl ?_
        refine j_bipush hJ dX9_scanSign_85 (by decide) ?_
        refine j_icmp_ne hJ 99 gx1 rk_60 dX9_scanSign_87 (by decide) (fun z9 => ?_) (fun z9 => ?_)
        · have hF := hF.1 z9
          refine j_iload_n hJ dX9_scanSign_99 rfl 1 rfl ?_
          refine j_bipush hJ dX9_scanSign_100 (by decide) ?_
          refine j_icmp_ne hJ 114 gx1 rk_62 dX9_scanSign_102 (by decide) (fun z10 => ?_) (fun z10 => ?_)
          · have hF := hF.1 z10
            exact j_vret hJ rfl dX9_scanSign_114 hF
          · have hF := hF.2 z10
            refine j_aload_n hJ dX9_scanSign_105 rfl 0 rfl ?_
            refine j_bipush hJ dX9_scanSign_106 (by decide) ?_
            refine j_pi hJ rk_22 kC_1 fC_12_9 rfl fp_X9_75 dX9_scanSign_108 (fun M11 eM11 => ?_)
            have hF := hF M11 eM11
            refine j_goto hJ 115 dX9_scanSign_111 (by decide) ?_
            exact j_sub hJ [0] rfl (k_X9_scanSign_b115 hin  hJ   _  hF)
        · have hF := hF.2 z9
          refine j_aload_n hJ dX9_scanSign_90 rfl 0 rfl ?_
          refine j_bipush hJ dX9_scanSign_91 (by decide) ?_
          refine j_pi hJ rk_21 kC_1 fC_12_9 rfl fp_X9_75 dX9_scanSign_93 (fun M12 eM12 => ?_)
          have hF := hF M12 eM12
          refine j_goto hJ 115 dX9_scanSign_96 (by decide) ?_
          exact j_sub hJ [0] rfl (k_X9_scanSign_b115 hin  hJ   _  hF)
      · have hF := hF.2 z8
        refine j_aload_n hJ dX9_scanSign_75 rfl 0 rfl ?_
        refine j_bipush hJ dX9_scanSign_76 (by decide) ?_
        refine j_pi hJ rk_20 kC_1 fC_12_9 rfl fp_X9_75 dX9_scanSign_78 (fun M13 eM13 => ?_)
        have hF := hF M13 eM13
        refine j_goto hJ 115 dX9_scanSign_81 (by decide) ?_
        exact j_sub hJ [0] rfl (k_X9_scanSign_b115 hin  hJ   _  hF)
    · have hF := hF.2 z7
      exact j_vret hJ rfl dX9_scanSign_68 hF
set_option maxHeartbeats 4000000 in
set_option maxRecDepth 100000 in
theorem c_X9_scanSign {l : Launch} {D : va_G} {cy : Nat → ClassId} {ad : Nat → Nat} (hin : jIn ad ksC.length) : jCN l D vwCl (tyC cy) cy ad ftC ksC (XtC ad) yX9_scanSign (.code yX9_scanSign cX9_scanSign 3 none :: Om) ({ frames := 4, cells := 0, slots := 0, locals := 106 } : Room) 0 (W_X9_scanSign ad) := by
  refine jCN_of (y := yX9_scanSign) (cc := cX9_scanSign) (nL := 3) (rk := 0) (rm := ({ frames := 4, cells := 0, slots := 0, locals := 106 } : Room)) (own := RX9) (tyC_ok cy) hin (XtC_ok ad) Om_good (by decide) rfl ?_
  intro Q av M hF
  obtain ⟨rfl, hF⟩ := hF
  refine ⟨Nat.le_of_ble_eq_true rfl, fun J hJ => ?_⟩
  show J 0 [(0, .ref (ad 1))] [] M
  unfold w_X9_scanSign at hF
  refine j_aload_n hJ dX9_scanSign_0 rfl 0 rfl ?_
  refine j_gr (e := 2) hJ kC_1 fC_12_0 fl_X9_11 dX9_scanSign_1 rfl ?_
  refine j_aload_n hJ dX9_scanSign_4 rfl 0 rfl ?_
  refine j_gi hJ kC_1 fC_12_4 rfl fl_X9_69 dX9_scanSign_5 (fun v1 ev1 gv1 => ?_)
  have hF := hF v1 ev1 gv1
  refine j_iald hJ gv1 kC_2 hF.1 hF.2.1 dX9_scanSign_8 (fun v2 ev2 gv2 => ?_)
  have hF := hF.2.2 v2 ev2 gv2
  refine j_istore_n (lv' := [(1, .int (Ii v2)), (0, .ref (ad 1))]) hJ dX9_scanSign_9 rfl (by decide) rfl ?_
  refine j_aload_n hJ dX9_scanSign_10 rfl 1 rfl ?_
  refine j_dup hJ dX9_scanSign_11 rfl ?_
  refine j_gi hJ kC_1 fC_12_4 rfl fl_X9_69 dX9_scanSign_12 (fun v3 ev3 gv3 => ?_)
  have hF := hF v3 ev3 gv3
  refine j_iconst hJ dX9_scanSign_15 ?_
  refine j_iadd hJ dX9_scanSign_16 ?_
  have g4 := hF.1; have hF := hF.2
  refine j_pi hJ g4 kC_1 fC_12_4 rfl fp_X9_69 dX9_scanSign_17 (fun M5 eM5 => ?_)
  have hF := hF M5 eM5
  refine j_ldcS hJ XtC_s1 dX9_scanSign_20 ?_
  refine j_iload_n hJ dX9_scanSign_22 rfl 0 rfl ?_
  refine j_i2c hJ dX9_scanSign_23 ?_
  refine j_callTi hJ (c_J0_indexOf_0f7a4_C (l := l) (D := D) (cy := cy) (ad := ad) hin) rfl om_567 ⟨rfl, rfl, Nat.le_of_ble_eq_true rfl, Nat.le_of_ble_eq_true rfl⟩ [.int (Ii (ji2c v2))] mv_X9_113 hd_J0_indexOf_0f7a4v XtC_s0 rfl (Nat.le_of_ble_eq_true rfl) dX9_scanSign_24 ⟨(ji2c v2), rfl, (ri_of _), hF⟩ (fun r6 M7 gr6 qM7 => ?_)
  have hF := qM7 gr6
  refine j_istore_n (lv' := [(2, .int (Ii r6)), (1, .int (Ii v2)), (0, .ref (ad 1))]) hJ dX9_scanSign_27 rfl (by decide) rfl ?_
  refine j_aload_n hJ dX9_scanSign_28 rfl 2 rfl ?_
  refine j_iload_n hJ dX9_scanSign_29 rfl 0 rfl ?_
  refine j_if_ge hJ 37 gr6 dX9_scanSign_30 (by decide) (fun z8 => ?_) (fun z8 => ?_)
  · have hF := hF.1 z8
    refine j_iconst hJ dX9_scanSign_37 ?_
    refine j_iload_n hJ dX9_scanSign_38 rfl 0 rfl ?_
    refine j_iadd hJ dX9_scanSign_39 ?_
    have g9 := hF.1; have hF := hF.2
    exact j_sub hJ [2, 1] rfl (k_X9_scanSign_b40 hin  hJ  v2 (4 + r6) _ gv2 g9 hF)
  · have hF := hF.2 z8
    refine j_iconst hJ dX9_scanSign_33 ?_
    refine j_goto hJ 40 dX9_scanSign_34 (by decide) ?_
    exact j_sub hJ [2, 1] rfl (k_X9_scanSign_b40 hin  hJ  v2 1 _ gv2 rk_1 hF)
def W_X9_keywordOf (ad : Nat → Nat) (Q : Int → MM → Prop) (av : List Value) (M : MM) : Prop := ∃ (p1 : Int), av = [.ref (ad 1), .long (Ll p1)] ∧ rl_ p1 ∧ w_X9_keywordOf  Q p1 M
set_option maxHeartbeats 4000000 in
set_option maxRecDepth 100000 in
theorem k_X9_keywordOf_b2 {l : Launch} {D : va_G} {cy : Nat → ClassId} {ad : Nat → Nat} {Q : Int → MM → Prop} {J : Nat → List (Nat × Value) → List Value → MM → Prop} (hin : jIn ad ksC.length)   (hJ : jOk l D vwCl (tyC cy) cy ad ftC ksC (XtC ad) Om RX9 cX9_keywordOf 4 1 ({ frames := 0, cells := 0, slots := 0, locals := 0 } : Room) Q J)  : ∀ (x1 x3 : Int) (M : MM), rl_ x1 → ri_ x3 → w_X9_keywordOf_b2  Q  x1 x3 M → J 2 [(0, .ref (ad 1)), (1, .long (Ll x1)), (3, .int (Ii x3))] [] M := by
  have H9 : ∀ (n : Nat) (x1 x3 : Int) (M : MM), rl_ x1 → ri_ x3 → jit (fun _ _ _ => False) (wb_X9_keywordOf_b2  Q ) n x1 x3 M → J 2 [(0, .ref (ad 1)), (1, .long (Ll x1)), (3, .int (Ii x3))] [] M := by
    intro n
    induction n with
    | zero => intro x1 x3 M gx1 gx3 hF; exact False.elim hF
    | succ n ih =>
    intro x1 x3 M gx1 gx3 hF
    have hF : wb_X9_keywordOf_b2  Q  (jit (fun _ _ _ => False) (wb_X9_keywordOf_b2  Q ) n) x1 x3 M := hF
    unfold wb_X9_keywordOf_b2 at hF
    refine j_iload_n hJ dX9_keywordOf_2 rfl 2 rfl ?_
    refine j_bipush hJ dX9_keywordOf_3 (by decide) ?_
    refine j_icmp_ge hJ 30 gx3 rk_29 dX9_keywordOf_5 (by decide) (fun z1 => ?_) (fun z1 => ?_)
    · have hF := hF.1 z1
      refine j_iconst hJ dX9_keywordOf_30 ?_
      exact j_iret hJ rfl rk_m1 dX9_keywordOf_31 hF
    · have hF := hF.2 z1
      refine j_aload_n hJ dX9_keywordOf_8 rfl 0 rfl ?_
      refine j_gr (e := 7) hJ kC_1 fC_12_3 fl_X9_28 dX9_keywordOf_9 rfl ?_
      refine j_iload_n hJ dX9_keywordOf_12 rfl 2 rfl ?_
      refine j_lald hJ gx3 kC_7 hF.1 hF.2.1 dX9_keywordOf_13 (fun v2 ev2 gv2 => ?_)
      have hF := hF.2.2 v2 ev2 gv2
      refine j_lload_n hJ dX9_keywordOf_14 rfl 1 rfl ?_
      refine j_lcmp_ne hJ 24 gv2 gx1 dX9_keywordOf_15 dX9_keywordOf_16 (by decide) (fun z3 => ?_) (fun z3 => ?_)
      · have hF := hF.1 z3
        refine j_iinc (lv' := [(3, .int (Ii (x3 + 1))), (0, .ref (ad 1)), (1, .long (Ll x1))]) (k := 2) hJ dX9_keywordOf_24 rfl (by decide) rfl ?_
        have g4 := hF.1; have hF := hF.2
        refine j_goto hJ 2 dX9_keywordOf_27 (by decide) ?_
        exact j_sub hJ [1, 2, 0] rfl (ih x1 (x3 + 1) _ gx1 g4 hF)
      · have hF := hF.2 z3
        refine j_bipush hJ dX9_keywordOf_19 (by decide) ?_
        refine j_iload_n hJ dX9_keywordOf_21 rfl 2 rfl ?_
        refine j_iadd hJ dX9_keywordOf_22 ?_
        have g5 := hF.1; have hF := hF.2
        exact j_iret hJ rfl g5 dX9_keywordOf_23 hF
  intro x1 x3 M gx1 gx3 hF
  obtain ⟨n, hF⟩ := hF
  exact H9 n x1 x3 M gx1 gx3 hF
set_option maxHeartbeats 4000000 in
set_option maxRecDepth 100000 in
theorem c_X9_keywordOf {l : Launch} {D : va_G} {cy : Nat → ClassId} {ad : Nat → Nat} (hin : jIn ad ksC.length) : jCN l D vwCl (tyC cy) cy ad ftC ksC (XtC ad) yX9_keywordOf (.code yX9_keywordOf cX9_keywordOf 4 (some .int) :: Om) ({ frames := 0, cells := 0, slots := 0, locals := 0 } : Room) 1 (W_X9_keywordOf ad) := by
  refine jCN_of (y := yX9_keywordOf) (cc := cX9_keywordOf) (nL := 4) (rk := 1) (rm := ({ frames := 0, cells := 0, slots := 0, locals := 0 } : Room)) (own := RX9) (tyC_ok cy) hin (XtC_ok ad) Om_good (by decide) rfl ?_
  intro Q av M hF
  obtain ⟨p1, rfl, gp1, hF⟩ := hF
  refine ⟨Nat.le_of_ble_eq_true rfl, fun J hJ => ?_⟩
  show J 0 [(0, .ref (ad 1)), (1, .long (Ll p1))] [] M
  unfold w_X9_keywordOf at hF
  refine j_iconst hJ dX9_keywordOf_0 ?_
  refine j_istore_n (lv' := [(3, .int (Ii 0)), (0, .ref (ad 1)), (1, .long (Ll p1))]) hJ dX9_keywordOf_1 rfl (by decide) rfl ?_
  exact j_sub hJ [1, 2, 0] rfl (k_X9_keywordOf_b2 hin  hJ  p1 0 _ gp1 rk_0 hF)
def W_X9_scanName (ad : Nat → Nat) (Q : Int → MM → Prop) (av : List Value) (M : MM) : Prop := av = [.ref (ad 1)] ∧ w_X9_scanName  Q  M
set_option maxHeartbeats 4000000 in
set_option maxRecDepth 100000 in
theorem k_X9_scanName_b105 {l : Launch} {D : va_G} {cy : Nat → ClassId} {ad : Nat → Nat} {Q : Int → MM → Prop} {J : Nat → List (Nat × Value) → List Value → MM → Prop} (hin : jIn ad ksC.length)   (hJ : jOk l D vwCl (tyC cy) cy ad ftC ksC (XtC ad) Om RX9 cX9_scanName 2 0 ({ frames := 2, cells := 0, slots := 0, locals := 40 } : Room) Q J)  : ∀ (s0 : Int) (M : MM), ri_ s0 → w_X9_scanName_b105  Q  s0 M → J 105 [] [.int (Ii s0), .ref (ad 1)] M := by
  intro s0 M gs0 hF
  unfold w_X9_scanName_b105 at hF
  refine j_pi hJ gs0 kC_1 fC_12_9 rfl fp_X9_75 dX9_scanName_105 (fun M1 eM1 => ?_)
  have hF := hF M1 eM1
  exact j_vret hJ rfl dX9_scanName_108 hF
set_option maxHeartbeats 4000000 in
set_option maxRecDepth 100000 in
theorem k_X9_scanName_b65 {l : Launch} {D : va_G} {cy : Nat → ClassId} {ad : Nat → Nat} {Q : Int → MM → Prop} {J : Nat → List (Nat × Value) → List Value → MM → Prop} (hin : jIn ad ksC.length)   (hJ : jOk l D vwCl (tyC cy) cy ad ftC ksC (XtC ad) Om RX9 cX9_scanName 2 0 ({ frames := 2, cells := 0, slots := 0, locals := 40 } : Room) Q J)  : ∀ (M : MM), w_X9_scanName_b65  Q   M → J 65 [(0, .ref (ad 1))] [] M := by
  intro  M  hF
  unfold w_X9_scanName_b65 at hF
  refine j_aload_n hJ dX9_scanName_65 rfl 0 rfl ?_
  refine j_gi hJ kC_1 fC_12_4 rfl fl_X9_69 dX9_scanName_66 (fun v1 ev1 gv1 => ?_)
  have hF := hF v1 ev1 gv1
  refine j_aload_n hJ dX9_scanName_69 rfl 0 rfl ?_
  refine j_gi hJ kC_1 fC_12_10 rfl fl_X9_78 dX9_scanName_70 (fun v2 ev2 gv2 => ?_)
  have hF := hF v2 ev2 gv2
  refine j_isub hJ dX9_scanName_73 ?_
  have g3 := hF.1; have hF := hF.2
  refine j_bipush hJ dX9_scanName_74 (by decide) ?_
  refine j_icmp_le hJ 85 g3 rk_10 dX9_scanName_76 (by decide) (fun z4 => ?_) (fun z4 => ?_)
  · have hF := hF.1 z4
    refine j_aload_n hJ dX9_scanName_85 rfl 0 rfl ?_
    refine j_aload_n hJ dX9_scanName_86 rfl 0 rfl ?_
    refine j_gl hJ kC_1 fC_12_11 rfl fl_X9_81 dX9_scanName_87 (fun v5 ev5 gv5 => ?_)
    have hF := hF v5 ev5 gv5
    refine j_callVi hJ (c_X9_keywordOf (l := l) (D := D) (cy := cy) (ad := ad) hin) rfl om_575 ⟨rfl, rfl, Nat.le_of_ble_eq_true rfl, Nat.le_of_ble_eq_true rfl⟩ [.long (Ll v5)] mv_X9_107 hd_X9_keywordOfv kC_1 rfl rfl rfl (Nat.le_of_ble_eq_true rfl) dX9_scanName_90 ⟨v5, rfl, gv5, hF⟩ (fun r6 M7 gr6 qM7 => ?_)
    have hF := qM7 gr6
    refine j_istore_n (lv' := [(1, .int (Ii r6)), (0, .ref (ad 1))]) hJ dX9_scanName_93 rfl (by decide) rfl ?_
    refine j_aload_n hJ dX9_scanName_94 rfl 1 rfl ?_
    refine j_iload_n hJ dX9_scanName_95 rfl 0 rfl ?_
    refine j_iconst hJ dX9_scanName_96 ?_
    refine j_icmp_ne hJ 104 gr6 rk_m1 dX9_scanName_97 (by decide) (fun z8 => ?_) (fun z8 => ?_)
    · have hF := hF.1 z8
      refine j_iload_n hJ dX9_scanName_104 rfl 0 rfl ?_
      exact j_sub hJ [] rfl (k_X9_scanName_b105 hin  hJ  r6 _ gr6 hF)
    · have hF := hF.2 z8
      refine j_iconst hJ dX9_scanName_100 ?_
      refine j_goto hJ 105 dX9_scanName_101 (by decide) ?_
      exact j_sub hJ [] rfl (k_X9_scanName_b105 hin  hJ  2 _ rk_2 hF)
  · have hF := hF.2 z4
    refine j_aload_n hJ dX9_scanName_79 rfl 0 rfl ?_
    refine j_iconst hJ dX9_scanName_80 ?_
    refine j_pi hJ rk_1 kC_1 fC_12_9 rfl fp_X9_75 dX9_scanName_81 (fun M9 eM9 => ?_)
    have hF := hF M9 eM9
    exact j_vret hJ rfl dX9_scanName_84 hF
set_option maxHeartbeats 4000000 in
set_option maxRecDepth 100000 in
theorem k_X9_scanName_b0 {l : Launch} {D : va_G} {cy : Nat → ClassId} {ad : Nat → Nat} {Q : Int → MM → Prop} {J : Nat → List (Nat × Value) → List Value → MM → Prop} (hin : jIn ad ksC.length)   (hJ : jOk l D vwCl (tyC cy) cy ad ftC ksC (XtC ad) Om RX9 cX9_scanName 2 0 ({ frames := 2, cells := 0, slots := 0, locals := 40 } : Room) Q J)  : ∀ (M : MM), w_X9_scanName_b0  Q   M → J 0 [(0, .ref (ad 1))] [] M := by
  have H9 : ∀ (n : Nat) (M : MM), jit (fun _ => False) (wb_X9_scanName_b0  Q ) n  M → J 0 [(0, .ref (ad 1))] [] M := by
    intro n
    induction n with
    | zero => intro  M  hF; exact False.elim hF
    | succ n ih =>
    intro  M  hF
    have hF : wb_X9_scanName_b0  Q  (jit (fun _ => False) (wb_X9_scanName_b0  Q ) n)  M := hF
    unfold wb_X9_scanName_b0 at hF
    refine j_aload_n hJ dX9_scanName_0 rfl 0 rfl ?_
    refine j_gi hJ kC_1 fC_12_4 rfl fl_X9_69 dX9_scanName_1 (fun v1 ev1 gv1 => ?_)
    have hF := hF v1 ev1 gv1
    refine j_aload_n hJ dX9_scanName_4 rfl 0 rfl ?_
    refine j_gi hJ kC_1 fC_12_1 rfl fl_X9_49 dX9_scanName_5 (fun v2 ev2 gv2 => ?_)
    have hF := hF v2 ev2 gv2
    refine j_icmp_ge hJ 65 gv1 gv2 dX9_scanName_8 (by decide) (fun z3 => ?_) (fun z3 => ?_)
    · have hF := hF.1 z3
      exact j_sub hJ [0] rfl (k_X9_scanName_b65 hin  hJ   _  hF)
    · have hF := hF.2 z3
      refine j_aload_n hJ dX9_scanName_11 rfl 0 rfl ?_
      refine j_gr (e := 2) hJ kC_1 fC_12_0 fl_X9_11 dX9_scanName_12 rfl ?_
      refine j_aload_n hJ dX9_scanName_15 rfl 0 rfl ?_
      refine j_gi hJ kC_1 fC_12_4 rfl fl_X9_69 dX9_scanName_16 (fun v4 ev4 gv4 => ?_)
      have hF := hF v4 ev4 gv4
      refine j_iald hJ gv4 kC_2 hF.1 hF.2.1 dX9_scanName_19 (fun v5 ev5 gv5 => ?_)
      have hF := hF.2.2 v5 ev5 gv5
      refine j_callSi hJ (c_X9_symbolOf (l := l) (D := D) (cy := cy) (ad := ad) hin) rfl om_532 ⟨rfl, rfl, Nat.le_of_ble_eq_true rfl, Nat.le_of_ble_eq_true rfl⟩ [.int (Ii v5)] mv_X9_45 hd_X9_symbolOf rfl (Nat.le_of_ble_eq_true rfl) dX9_scanName_20 ⟨v5, rfl, gv5, hF⟩ (fun r6 M7 gr6 qM7 => ?_)
      have hF := qM7 gr6
      refine j_if_le hJ 65 gr6 dX9_scanName_23 (by decide) (fun z8 => ?_) (fun z8 => ?_)
      · have hF := hF.1 z8
        exact j_sub hJ [0] rfl (k_X9_scanName_b65 hin  hJ   _  hF)
      · have hF := hF.2 z8
        refine j_aload_n hJ dX9_scanName_26 rfl 0 rfl ?_
        refine j_aload_n hJ dX9_scanName_27 rfl 0 rfl ?_
        refine j_gl hJ kC_1 fC_12_11 rfl fl_X9_81 dX9_scanName_28 (fun v9 ev9 gv9 => ?_)
        have hF := hF v9 ev9 gv9
        refine j_ldc2 hJ 64 om_579 (by decide) dX9_scanName_31 ?_
        refine j_lmulw hJ dX9_scanName_34 ?_
        refine j_aload_n hJ dX9_scanName_35 rfl 0 rfl ?_
        refine j_gr (e := 2) hJ kC_1 fC_12_0 fl_X9_11 dX9_scanName_36 rfl ?_
        refine j_aload_n hJ dX9_scanName_39 rfl 0 rfl ?_
        refine j_gi hJ kC_1 fC_12_4 rfl fl_X9_69 dX9_scanName_40 (fun v10 ev10 gv10 => ?_)
        have hF := hF v10 ev10 gv10
        refine j_iald hJ gv10 kC_2 hF.1 hF.2.1 dX9_scanName_43 (fun v11 ev11 gv11 => ?_)
        have hF := hF.2.2 v11 ev11 gv11
        refine j_callSi hJ (c_X9_symbolOf (l := l) (D := D) (cy := cy) (ad := ad) hin) rfl om_532 ⟨rfl, rfl, Nat.le_of_ble_eq_true rfl, Nat.le_of_ble_eq_true rfl⟩ [.int (Ii v11)] mv_X9_45 hd_X9_symbolOf rfl (Nat.le_of_ble_eq_true rfl) dX9_scanName_44 ⟨v11, rfl, gv11, hF⟩ (fun r12 M13 gr12 qM13 => ?_)
        have hF := qM13 gr12
        refine j_i2l hJ gr12 dX9_scanName_47 ?_
        refine j_laddw hJ dX9_scanName_48 ?_
        refine j_pl hJ (rl_w _) kC_1 fC_12_11 rfl fp_X9_81 dX9_scanName_49 (fun M14 eM14 => ?_)
        have hF := hF M14 eM14
        refine j_aload_n hJ dX9_scanName_52 rfl 0 rfl ?_
        refine j_dup hJ dX9_scanName_53 rfl ?_
        refine j_gi hJ kC_1 fC_12_4 rfl fl_X9_69 dX9_scanName_54 (fun v15 ev15 gv15 => ?_)
        have hF := hF v15 ev15 gv15
        refine j_iconst hJ dX9_scanName_57 ?_
        refine j_iadd hJ dX9_scanName_58 ?_
        have g16 := hF.1; have hF := hF.2
        refine j_pi hJ g16 kC_1 fC_12_4 rfl fp_X9_69 dX9_scanName_59 (fun M17 eM17 => ?_)
        have hF := hF M17 eM17
        refine j_goto hJ 0 dX9_scanName_62 (by decide) ?_
        exact j_sub hJ [0] rfl (ih  _  hF)
  intro  M  hF
  obtain ⟨n, hF⟩ := hF
  exact H9 n  M  hF
set_option maxHeartbeats 4000000 in
set_option maxRecDepth 100000 in
theorem c_X9_scanName {l : Launch} {D : va_G} {cy : Nat → ClassId} {ad : Nat → Nat} (hin : jIn ad ksC.length) : jCN l D vwCl (tyC cy) cy ad ftC ksC (XtC ad) yX9_scanName (.code yX9_scanName cX9_scanName 2 none :: Om) ({ frames := 2, cells := 0, slots := 0, locals := 40 } : Room) 0 (W_X9_scanName ad) := by
  refine jCN_of (y := yX9_scanName) (cc := cX9_scanName) (nL := 2) (rk := 0) (rm := ({ frames := 2, cells := 0, slots := 0, locals := 40 } : Room)) (own := RX9) (tyC_ok cy) hin (XtC_ok ad) Om_good (by decide) rfl ?_
  intro Q av M hF
  obtain ⟨rfl, hF⟩ := hF
  refine ⟨Nat.le_of_ble_eq_true rfl, fun J hJ => ?_⟩
  show J 0 [(0, .ref (ad 1))] [] M
  unfold w_X9_scanName at hF
  exact j_sub hJ [0] rfl (k_X9_scanName_b0 hin  hJ   _  hF)
def W_X9_scanNumber (ad : Nat → Nat) (Q : Int → MM → Prop) (av : List Value) (M : MM) : Prop := av = [.ref (ad 1)] ∧ w_X9_scanNumber  Q  M
set_option maxHeartbeats 4000000 in
set_option maxRecDepth 100000 in
theorem k_X9_scanNumber_b86 {l : Launch} {D : va_G} {cy : Nat → ClassId} {ad : Nat → Nat} {Q : Int → MM → Prop} {J : Nat → List (Nat × Value) → List Value → MM → Prop} (hin : jIn ad ksC.length)   (hJ : jOk l D vwCl (tyC cy) cy ad ftC ksC (XtC ad) Om RX9 cX9_scanNumber 1 0 ({ frames := 1, cells := 0, slots := 0, locals := 20 } : Room) Q J)  : ∀ (s0 : Int) (M : MM), ri_ s0 → w_X9_scanNumber_b86  Q  s0 M → J 86 [] [.int (Ii s0), .ref (ad 1)] M := by
  intro s0 M gs0 hF
  unfold w_X9_scanNumber_b86 at hF
  refine j_pi hJ gs0 kC_1 fC_12_9 rfl fp_X9_75 dX9_scanNumber_86 (fun M1 eM1 => ?_)
  have hF := hF M1 eM1
  exact j_vret hJ rfl dX9_scanNumber_89 hF
set_option maxHeartbeats 4000000 in
set_option maxRecDepth 100000 in
theorem k_X9_scanNumber_b66 {l : Launch} {D : va_G} {cy : Nat → ClassId} {ad : Nat → Nat} {Q : Int → MM → Prop} {J : Nat → List (Nat × Value) → List Value → MM → Prop} (hin : jIn ad ksC.length)   (hJ : jOk l D vwCl (tyC cy) cy ad ftC ksC (XtC ad) Om RX9 cX9_scanNumber 1 0 ({ frames := 1, cells := 0, slots := 0, locals := 20 } : Room) Q J)  : ∀ (M : MM), w_X9_scanNumber_b66  Q   M → J 66 [(0, .ref (ad 1))] [] M := by
  intro  M  hF
  unfold w_X9_scanNumber_b66 at hF
  refine j_aload_n hJ dX9_scanNumber_66 rfl 0 rfl ?_
  refine j_aload_n hJ dX9_scanNumber_67 rfl 0 rfl ?_
  refine j_gi hJ kC_1 fC_12_4 rfl fl_X9_69 dX9_scanNumber_68 (fun v1 ev1 gv1 => ?_)
  have hF := hF v1 ev1 gv1
  refine j_aload_n hJ dX9_scanNumber_71 rfl 0 rfl ?_
  refine j_gi hJ kC_1 fC_12_10 rfl fl_X9_78 dX9_scanNumber_72 (fun v2 ev2 gv2 => ?_)
  have hF := hF v2 ev2 gv2
  refine j_isub hJ dX9_scanNumber_75 ?_
  have g3 := hF.1; have hF := hF.2
  refine j_bipush hJ dX9_scanNumber_76 (by decide) ?_
  refine j_icmp_le hJ 85 g3 rk_18 dX9_scanNumber_78 (by decide) (fun z4 => ?_) (fun z4 => ?_)
  · have hF := hF.1 z4
    refine j_iconst hJ dX9_scanNumber_85 ?_
    exact j_sub hJ [] rfl (k_X9_scanNumber_b86 hin  hJ  3 _ rk_3 hF)
  · have hF := hF.2 z4
    refine j_iconst hJ dX9_scanNumber_81 ?_
    refine j_goto hJ 86 dX9_scanNumber_82 (by decide) ?_
    exact j_sub hJ [] rfl (k_X9_scanNumber_b86 hin  hJ  1 _ rk_1 hF)
set_option maxHeartbeats 4000000 in
set_option maxRecDepth 100000 in
theorem k_X9_scanNumber_b0 {l : Launch} {D : va_G} {cy : Nat → ClassId} {ad : Nat → Nat} {Q : Int → MM → Prop} {J : Nat → List (Nat × Value) → List Value → MM → Prop} (hin : jIn ad ksC.length)   (hJ : jOk l D vwCl (tyC cy) cy ad ftC ksC (XtC ad) Om RX9 cX9_scanNumber 1 0 ({ frames := 1, cells := 0, slots := 0, locals := 20 } : Room) Q J)  : ∀ (M : MM), w_X9_scanNumber_b0  Q   M → J 0 [(0, .ref (ad 1))] [] M := by
  have H9 : ∀ (n : Nat) (M : MM), jit (fun _ => False) (wb_X9_scanNumber_b0  Q ) n  M → J 0 [(0, .ref (ad 1))] [] M := by
    intro n
    induction n with
    | zero => intro  M  hF; exact False.elim hF
    | succ n ih =>
    intro  M  hF
    have hF : wb_X9_scanNumber_b0  Q  (jit (fun _ => False) (wb_X9_scanNumber_b0  Q ) n)  M := hF
    unfold wb_X9_scanNumber_b0 at hF
    refine j_aload_n hJ dX9_scanNumber_0 rfl 0 rfl ?_
    refine j_gi hJ kC_1 fC_12_4 rfl fl_X9_69 dX9_scanNumber_1 (fun v1 ev1 gv1 => ?_)
    have hF := hF v1 ev1 gv1
    refine j_aload_n hJ dX9_scanNumber_4 rfl 0 rfl ?_
    refine j_gi hJ kC_1 fC_12_1 rfl fl_X9_49 dX9_scanNumber_5 (fun v2 ev2 gv2 => ?_)
    have hF := hF v2 ev2 gv2
    refine j_icmp_ge hJ 66 gv1 gv2 dX9_scanNumber_8 (by decide) (fun z3 => ?_) (fun z3 => ?_)
    · have hF := hF.1 z3
      exact j_sub hJ [0] rfl (k_X9_scanNumber_b66 hin  hJ   _  hF)
    · have hF := hF.2 z3
      refine j_aload_n hJ dX9_scanNumber_11 rfl 0 rfl ?_
      refine j_gr (e := 2) hJ kC_1 fC_12_0 fl_X9_11 dX9_scanNumber_12 rfl ?_
      refine j_aload_n hJ dX9_scanNumber_15 rfl 0 rfl ?_
      refine j_gi hJ kC_1 fC_12_4 rfl fl_X9_69 dX9_scanNumber_16 (fun v4 ev4 gv4 => ?_)
      have hF := hF v4 ev4 gv4
      refine j_iald hJ gv4 kC_2 hF.1 hF.2.1 dX9_scanNumber_19 (fun v5 ev5 gv5 => ?_)
      have hF := hF.2.2 v5 ev5 gv5
      refine j_callSz hJ (c_X9_isDigit (l := l) (D := D) (cy := cy) (ad := ad) hin) rfl om_528 ⟨rfl, rfl, Nat.le_of_ble_eq_true rfl, Nat.le_of_ble_eq_true rfl⟩ [.int (Ii v5)] mv_X9_65 hd_X9_isDigit rfl (Nat.le_of_ble_eq_true rfl) dX9_scanNumber_20 ⟨v5, rfl, gv5, hF⟩ (fun r6 M7 gr6 qM7 => ?_)
      have hF := qM7 gr6
      refine j_if_eq hJ 66 (jz_ri gr6) dX9_scanNumber_23 (by decide) (fun z8 => ?_) (fun z8 => ?_)
      · have hF := hF.1 z8
        exact j_sub hJ [0] rfl (k_X9_scanNumber_b66 hin  hJ   _  hF)
      · have hF := hF.2 z8
        refine j_aload_n hJ dX9_scanNumber_26 rfl 0 rfl ?_
        refine j_aload_n hJ dX9_scanNumber_27 rfl 0 rfl ?_
        refine j_gl hJ kC_1 fC_12_11 rfl fl_X9_81 dX9_scanNumber_28 (fun v9 ev9 gv9 => ?_)
        have hF := hF v9 ev9 gv9
        refine j_ldc2 hJ 10 om_584 (by decide) dX9_scanNumber_31 ?_
        refine j_lmulw hJ dX9_scanNumber_34 ?_
        refine j_aload_n hJ dX9_scanNumber_35 rfl 0 rfl ?_
        refine j_gr (e := 2) hJ kC_1 fC_12_0 fl_X9_11 dX9_scanNumber_36 rfl ?_
        refine j_aload_n hJ dX9_scanNumber_39 rfl 0 rfl ?_
        refine j_gi hJ kC_1 fC_12_4 rfl fl_X9_69 dX9_scanNumber_40 (fun v10 ev10 gv10 => ?_)
        have hF := hF v10 ev10 gv10
        refine j_iald hJ gv10 kC_2 hF.1 hF.2.1 dX9_scanNumber_43 (fun v11 ev11 gv11 => ?_)
        have hF := hF.2.2 v11 ev11 gv11
        refine j_i2l hJ gv11 dX9_scanNumber_44 ?_
        refine j_laddw hJ dX9_scanNumber_45 ?_
        refine j_ldc2 hJ 48 om_585 (by decide) dX9_scanNumber_46 ?_
        refine j_lsubw hJ dX9_scanNumber_49 ?_
        refine j_pl hJ (rl_w _) kC_1 fC_12_11 rfl fp_X9_81 dX9_scanNumber_50 (fun M12 eM12 => ?_)
        have hF := hF M12 eM12
        refine j_aload_n hJ dX9_scanNumber_53 rfl 0 rfl ?_
        refine j_dup hJ dX9_scanNumber_54 rfl ?_
        refine j_gi hJ kC_1 fC_12_4 rfl fl_X9_69 dX9_scanNumber_55 (fun v13 ev13 gv13 => ?_)
        have hF := hF v13 ev13 gv13
        refine j_iconst hJ dX9_scanNumber_58 ?_
        refine j_iadd hJ dX9_scanNumber_59 ?_
        have g14 := hF.1; have hF := hF.2
        refine j_pi hJ g14 kC_1 fC_12_4 rfl fp_X9_69 dX9_scanNumber_60 (fun M15 eM15 => ?_)
        have hF := hF M15 eM15
        refine j_goto hJ 0 dX9_scanNumber_63 (by decide) ?_
        exact j_sub hJ [0] rfl (ih  _  hF)
  intro  M  hF
  obtain ⟨n, hF⟩ := hF
  exact H9 n  M  hF
set_option maxHeartbeats 4000000 in
set_option maxRecDepth 100000 in
theorem c_X9_scanNumber {l : Launch} {D : va_G} {cy : Nat → ClassId} {ad : Nat → Nat} (hin : jIn ad ksC.length) : jCN l D vwCl (tyC cy) cy ad ftC ksC (XtC ad) yX9_scanNumber (.code yX9_scanNumber cX9_scanNumber 1 none :: Om) ({ frames := 1, cells := 0, slots := 0, locals := 20 } : Room) 0 (W_X9_scanNumber ad) := by
  refine jCN_of (y := yX9_scanNumber) (cc := cX9_scanNumber) (nL := 1) (rk := 0) (rm := ({ frames := 1, cells := 0, slots := 0, locals := 20 } : Room)) (own := RX9) (tyC_ok cy) hin (XtC_ok ad) Om_good (by decide) rfl ?_
  intro Q av M hF
  obtain ⟨rfl, hF⟩ := hF
  refine ⟨Nat.le_of_ble_eq_true rfl, fun J hJ => ?_⟩
  show J 0 [(0, .ref (ad 1))] [] M
  unfold w_X9_scanNumber at hF
  exact j_sub hJ [0] rfl (k_X9_scanNumber_b0 hin  hJ   _  hF)
