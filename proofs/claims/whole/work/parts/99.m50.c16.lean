def W_X12_isTrueNow (ad : Nat → Nat) (Q : Int → MM → Prop) (av : List Value) (M : MM) : Prop := ∃ (p1 : Int), av = [.ref (ad 0), .int (Ii p1)] ∧ ri_ p1 ∧ w_X12_isTrueNow  Q p1 M
set_option maxHeartbeats 4000000 in
set_option maxRecDepth 100000 in
theorem c_X12_isTrueNow {l : Launch} {D : va_G} {cy : Nat → ClassId} {ad : Nat → Nat} (hin : jIn ad ksR.length) : jCN l D vwCl (tyR cy) cy ad ftR ksR (XtR ad) yX12_isTrueNow (.code yX12_isTrueNow cX12_isTrueNow 2 (some .boolean) :: Om) ({ frames := 305, cells := 0, slots := 0, locals := 8818 } : Room) 3 (W_X12_isTrueNow ad) := by
  refine jCN_of (y := yX12_isTrueNow) (cc := cX12_isTrueNow) (nL := 2) (rk := 3) (rm := ({ frames := 305, cells := 0, slots := 0, locals := 8818 } : Room)) (own := RX12) (tyR_ok cy) hin (XtR_ok ad) Om_good (by decide) rfl ?_
  intro Q av M hF
  obtain ⟨p1, rfl, gp1, hF⟩ := hF
  refine ⟨Nat.le_of_ble_eq_true rfl, fun J hJ => ?_⟩
  show J 0 [(0, .ref (ad 0)), (1, .int (Ii p1))] [] M
  unfold w_X12_isTrueNow at hF
  refine j_aload_n hJ dX12_isTrueNow_0 rfl 0 rfl ?_
  refine j_iconst hJ dX12_isTrueNow_1 ?_
  refine j_callVv hJ (c_X12_beginWork (l := l) (D := D) (cy := cy) (ad := ad) hin) rfl om_1209 ⟨rfl, rfl, Nat.le_of_ble_eq_true rfl, Nat.le_of_ble_eq_true rfl⟩ [.int (Ii 4)] mv_X12_865 hd_X12_beginWorkv kR_0 rfl rfl rfl (Nat.le_of_ble_eq_true rfl) dX12_isTrueNow_2 ⟨4, rfl, rk_4, hF⟩ (fun M2 qM2 => ?_)
  have hF := qM2
  refine j_aload_n hJ dX12_isTrueNow_5 rfl 0 rfl ?_
  refine j_aload_n hJ dX12_isTrueNow_6 rfl 0 rfl ?_
  refine j_gr (e := 78) hJ kR_0 fR_15_111 fl_X12_309 dX12_isTrueNow_7 rfl ?_
  refine j_iload_n hJ dX12_isTrueNow_10 rfl 1 rfl ?_
  refine j_iald hJ gp1 kR_78 hF.1 hF.2.1 dX12_isTrueNow_11 (fun v3 ev3 gv3 => ?_)
  have hF := hF.2.2 v3 ev3 gv3
  refine j_callVv hJ (c_X12_work (l := l) (D := D) (cy := cy) (ad := ad) hin) rfl om_1253 ⟨rfl, rfl, Nat.le_of_ble_eq_true rfl, Nat.le_of_ble_eq_true rfl⟩ [.int (Ii v3)] mv_X12_829 hd_X12_workv kR_0 rfl rfl rfl (Nat.le_of_ble_eq_true rfl) dX12_isTrueNow_12 ⟨v3, rfl, gv3, hF⟩ (fun M5 qM5 => ?_)
  have hF := qM5
  refine j_aload_n hJ dX12_isTrueNow_15 rfl 0 rfl ?_
  refine j_gz hJ kR_0 fR_15_103 rfl fl_X12_782 dX12_isTrueNow_16 (fun v6 ev6 gv6 => ?_)
  have hF := hF v6 ev6 gv6
  refine j_if_ne hJ 43 (jz_ri gv6) dX12_isTrueNow_19 (by decide) (fun z7 => ?_) (fun z7 => ?_)
  · have hF := hF.1 z7
    refine j_iconst hJ dX12_isTrueNow_43 ?_
    exact j_zret hJ rfl (by decide) dX12_isTrueNow_44 hF
  · have hF := hF.2 z7
    refine j_aload_n hJ dX12_isTrueNow_22 rfl 0 rfl ?_
    refine j_gi hJ kR_0 fR_15_99 rfl fl_X12_785 dX12_isTrueNow_23 (fun v8 ev8 gv8 => ?_)
    have hF := hF v8 ev8 gv8
    refine j_iconst hJ dX12_isTrueNow_26 ?_
    refine j_icmp_ne hJ 43 gv8 rk_1 dX12_isTrueNow_27 (by decide) (fun z9 => ?_) (fun z9 => ?_)
    · have hF := hF.1 z9
      refine j_iconst hJ dX12_isTrueNow_43 ?_
      exact j_zret hJ rfl (by decide) dX12_isTrueNow_44 hF
    · have hF := hF.2 z9
      refine j_aload_n hJ dX12_isTrueNow_30 rfl 0 rfl ?_
      refine j_gl hJ kR_0 fR_15_102 rfl fl_X12_788 dX12_isTrueNow_31 (fun v10 ev10 gv10 => ?_)
      have hF := hF v10 ev10 gv10
      refine j_lconst (x := 1) hJ dX12_isTrueNow_34 rfl ?_
      refine j_lcmp_ne hJ 43 gv10 lk_1 dX12_isTrueNow_35 dX12_isTrueNow_36 (by decide) (fun z11 => ?_) (fun z11 => ?_)
      · have hF := hF.1 z11
        refine j_iconst hJ dX12_isTrueNow_43 ?_
        exact j_zret hJ rfl (by decide) dX12_isTrueNow_44 hF
      · have hF := hF.2 z11
        refine j_iconst hJ dX12_isTrueNow_39 ?_
        refine j_goto hJ 44 dX12_isTrueNow_40 (by decide) ?_
        exact j_zret hJ rfl (by decide) dX12_isTrueNow_44 hF
def W_X12_lookAtPromises (ad : Nat → Nat) (Q : Int → MM → Prop) (av : List Value) (M : MM) : Prop := ∃ (p1 : Int), av = [.ref (ad 0), .int (Ii p1)] ∧ ri_ p1 ∧ w_X12_lookAtPromises  Q p1 M
set_option maxHeartbeats 4000000 in
set_option maxRecDepth 100000 in
theorem k_X12_lookAtPromises_b84 {l : Launch} {D : va_G} {cy : Nat → ClassId} {ad : Nat → Nat} {Q : Int → MM → Prop} {J : Nat → List (Nat × Value) → List Value → MM → Prop} (hin : jIn ad ksR.length)   (hJ : jOk l D vwCl (tyR cy) cy ad ftR ksR (XtR ad) Om RX12 cX12_lookAtPromises 4 0 ({ frames := 306, cells := 0, slots := 0, locals := 8839 } : Room) Q J) {K50 : Int → Int → MM → Prop} (hK50 : ∀ (x1 x3 : Int) (M : MM), ri_ x1 → ri_ x3 → K50 x1 x3 M → J 50 [(0, .ref (ad 0)), (1, .int (Ii x1)), (3, .int (Ii x3))] [] M) : ∀ (x1 x3 : Int) (M : MM), ri_ x1 → ri_ x3 → w_X12_lookAtPromises_b84  Q K50 x1 x3 M → J 84 [(0, .ref (ad 0)), (1, .int (Ii x1)), (3, .int (Ii x3))] [] M := by
  intro x1 x3 M gx1 gx3 hF
  unfold w_X12_lookAtPromises_b84 at hF
  refine j_iinc (lv' := [(3, .int (Ii (x3 + 1))), (0, .ref (ad 0)), (1, .int (Ii x1))]) (k := 2) hJ dX12_lookAtPromises_84 rfl (by decide) rfl ?_
  have g1 := hF.1; have hF := hF.2
  refine j_goto hJ 50 dX12_lookAtPromises_87 (by decide) ?_
  exact j_sub hJ [1, 2, 0] rfl (hK50 x1 (x3 + 1) _ gx1 g1 hF)
set_option maxHeartbeats 4000000 in
set_option maxRecDepth 100000 in
theorem k_X12_lookAtPromises_b50 {l : Launch} {D : va_G} {cy : Nat → ClassId} {ad : Nat → Nat} {Q : Int → MM → Prop} {J : Nat → List (Nat × Value) → List Value → MM → Prop} (hin : jIn ad ksR.length)   (hJ : jOk l D vwCl (tyR cy) cy ad ftR ksR (XtR ad) Om RX12 cX12_lookAtPromises 4 0 ({ frames := 306, cells := 0, slots := 0, locals := 8839 } : Room) Q J)  : ∀ (x1 x3 : Int) (M : MM), ri_ x1 → ri_ x3 → w_X12_lookAtPromises_b50  Q  x1 x3 M → J 50 [(0, .ref (ad 0)), (1, .int (Ii x1)), (3, .int (Ii x3))] [] M := by
  have H9 : ∀ (n : Nat) (x1 x3 : Int) (M : MM), ri_ x1 → ri_ x3 → jit (fun _ _ _ => False) (wb_X12_lookAtPromises_b50  Q ) n x1 x3 M → J 50 [(0, .ref (ad 0)), (1, .int (Ii x1)), (3, .int (Ii x3))] [] M := by
    intro n
    induction n with
    | zero => intro x1 x3 M gx1 gx3 hF; exact False.elim hF
    | succ n ih =>
    intro x1 x3 M gx1 gx3 hF
    have hF : wb_X12_lookAtPromises_b50  Q  (jit (fun _ _ _ => False) (wb_X12_lookAtPromises_b50  Q ) n) x1 x3 M := hF
    unfold wb_X12_lookAtPromises_b50 at hF
    refine j_iload_n hJ dX12_lookAtPromises_50 rfl 2 rfl ?_
    refine j_aload_n hJ dX12_lookAtPromises_51 rfl 0 rfl ?_
    refine j_gi hJ kR_0 fR_15_113 rfl fl_X12_872 dX12_lookAtPromises_52 (fun v1 ev1 gv1 => ?_)
    have hF := hF v1 ev1 gv1
    refine j_icmp_ge hJ 90 gx3 gv1 dX12_lookAtPromises_55 (by decide) (fun z2 => ?_) (fun z2 => ?_)
    · have hF := hF.1 z2
      exact j_vret hJ rfl dX12_lookAtPromises_90 hF
    · have hF := hF.2 z2
      refine j_aload_n hJ dX12_lookAtPromises_58 rfl 0 rfl ?_
      refine j_gr (e := 79) hJ kR_0 fR_15_112 fl_X12_312 dX12_lookAtPromises_59 rfl ?_
      refine j_iload_n hJ dX12_lookAtPromises_62 rfl 2 rfl ?_
      refine j_iald hJ gx3 kR_79 hF.1 hF.2.1 dX12_lookAtPromises_63 (fun v3 ev3 gv3 => ?_)
      have hF := hF.2.2 v3 ev3 gv3
      refine j_bipush hJ dX12_lookAtPromises_64 (by decide) ?_
      refine j_icmp_ne hJ 84 gv3 rk_m2 dX12_lookAtPromises_66 (by decide) (fun z4 => ?_) (fun z4 => ?_)
      · have hF := hF.1 z4
        exact j_sub hJ [0, 1, 2] rfl (k_X12_lookAtPromises_b84 hin  hJ ih x1 x3 _ gx1 gx3 hF)
      · have hF := hF.2 z4
        refine j_aload_n hJ dX12_lookAtPromises_69 rfl 0 rfl ?_
        refine j_iload_n hJ dX12_lookAtPromises_70 rfl 2 rfl ?_
        refine j_callVz hJ (c_X12_isTrueNow (l := l) (D := D) (cy := cy) (ad := ad) hin) rfl om_1277 ⟨rfl, rfl, Nat.le_of_ble_eq_true rfl, Nat.le_of_ble_eq_true rfl⟩ [.int (Ii x3)] mv_X12_878 hd_X12_isTrueNowv kR_0 rfl rfl rfl (Nat.le_of_ble_eq_true rfl) dX12_lookAtPromises_71 ⟨x3, rfl, gx3, hF⟩ (fun r5 M6 gr5 qM6 => ?_)
        have hF := qM6 gr5
        refine j_if_ne hJ 84 (jz_ri gr5) dX12_lookAtPromises_74 (by decide) (fun z7 => ?_) (fun z7 => ?_)
        · have hF := hF.1 z7
          exact j_sub hJ [0, 1, 2] rfl (k_X12_lookAtPromises_b84 hin  hJ ih x1 x3 _ gx1 gx3 hF)
        · have hF := hF.2 z7
          refine j_aload_n hJ dX12_lookAtPromises_77 rfl 0 rfl ?_
          refine j_gr (e := 79) hJ kR_0 fR_15_112 fl_X12_312 dX12_lookAtPromises_78 rfl ?_
          refine j_iload_n hJ dX12_lookAtPromises_81 rfl 2 rfl ?_
          refine j_iload_n hJ dX12_lookAtPromises_82 rfl 1 rfl ?_
          refine j_iast hJ gx3 gx1 kR_79 hF.1 hF.2.1 dX12_lookAtPromises_83 (fun M8 eM8 => ?_)
          have hF := hF.2.2 M8 eM8
          exact j_sub hJ [0, 1, 2] rfl (k_X12_lookAtPromises_b84 hin  hJ ih x1 x3 _ gx1 gx3 hF)
  intro x1 x3 M gx1 gx3 hF
  obtain ⟨n, hF⟩ := hF
  exact H9 n x1 x3 M gx1 gx3 hF
set_option maxHeartbeats 4000000 in
set_option maxRecDepth 100000 in
theorem k_X12_lookAtPromises_b32 {l : Launch} {D : va_G} {cy : Nat → ClassId} {ad : Nat → Nat} {Q : Int → MM → Prop} {J : Nat → List (Nat × Value) → List Value → MM → Prop} (hin : jIn ad ksR.length)   (hJ : jOk l D vwCl (tyR cy) cy ad ftR ksR (XtR ad) Om RX12 cX12_lookAtPromises 4 0 ({ frames := 306, cells := 0, slots := 0, locals := 8839 } : Room) Q J) {K4 : Int → Int → Int → MM → Prop} (hK4 : ∀ (x1 x2 x3 : Int) (M : MM), ri_ x1 → ri_ x2 → ri_ x3 → K4 x1 x2 x3 M → J 4 [(0, .ref (ad 0)), (1, .int (Ii x1)), (2, .int (Ii x2)), (3, .int (Ii x3))] [] M) : ∀ (x1 x3 s0 : Int) (M : MM), ri_ x1 → ri_ x3 → ri_ s0 → w_X12_lookAtPromises_b32  Q K4 x1 x3 s0 M → J 32 [(0, .ref (ad 0)), (1, .int (Ii x1)), (3, .int (Ii x3))] [.int (Ii s0)] M := by
  intro x1 x3 s0 M gx1 gx3 gs0 hF
  unfold w_X12_lookAtPromises_b32 at hF
  refine j_istore_n (lv' := [(2, .int (Ii s0)), (0, .ref (ad 0)), (1, .int (Ii x1)), (3, .int (Ii x3))]) hJ dX12_lookAtPromises_32 rfl (by decide) rfl ?_
  refine j_iinc (lv' := [(3, .int (Ii (x3 + 1))), (2, .int (Ii s0)), (0, .ref (ad 0)), (1, .int (Ii x1))]) (k := 3) hJ dX12_lookAtPromises_33 rfl (by decide) rfl ?_
  have g1 := hF.1; have hF := hF.2
  refine j_goto hJ 4 dX12_lookAtPromises_36 (by decide) ?_
  exact j_sub hJ [2, 3, 1, 0] rfl (hK4 x1 s0 (x3 + 1) _ gx1 gs0 g1 hF)
set_option maxHeartbeats 4000000 in
set_option maxRecDepth 100000 in
theorem k_X12_lookAtPromises_b27 {l : Launch} {D : va_G} {cy : Nat → ClassId} {ad : Nat → Nat} {Q : Int → MM → Prop} {J : Nat → List (Nat × Value) → List Value → MM → Prop} (hin : jIn ad ksR.length)   (hJ : jOk l D vwCl (tyR cy) cy ad ftR ksR (XtR ad) Om RX12 cX12_lookAtPromises 4 0 ({ frames := 306, cells := 0, slots := 0, locals := 8839 } : Room) Q J) {K4 : Int → Int → Int → MM → Prop} (hK4 : ∀ (x1 x2 x3 : Int) (M : MM), ri_ x1 → ri_ x2 → ri_ x3 → K4 x1 x2 x3 M → J 4 [(0, .ref (ad 0)), (1, .int (Ii x1)), (2, .int (Ii x2)), (3, .int (Ii x3))] [] M) : ∀ (x1 x3 : Int) (M : MM), ri_ x1 → ri_ x3 → w_X12_lookAtPromises_b27  Q K4 x1 x3 M → J 27 [(0, .ref (ad 0)), (1, .int (Ii x1)), (3, .int (Ii x3))] [] M := by
  intro x1 x3 M gx1 gx3 hF
  unfold w_X12_lookAtPromises_b27 at hF
  refine j_iconst hJ dX12_lookAtPromises_27 ?_
  refine j_goto hJ 32 dX12_lookAtPromises_28 (by decide) ?_
  exact j_sub hJ [0, 1, 2] rfl (k_X12_lookAtPromises_b32 hin  hJ hK4 x1 x3 1 _ gx1 gx3 rk_1 hF)
set_option maxHeartbeats 4000000 in
set_option maxRecDepth 100000 in
theorem k_X12_lookAtPromises_b4 {l : Launch} {D : va_G} {cy : Nat → ClassId} {ad : Nat → Nat} {Q : Int → MM → Prop} {J : Nat → List (Nat × Value) → List Value → MM → Prop} (hin : jIn ad ksR.length)   (hJ : jOk l D vwCl (tyR cy) cy ad ftR ksR (XtR ad) Om RX12 cX12_lookAtPromises 4 0 ({ frames := 306, cells := 0, slots := 0, locals := 8839 } : Room) Q J)  : ∀ (x1 x2 x3 : Int) (M : MM), ri_ x1 → ri_ x2 → ri_ x3 → w_X12_lookAtPromises_b4  Q  x1 x2 x3 M → J 4 [(0, .ref (ad 0)), (1, .int (Ii x1)), (2, .int (Ii x2)), (3, .int (Ii x3))] [] M := by
  have H9 : ∀ (n : Nat) (x1 x2 x3 : Int) (M : MM), ri_ x1 → ri_ x2 → ri_ x3 → jit (fun _ _ _ _ => False) (wb_X12_lookAtPromises_b4  Q ) n x1 x2 x3 M → J 4 [(0, .ref (ad 0)), (1, .int (Ii x1)), (2, .int (Ii x2)), (3, .int (Ii x3))] [] M := by
    intro n
    induction n with
    | zero => intro x1 x2 x3 M gx1 gx2 gx3 hF; exact False.elim hF
    | succ n ih =>
    intro x1 x2 x3 M gx1 gx2 gx3 hF
    have hF : wb_X12_lookAtPromises_b4  Q  (jit (fun _ _ _ _ => False) (wb_X12_lookAtPromises_b4  Q ) n) x1 x2 x3 M := hF
    unfold wb_X12_lookAtPromises_b4 at hF
    refine j_iload_n hJ dX12_lookAtPromises_4 rfl 3 rfl ?_
    refine j_aload_n hJ dX12_lookAtPromises_5 rfl 0 rfl ?_
    refine j_gi hJ kR_0 fR_15_113 rfl fl_X12_872 dX12_lookAtPromises_6 (fun v1 ev1 gv1 => ?_)
    have hF := hF v1 ev1 gv1
    refine j_icmp_ge hJ 39 gx3 gv1 dX12_lookAtPromises_9 (by decide) (fun z2 => ?_) (fun z2 => ?_)
    · have hF := hF.1 z2
      refine j_iload_n hJ dX12_lookAtPromises_39 rfl 2 rfl ?_
      refine j_if_ne hJ 44 gx2 dX12_lookAtPromises_40 (by decide) (fun z3 => ?_) (fun z3 => ?_)
      · have hF := hF.1 z3
        refine j_aload_n hJ dX12_lookAtPromises_44 rfl 0 rfl ?_
        refine j_callVv hJ (c_X12_takeNow (l := l) (D := D) (cy := cy) (ad := ad) hin) rfl om_1205 ⟨rfl, rfl, Nat.le_of_ble_eq_true rfl, Nat.le_of_ble_eq_true rfl⟩ [] mv_X12_875 hd_X12_takeNowv kR_0 rfl rfl rfl (Nat.le_of_ble_eq_true rfl) dX12_lookAtPromises_45 ⟨rfl, hF⟩ (fun M5 qM5 => ?_)
        have hF := qM5
        refine j_iconst hJ dX12_lookAtPromises_48 ?_
        refine j_istore_n (lv' := [(3, .int (Ii 0)), (0, .ref (ad 0)), (1, .int (Ii x1)), (2, .int (Ii x2))]) hJ dX12_lookAtPromises_49 rfl (by decide) rfl ?_
        exact j_sub hJ [1, 2, 0] rfl (k_X12_lookAtPromises_b50 hin  hJ  x1 0 _ gx1 rk_0 hF)
      · have hF := hF.2 z3
        exact j_vret hJ rfl dX12_lookAtPromises_43 hF
    · have hF := hF.2 z2
      refine j_iload_n hJ dX12_lookAtPromises_12 rfl 2 rfl ?_
      refine j_if_ne hJ 27 gx2 dX12_lookAtPromises_13 (by decide) (fun z6 => ?_) (fun z6 => ?_)
      · have hF := hF.1 z6
        exact j_sub hJ [0, 1, 3] rfl (k_X12_lookAtPromises_b27 hin  hJ ih x1 x3 _ gx1 gx3 hF)
      · have hF := hF.2 z6
        refine j_aload_n hJ dX12_lookAtPromises_16 rfl 0 rfl ?_
        refine j_gr (e := 79) hJ kR_0 fR_15_112 fl_X12_312 dX12_lookAtPromises_17 rfl ?_
        refine j_iload_n hJ dX12_lookAtPromises_20 rfl 3 rfl ?_
        refine j_iald hJ gx3 kR_79 hF.1 hF.2.1 dX12_lookAtPromises_21 (fun v7 ev7 gv7 => ?_)
        have hF := hF.2.2 v7 ev7 gv7
        refine j_bipush hJ dX12_lookAtPromises_22 (by decide) ?_
        refine j_icmp_ne hJ 31 gv7 rk_m2 dX12_lookAtPromises_24 (by decide) (fun z8 => ?_) (fun z8 => ?_)
        · have hF := hF.1 z8
          refine j_iconst hJ dX12_lookAtPromises_31 ?_
          exact j_sub hJ [0, 1, 3] rfl (k_X12_lookAtPromises_b32 hin  hJ ih x1 x3 0 _ gx1 gx3 rk_0 hF)
        · have hF := hF.2 z8
          exact j_sub hJ [0, 1, 3] rfl (k_X12_lookAtPromises_b27 hin  hJ ih x1 x3 _ gx1 gx3 hF)
  intro x1 x2 x3 M gx1 gx2 gx3 hF
  obtain ⟨n, hF⟩ := hF
  exact H9 n x1 x2 x3 M gx1 gx2 gx3 hF
set_option maxHeartbeats 4000000 in
set_option maxRecDepth 100000 in
theorem c_X12_lookAtPromises {l : Launch} {D : va_G} {cy : Nat → ClassId} {ad : Nat → Nat} (hin : jIn ad ksR.length) : jCN l D vwCl (tyR cy) cy ad ftR ksR (XtR ad) yX12_lookAtPromises (.code yX12_lookAtPromises cX12_lookAtPromises 4 none :: Om) ({ frames := 306, cells := 0, slots := 0, locals := 8839 } : Room) 0 (W_X12_lookAtPromises ad) := by
  refine jCN_of (y := yX12_lookAtPromises) (cc := cX12_lookAtPromises) (nL := 4) (rk := 0) (rm := ({ frames := 306, cells := 0, slots := 0, locals := 8839 } : Room)) (own := RX12) (tyR_ok cy) hin (XtR_ok ad) Om_good (by decide) rfl ?_
  intro Q av M hF
  obtain ⟨p1, rfl, gp1, hF⟩ := hF
  refine ⟨Nat.le_of_ble_eq_true rfl, fun J hJ => ?_⟩
  show J 0 [(0, .ref (ad 0)), (1, .int (Ii p1))] [] M
  unfold w_X12_lookAtPromises at hF
  refine j_iconst hJ dX12_lookAtPromises_0 ?_
  refine j_istore_n (lv' := [(2, .int (Ii 0)), (0, .ref (ad 0)), (1, .int (Ii p1))]) hJ dX12_lookAtPromises_1 rfl (by decide) rfl ?_
  refine j_iconst hJ dX12_lookAtPromises_2 ?_
  refine j_istore_n (lv' := [(3, .int (Ii 0)), (2, .int (Ii 0)), (0, .ref (ad 0)), (1, .int (Ii p1))]) hJ dX12_lookAtPromises_3 rfl (by decide) rfl ?_
  exact j_sub hJ [2, 3, 1, 0] rfl (k_X12_lookAtPromises_b4 hin  hJ  p1 0 0 _ gp1 rk_0 rk_0 hF)
def W_X12_set (ad : Nat → Nat) (Q : Int → MM → Prop) (av : List Value) (M : MM) : Prop := ∃ (p1 : Int) (p2 : Int) (p3 : Int), av = [.ref (ad 0), .int (Ii p1), .int (Ii p2), .long (Ll p3)] ∧ ri_ p1 ∧ ri_ p2 ∧ rl_ p3 ∧ w_X12_set  Q p1 p2 p3 M
set_option maxHeartbeats 4000000 in
set_option maxRecDepth 100000 in
theorem k_X12_set_b105 {l : Launch} {D : va_G} {cy : Nat → ClassId} {ad : Nat → Nat} {Q : Int → MM → Prop} {J : Nat → List (Nat × Value) → List Value → MM → Prop} (hin : jIn ad ksR.length)   (hJ : jOk l D vwCl (tyR cy) cy ad ftR ksR (XtR ad) Om RX12 cX12_set 5 1 ({ frames := 307, cells := 0, slots := 0, locals := 8862 } : Room) Q J)  : ∀ (x1 x2 x3 s0 : Int) (M : MM), ri_ x1 → ri_ x2 → rl_ x3 → ri_ s0 → w_X12_set_b105  Q  x1 x2 x3 s0 M → J 105 [(0, .ref (ad 0)), (1, .int (Ii x1)), (2, .int (Ii x2)), (3, .long (Ll x3))] [.int (Ii s0), .ref (ad 0)] M := by
  intro x1 x2 x3 s0 M gx1 gx2 gx3 gs0 hF
  unfold w_X12_set_b105 at hF
  refine j_pi hJ gs0 kR_0 fR_15_0 rfl fp_X12_388 dX12_set_105 (fun M1 eM1 => ?_)
  have hF := hF M1 eM1
  refine j_aload_n hJ dX12_set_108 rfl 0 rfl ?_
  refine j_gi hJ kR_0 fR_15_0 rfl fl_X12_388 dX12_set_109 (fun v2 ev2 gv2 => ?_)
  have hF := hF v2 ev2 gv2
  refine j_if_le hJ 117 gv2 dX12_set_112 (by decide) (fun z3 => ?_) (fun z3 => ?_)
  · have hF := hF.1 z3
    refine j_aload_n hJ dX12_set_117 rfl 0 rfl ?_
    refine j_iload_n hJ dX12_set_118 rfl 1 rfl ?_
    refine j_iload_n hJ dX12_set_119 rfl 2 rfl ?_
    refine j_lload_n hJ dX12_set_120 rfl 3 rfl ?_
    refine j_callVv hJ (c_X12_write (l := l) (D := D) (cy := cy) (ad := ad) hin) rfl om_1121 ⟨rfl, rfl, Nat.le_of_ble_eq_true rfl, Nat.le_of_ble_eq_true rfl⟩ [.int (Ii x1), .int (Ii x2), .long (Ll x3)] mv_X12_499 hd_X12_writev kR_0 rfl rfl rfl (Nat.le_of_ble_eq_true rfl) dX12_set_121 ⟨x1, x2, x3, rfl, gx1, gx2, gx3, hF⟩ (fun M5 qM5 => ?_)
    have hF := qM5
    refine j_aload_n hJ dX12_set_124 rfl 0 rfl ?_
    refine j_aload_n hJ dX12_set_125 rfl 0 rfl ?_
    refine j_gi hJ kR_0 fR_15_29 rfl fl_X12_482 dX12_set_126 (fun v6 ev6 gv6 => ?_)
    have hF := hF v6 ev6 gv6
    refine j_iconst hJ dX12_set_129 ?_
    refine j_isub hJ dX12_set_130 ?_
    have g7 := hF.1; have hF := hF.2
    refine j_callVv hJ (c_X12_lookAtPromises (l := l) (D := D) (cy := cy) (ad := ad) hin) rfl om_1281 ⟨rfl, rfl, Nat.le_of_ble_eq_true rfl, Nat.le_of_ble_eq_true rfl⟩ [.int (Ii (v6 - 1))] mv_X12_503 hd_X12_lookAtPromisesv kR_0 rfl rfl rfl (Nat.le_of_ble_eq_true rfl) dX12_set_131 ⟨(v6 - 1), rfl, g7, hF⟩ (fun M9 qM9 => ?_)
    have hF := qM9
    refine j_aload_n hJ dX12_set_134 rfl 0 rfl ?_
    refine j_gi hJ kR_0 fR_15_29 rfl fl_X12_482 dX12_set_135 (fun v10 ev10 gv10 => ?_)
    have hF := hF v10 ev10 gv10
    refine j_iconst hJ dX12_set_138 ?_
    refine j_isub hJ dX12_set_139 ?_
    have g11 := hF.1; have hF := hF.2
    exact j_iret hJ rfl g11 dX12_set_140 hF
  · have hF := hF.2 z3
    refine j_iconst hJ dX12_set_115 ?_
    exact j_iret hJ rfl rk_0 dX12_set_116 hF
set_option maxHeartbeats 4000000 in
set_option maxRecDepth 100000 in
theorem k_X12_set_b93 {l : Launch} {D : va_G} {cy : Nat → ClassId} {ad : Nat → Nat} {Q : Int → MM → Prop} {J : Nat → List (Nat × Value) → List Value → MM → Prop} (hin : jIn ad ksR.length)   (hJ : jOk l D vwCl (tyR cy) cy ad ftR ksR (XtR ad) Om RX12 cX12_set 5 1 ({ frames := 307, cells := 0, slots := 0, locals := 8862 } : Room) Q J)  : ∀ (x1 x2 x3 s0 s1 : Int) (M : MM), ri_ x1 → ri_ x2 → rl_ x3 → ri_ s0 → ri_ s1 → w_X12_set_b93  Q  x1 x2 x3 s0 s1 M → J 93 [(0, .ref (ad 0)), (1, .int (Ii x1)), (2, .int (Ii x2)), (3, .long (Ll x3))] [.int (Ii s0), .int (Ii s1), .ref (ad 0), .ref (ad 0)] M := by
  intro x1 x2 x3 s0 s1 M gx1 gx2 gx3 gs0 gs1 hF
  unfold w_X12_set_b93 at hF
  refine j_lload_n hJ dX12_set_93 rfl 3 rfl ?_
  refine j_callVz hJ (c_X12_isOfKind (l := l) (D := D) (cy := cy) (ad := ad) hin) rfl om_1117 ⟨rfl, rfl, Nat.le_of_ble_eq_true rfl, Nat.le_of_ble_eq_true rfl⟩ [.int (Ii s1), .int (Ii s0), .long (Ll x3)] mv_X12_495 hd_X12_isOfKindv kR_0 rfl rfl rfl (Nat.le_of_ble_eq_true rfl) dX12_set_94 ⟨s1, s0, x3, rfl, gs1, gs0, gx3, hF⟩ (fun r1 M2 gr1 qM2 => ?_)
  have hF := qM2 gr1
  refine j_if_eq hJ 104 (jz_ri gr1) dX12_set_97 (by decide) (fun z3 => ?_) (fun z3 => ?_)
  · have hF := hF.1 z3
    refine j_iconst hJ dX12_set_104 ?_
    exact j_sub hJ [0, 1, 2, 3] rfl (k_X12_set_b105 hin  hJ  x1 x2 x3 2 _ gx1 gx2 gx3 rk_2 hF)
  · have hF := hF.2 z3
    refine j_iconst hJ dX12_set_100 ?_
    refine j_goto hJ 105 dX12_set_101 (by decide) ?_
    exact j_sub hJ [0, 1, 2, 3] rfl (k_X12_set_b105 hin  hJ  x1 x2 x3 0 _ gx1 gx2 gx3 rk_0 hF)
set_option maxHeartbeats 4000000 in
set_option maxRecDepth 100000 in
theorem k_X12_set_b38 {l : Launch} {D : va_G} {cy : Nat → ClassId} {ad : Nat → Nat} {Q : Int → MM → Prop} {J : Nat → List (Nat × Value) → List Value → MM → Prop} (hin : jIn ad ksR.length)   (hJ : jOk l D vwCl (tyR cy) cy ad ftR ksR (XtR ad) Om RX12 cX12_set 5 1 ({ frames := 307, cells := 0, slots := 0, locals := 8862 } : Room) Q J)  : ∀ (x1 x2 x3 s0 : Int) (M : MM), ri_ x1 → ri_ x2 → rl_ x3 → ri_ s0 → w_X12_set_b38  Q  x1 x2 x3 s0 M → J 38 [(0, .ref (ad 0)), (1, .int (Ii x1)), (2, .int (Ii x2)), (3, .long (Ll x3))] [.int (Ii s0), .ref (ad 0)] M := by
  intro x1 x2 x3 s0 M gx1 gx2 gx3 gs0 hF
  unfold w_X12_set_b38 at hF
  refine j_pi hJ gs0 kR_0 fR_15_0 rfl fp_X12_388 dX12_set_38 (fun M1 eM1 => ?_)
  have hF := hF M1 eM1
  refine j_aload_n hJ dX12_set_41 rfl 0 rfl ?_
  refine j_gi hJ kR_0 fR_15_0 rfl fl_X12_388 dX12_set_42 (fun v2 ev2 gv2 => ?_)
  have hF := hF v2 ev2 gv2
  refine j_if_le hJ 50 gv2 dX12_set_45 (by decide) (fun z3 => ?_) (fun z3 => ?_)
  · have hF := hF.1 z3
    refine j_aload_n hJ dX12_set_50 rfl 0 rfl ?_
    refine j_aload_n hJ dX12_set_51 rfl 0 rfl ?_
    refine j_aload_n hJ dX12_set_52 rfl 0 rfl ?_
    refine j_aload_n hJ dX12_set_53 rfl 0 rfl ?_
    refine j_gr (e := 19) hJ kR_0 fR_15_21 fl_X12_125 dX12_set_54 rfl ?_
    refine j_iload_n hJ dX12_set_57 rfl 1 rfl ?_
    refine j_iald hJ gx1 kR_19 hF.1 hF.2.1 dX12_set_58 (fun v4 ev4 gv4 => ?_)
    have hF := hF.2.2 v4 ev4 gv4
    refine j_iload_n hJ dX12_set_59 rfl 2 rfl ?_
    refine j_callVi hJ (c_X12_kindOf (l := l) (D := D) (cy := cy) (ad := ad) hin) rfl om_1093 ⟨rfl, rfl, Nat.le_of_ble_eq_true rfl, Nat.le_of_ble_eq_true rfl⟩ [.int (Ii v4), .int (Ii x2)] mv_X12_458 hd_X12_kindOfv kR_0 rfl rfl rfl (Nat.le_of_ble_eq_true rfl) dX12_set_60 ⟨v4, x2, rfl, gv4, gx2, hF⟩ (fun r5 M6 gr5 qM6 => ?_)
    have hF := qM6 gr5
    refine j_aload_n hJ dX12_set_63 rfl 0 rfl ?_
    refine j_aload_n hJ dX12_set_64 rfl 0 rfl ?_
    refine j_gr (e := 19) hJ kR_0 fR_15_21 fl_X12_125 dX12_set_65 rfl ?_
    refine j_iload_n hJ dX12_set_68 rfl 1 rfl ?_
    refine j_iald hJ gx1 kR_19 hF.1 hF.2.1 dX12_set_69 (fun v7 ev7 gv7 => ?_)
    have hF := hF.2.2 v7 ev7 gv7
    refine j_iload_n hJ dX12_set_70 rfl 2 rfl ?_
    refine j_callVi hJ (c_X12_kindOf (l := l) (D := D) (cy := cy) (ad := ad) hin) rfl om_1093 ⟨rfl, rfl, Nat.le_of_ble_eq_true rfl, Nat.le_of_ble_eq_true rfl⟩ [.int (Ii v7), .int (Ii x2)] mv_X12_458 hd_X12_kindOfv kR_0 rfl rfl rfl (Nat.le_of_ble_eq_true rfl) dX12_set_71 ⟨v7, x2, rfl, gv7, gx2, hF⟩ (fun r8 M9 gr8 qM9 => ?_)
    have hF := qM9 gr8
    refine j_iconst hJ dX12_set_74 ?_
    refine j_icmp_ne hJ 92 gr8 rk_5 dX12_set_75 (by decide) (fun z10 => ?_) (fun z10 => ?_)
    · have hF := hF.1 z10
      refine j_iconst hJ dX12_set_92 ?_
      exact j_sub hJ [0, 1, 2, 3] rfl (k_X12_set_b93 hin  hJ  x1 x2 x3 (-1) r5 _ gx1 gx2 gx3 rk_m1 gr5 hF)
    · have hF := hF.2 z10
      refine j_aload_n hJ dX12_set_78 rfl 0 rfl ?_
      refine j_aload_n hJ dX12_set_79 rfl 0 rfl ?_
      refine j_gr (e := 19) hJ kR_0 fR_15_21 fl_X12_125 dX12_set_80 rfl ?_
      refine j_iload_n hJ dX12_set_83 rfl 1 rfl ?_
      refine j_iald hJ gx1 kR_19 hF.1 hF.2.1 dX12_set_84 (fun v11 ev11 gv11 => ?_)
      have hF := hF.2.2 v11 ev11 gv11
      refine j_iload_n hJ dX12_set_85 rfl 2 rfl ?_
      refine j_callVi hJ (c_X12_linkOf (l := l) (D := D) (cy := cy) (ad := ad) hin) rfl om_1285 ⟨rfl, rfl, Nat.le_of_ble_eq_true rfl, Nat.le_of_ble_eq_true rfl⟩ [.int (Ii v11), .int (Ii x2)] mv_X12_492 hd_X12_linkOfv kR_0 rfl rfl rfl (Nat.le_of_ble_eq_true rfl) dX12_set_86 ⟨v11, x2, rfl, gv11, gx2, hF⟩ (fun r12 M13 gr12 qM13 => ?_)
      have hF := qM13 gr12
      refine j_goto hJ 93 dX12_set_89 (by decide) ?_
      exact j_sub hJ [0, 1, 2, 3] rfl (k_X12_set_b93 hin  hJ  x1 x2 x3 r12 r5 _ gx1 gx2 gx3 gr12 gr5 hF)
  · have hF := hF.2 z3
    refine j_iconst hJ dX12_set_48 ?_
    exact j_iret hJ rfl rk_0 dX12_set_49 hF
set_option maxHeartbeats 4000000 in
set_option maxRecDepth 100000 in
theorem k_X12_set_b33 {l : Launch} {D : va_G} {cy : Nat → ClassId} {ad : Nat → Nat} {Q : Int → MM → Prop} {J : Nat → List (Nat × Value) → List Value → MM → Prop} (hin : jIn ad ksR.length)   (hJ : jOk l D vwCl (tyR cy) cy ad ftR ksR (XtR ad) Om RX12 cX12_set 5 1 ({ frames := 307, cells := 0, slots := 0, locals := 8862 } : Room) Q J)  : ∀ (x1 x2 x3 : Int) (M : MM), ri_ x1 → ri_ x2 → rl_ x3 → w_X12_set_b33  Q  x1 x2 x3 M → J 33 [(0, .ref (ad 0)), (1, .int (Ii x1)), (2, .int (Ii x2)), (3, .long (Ll x3))] [.ref (ad 0)] M := by
  intro x1 x2 x3 M gx1 gx2 gx3 hF
  unfold w_X12_set_b33 at hF
  refine j_iconst hJ dX12_set_33 ?_
  refine j_goto hJ 38 dX12_set_34 (by decide) ?_
  exact j_sub hJ [0, 1, 2, 3] rfl (k_X12_set_b38 hin  hJ  x1 x2 x3 1 _ gx1 gx2 gx3 rk_1 hF)
set_option maxHeartbeats 4000000 in
set_option maxRecDepth 100000 in
theorem c_X12_set {l : Launch} {D : va_G} {cy : Nat → ClassId} {ad : Nat → Nat} (hin : jIn ad ksR.length) : jCN l D vwCl (tyR cy) cy ad ftR ksR (XtR ad) yX12_set (.code yX12_set cX12_set 5 (some .int) :: Om) ({ frames := 307, cells := 0, slots := 0, locals := 8862 } : Room) 1 (W_X12_set ad) := by
  refine jCN_of (y := yX12_set) (cc := cX12_set) (nL := 5) (rk := 1) (rm := ({ frames := 307, cells := 0, slots := 0, locals := 8862 } : Room)) (own := RX12) (tyR_ok cy) hin (XtR_ok ad) Om_good (by decide) rfl ?_
  intro Q av M hF
  obtain ⟨p1, p2, p3, rfl, gp1, gp2, gp3, hF⟩ := hF
  refine ⟨Nat.le_of_ble_eq_true rfl, fun J hJ => ?_⟩
  show J 0 [(0, .ref (ad 0)), (1, .int (Ii p1)), (2, .int (Ii p2)), (3, .long (Ll p3))] [] M
  unfold w_X12_set at hF
  refine j_aload_n hJ dX12_set_0 rfl 0 rfl ?_
  refine j_aload_n hJ dX12_set_1 rfl 0 rfl ?_
  refine j_iload_n hJ dX12_set_2 rfl 1 rfl ?_
  refine j_callVz hJ (c_X12_isObject (l := l) (D := D) (cy := cy) (ad := ad) hin) rfl om_1105 ⟨rfl, rfl, Nat.le_of_ble_eq_true rfl, Nat.le_of_ble_eq_true rfl⟩ [.int (Ii p1)] mv_X12_473 hd_X12_isObjectv kR_0 rfl rfl rfl (Nat.le_of_ble_eq_true rfl) dX12_set_3 ⟨p1, rfl, gp1, hF⟩ (fun r1 M2 gr1 qM2 => ?_)
  have hF := qM2 gr1
  refine j_if_eq hJ 33 (jz_ri gr1) dX12_set_6 (by decide) (fun z3 => ?_) (fun z3 => ?_)
  · have hF := hF.1 z3
    exact j_sub hJ [0, 1, 2, 3] rfl (k_X12_set_b33 hin  hJ  p1 p2 p3 _ gp1 gp2 gp3 hF)
  · have hF := hF.2 z3
    refine j_iload_n hJ dX12_set_9 rfl 2 rfl ?_
    refine j_if_lt hJ 33 gp2 dX12_set_10 (by decide) (fun z4 => ?_) (fun z4 => ?_)
    · have hF := hF.1 z4
      exact j_sub hJ [0, 1, 2, 3] rfl (k_X12_set_b33 hin  hJ  p1 p2 p3 _ gp1 gp2 gp3 hF)
    · have hF := hF.2 z4
      refine j_iload_n hJ dX12_set_13 rfl 2 rfl ?_
      refine j_aload_n hJ dX12_set_14 rfl 0 rfl ?_
      refine j_aload_n hJ dX12_set_15 rfl 0 rfl ?_
      refine j_gr (e := 19) hJ kR_0 fR_15_21 fl_X12_125 dX12_set_16 rfl ?_
      refine j_iload_n hJ dX12_set_19 rfl 1 rfl ?_
      refine j_iald hJ gp1 kR_19 hF.1 hF.2.1 dX12_set_20 (fun v5 ev5 gv5 => ?_)
      have hF := hF.2.2 v5 ev5 gv5
      refine j_aload_n hJ dX12_set_21 rfl 0 rfl ?_
      refine j_gr (e := 20) hJ kR_0 fR_15_22 fl_X12_128 dX12_set_22 rfl ?_
      refine j_iload_n hJ dX12_set_25 rfl 1 rfl ?_
      refine j_iald hJ gp1 kR_20 hF.1 hF.2.1 dX12_set_26 (fun v6 ev6 gv6 => ?_)
      have hF := hF.2.2 v6 ev6 gv6
      refine j_callVi hJ (c_X12_slotCount (l := l) (D := D) (cy := cy) (ad := ad) hin) rfl om_1089 ⟨rfl, rfl, Nat.le_of_ble_eq_true rfl, Nat.le_of_ble_eq_true rfl⟩ [.int (Ii v5), .int (Ii v6)] mv_X12_455 hd_X12_slotCountv kR_0 rfl rfl rfl (Nat.le_of_ble_eq_true rfl) dX12_set_27 ⟨v5, v6, rfl, gv5, gv6, hF⟩ (fun r7 M8 gr7 qM8 => ?_)
      have hF := qM8 gr7
      refine j_icmp_lt hJ 37 gp2 gr7 dX12_set_30 (by decide) (fun z9 => ?_) (fun z9 => ?_)
      · have hF := hF.1 z9
        refine j_iconst hJ dX12_set_37 ?_
        exact j_sub hJ [0, 1, 2, 3] rfl (k_X12_set_b38 hin  hJ  p1 p2 p3 0 _ gp1 gp2 gp3 rk_0 hF)
      · have hF := hF.2 z9
        exact j_sub hJ [0, 1, 2, 3] rfl (k_X12_set_b33 hin  hJ  p1 p2 p3 _ gp1 gp2 gp3 hF)
def W_X12_staticOf (ad : Nat → Nat) (Q : Int → MM → Prop) (av : List Value) (M : MM) : Prop := ∃ (p1 : Int) (p2 : Int), av = [.ref (ad 0), .int (Ii p1), .int (Ii p2)] ∧ ri_ p1 ∧ ri_ p2 ∧ w_X12_staticOf  Q p1 p2 M
set_option maxHeartbeats 4000000 in
set_option maxRecDepth 100000 in
theorem k_X12_staticOf_b66 {l : Launch} {D : va_G} {cy : Nat → ClassId} {ad : Nat → Nat} {Q : Int → MM → Prop} {J : Nat → List (Nat × Value) → List Value → MM → Prop} (hin : jIn ad ksR.length)   (hJ : jOk l D vwCl (tyR cy) cy ad ftR ksR (XtR ad) Om RX12 cX12_staticOf 5 1 ({ frames := 1, cells := 0, slots := 0, locals := 21 } : Room) Q J) {K5 : Int → Int → Int → Int → MM → Prop} (hK5 : ∀ (x1 x2 x3 x4 : Int) (M : MM), ri_ x1 → ri_ x2 → ri_ x3 → ri_ x4 → K5 x1 x2 x3 x4 M → J 5 [(0, .ref (ad 0)), (1, .int (Ii x1)), (2, .int (Ii x2)), (3, .int (Ii x3)), (4, .int (Ii x4))] [] M) : ∀ (x1 x2 x4 s0 : Int) (M : MM), ri_ x1 → ri_ x2 → ri_ x4 → ri_ s0 → w_X12_staticOf_b66  Q K5 x1 x2 x4 s0 M → J 66 [(0, .ref (ad 0)), (1, .int (Ii x1)), (2, .int (Ii x2)), (4, .int (Ii x4))] [.int (Ii s0)] M := by
  intro x1 x2 x4 s0 M gx1 gx2 gx4 gs0 hF
  unfold w_X12_staticOf_b66 at hF
  refine j_istore_n (lv' := [(3, .int (Ii s0)), (0, .ref (ad 0)), (1, .int (Ii x1)), (2, .int (Ii x2)), (4, .int (Ii x4))]) hJ dX12_staticOf_66 rfl (by decide) rfl ?_
  refine j_iinc (lv' := [(4, .int (Ii (x4 + 1))), (3, .int (Ii s0)), (0, .ref (ad 0)), (1, .int (Ii x1)), (2, .int (Ii x2))]) (k := 4) hJ dX12_staticOf_67 rfl (by decide) rfl ?_
  have g1 := hF.1; have hF := hF.2
  refine j_goto hJ 5 dX12_staticOf_70 (by decide) ?_
  exact j_sub hJ [2, 3, 4, 1, 0] rfl (hK5 x1 x2 s0 (x4 + 1) _ gx1 gx2 gs0 g1 hF)
set_option maxHeartbeats 4000000 in
set_option maxRecDepth 100000 in
theorem k_X12_staticOf_b65 {l : Launch} {D : va_G} {cy : Nat → ClassId} {ad : Nat → Nat} {Q : Int → MM → Prop} {J : Nat → List (Nat × Value) → List Value → MM → Prop} (hin : jIn ad ksR.length)   (hJ : jOk l D vwCl (tyR cy) cy ad ftR ksR (XtR ad) Om RX12 cX12_staticOf 5 1 ({ frames := 1, cells := 0, slots := 0, locals := 21 } : Room) Q J) {K5 : Int → Int → Int → Int → MM → Prop} (hK5 : ∀ (x1 x2 x3 x4 : Int) (M : MM), ri_ x1 → ri_ x2 → ri_ x3 → ri_ x4 → K5 x1 x2 x3 x4 M → J 5 [(0, .ref (ad 0)), (1, .int (Ii x1)), (2, .int (Ii x2)), (3, .int (Ii x3)), (4, .int (Ii x4))] [] M) : ∀ (x1 x2 x3 x4 : Int) (M : MM), ri_ x1 → ri_ x2 → ri_ x3 → ri_ x4 → w_X12_staticOf_b65  Q K5 x1 x2 x3 x4 M → J 65 [(0, .ref (ad 0)), (1, .int (Ii x1)), (2, .int (Ii x2)), (3, .int (Ii x3)), (4, .int (Ii x4))] [] M := by
  intro x1 x2 x3 x4 M gx1 gx2 gx3 gx4 hF
  unfold w_X12_staticOf_b65 at hF
  refine j_iload_n hJ dX12_staticOf_65 rfl 3 rfl ?_
  exact j_sub hJ [0, 1, 2, 4] rfl (k_X12_staticOf_b66 hin  hJ hK5 x1 x2 x4 x3 _ gx1 gx2 gx4 gx3 hF)
set_option maxHeartbeats 4000000 in
set_option maxRecDepth 100000 in
theorem k_X12_staticOf_b5 {l : Launch} {D : va_G} {cy : Nat → ClassId} {ad : Nat → Nat} {Q : Int → MM → Prop} {J : Nat → List (Nat × Value) → List Value → MM → Prop} (hin : jIn ad ksR.length)   (hJ : jOk l D vwCl (tyR cy) cy ad ftR ksR (XtR ad) Om RX12 cX12_staticOf 5 1 ({ frames := 1, cells := 0, slots := 0, locals := 21 } : Room) Q J)  : ∀ (x1 x2 x3 x4 : Int) (M : MM), ri_ x1 → ri_ x2 → ri_ x3 → ri_ x4 → w_X12_staticOf_b5  Q  x1 x2 x3 x4 M → J 5 [(0, .ref (ad 0)), (1, .int (Ii x1)), (2, .int (Ii x2)), (3, .int (Ii x3)), (4, .int (Ii x4))] [] M := by
  have H9 : ∀ (n : Nat) (x1 x2 x3 x4 : Int) (M : MM), ri_ x1 → ri_ x2 → ri_ x3 → ri_ x4 → jit (fun _ _ _ _ _ => False) (wb_X12_staticOf_b5  Q ) n x1 x2 x3 x4 M → J 5 [(0, .ref (ad 0)), (1, .int (Ii x1)), (2, .int (Ii x2)), (3, .int (Ii x3)), (4, .int (Ii x4))] [] M := by
    intro n
    induction n with
    | zero => intro x1 x2 x3 x4 M gx1 gx2 gx3 gx4 hF; exact False.elim hF
    | succ n ih =>
    intro x1 x2 x3 x4 M gx1 gx2 gx3 gx4 hF
    have hF : wb_X12_staticOf_b5  Q  (jit (fun _ _ _ _ _ => False) (wb_X12_staticOf_b5  Q ) n) x1 x2 x3 x4 M := hF
    unfold wb_X12_staticOf_b5 at hF
    refine j_aload_n hJ dX12_staticOf_5 rfl 0 rfl ?_
    refine j_iload_n hJ dX12_staticOf_6 rfl 1 rfl ?_
    refine j_callVz hJ (c_X12_isClass (l := l) (D := D) (cy := cy) (ad := ad) hin) rfl om_1064 ⟨rfl, rfl, Nat.le_of_ble_eq_true rfl, Nat.le_of_ble_eq_true rfl⟩ [.int (Ii x1)] mv_X12_416 hd_X12_isClassv kR_0 rfl rfl rfl (Nat.le_of_ble_eq_true rfl) dX12_staticOf_7 ⟨x1, rfl, gx1, hF⟩ (fun r1 M2 gr1 qM2 => ?_)
    have hF := qM2 gr1
    refine j_if_eq hJ 73 (jz_ri gr1) dX12_staticOf_10 (by decide) (fun z3 => ?_) (fun z3 => ?_)
    · have hF := hF.1 z3
      refine j_iload_n hJ dX12_staticOf_73 rfl 3 rfl ?_
      exact j_iret hJ rfl gx3 dX12_staticOf_74 hF
    · have hF := hF.2 z3
      refine j_iload hJ dX12_staticOf_13 4 rfl ?_
      refine j_aload_n hJ dX12_staticOf_15 rfl 0 rfl ?_
      refine j_gr (e := 9) hJ kR_0 fR_15_10 fl_X12_94 dX12_staticOf_16 rfl ?_
      refine j_iload_n hJ dX12_staticOf_19 rfl 1 rfl ?_
      refine j_iald hJ gx1 kR_9 hF.1 hF.2.1 dX12_staticOf_20 (fun v4 ev4 gv4 => ?_)
      have hF := hF.2.2 v4 ev4 gv4
      refine j_icmp_ge hJ 73 gx4 gv4 dX12_staticOf_21 (by decide) (fun z5 => ?_) (fun z5 => ?_)
      · have hF := hF.1 z5
        refine j_iload_n hJ dX12_staticOf_73 rfl 3 rfl ?_
        exact j_iret hJ rfl gx3 dX12_staticOf_74 hF
      · have hF := hF.2 z5
        refine j_aload_n hJ dX12_staticOf_24 rfl 0 rfl ?_
        refine j_gr (e := 17) hJ kR_0 fR_15_18 fl_X12_119 dX12_staticOf_25 rfl ?_
        refine j_bipush hJ dX12_staticOf_28 (by decide) ?_
        refine j_iload_n hJ dX12_staticOf_30 rfl 1 rfl ?_
        refine j_imul hJ dX12_staticOf_31 ?_
        have g6 := hF.1; have hF := hF.2
        refine j_iload hJ dX12_staticOf_32 4 rfl ?_
        refine j_iadd hJ dX12_staticOf_34 ?_
        have g7 := hF.1; have hF := hF.2
        refine j_zald hJ g7 kR_17 hF.1 hF.2.1 dX12_staticOf_35 (fun v8 ev8 gv8 => ?_)
        have hF := hF.2.2 v8 ev8 gv8
        refine j_if_eq hJ 65 (jz_ri gv8) dX12_staticOf_36 (by decide) (fun z9 => ?_) (fun z9 => ?_)
        · have hF := hF.1 z9
          exact j_sub hJ [0, 1, 2, 3, 4] rfl (k_X12_staticOf_b65 hin  hJ ih x1 x2 x3 x4 _ gx1 gx2 gx3 gx4 hF)
        · have hF := hF.2 z9
          refine j_aload_n hJ dX12_staticOf_39 rfl 0 rfl ?_
          refine j_gr (e := 14) hJ kR_0 fR_15_15 fl_X12_109 dX12_staticOf_40 rfl ?_
          refine j_bipush hJ dX12_staticOf_43 (by decide) ?_
          refine j_iload_n hJ dX12_staticOf_45 rfl 1 rfl ?_
          refine j_imul hJ dX12_staticOf_46 ?_
          have g10 := hF.1; have hF := hF.2
          refine j_iload hJ dX12_staticOf_47 4 rfl ?_
          refine j_iadd hJ dX12_staticOf_49 ?_
          have g11 := hF.1; have hF := hF.2
          refine j_iald hJ g11 kR_14 hF.1 hF.2.1 dX12_staticOf_50 (fun v12 ev12 gv12 => ?_)
          have hF := hF.2.2 v12 ev12 gv12
          refine j_iload_n hJ dX12_staticOf_51 rfl 2 rfl ?_
          refine j_icmp_ne hJ 65 gv12 gx2 dX12_staticOf_52 (by decide) (fun z13 => ?_) (fun z13 => ?_)
          · have hF := hF.1 z13
            exact j_sub hJ [0, 1, 2, 3, 4] rfl (k_X12_staticOf_b65 hin  hJ ih x1 x2 x3 x4 _ gx1 gx2 gx3 gx4 hF)
          · have hF := hF.2 z13
            refine j_bipush hJ dX12_staticOf_55 (by decide) ?_
            refine j_iload_n hJ dX12_staticOf_57 rfl 1 rfl ?_
            refine j_imul hJ dX12_staticOf_58 ?_
            have g14 := hF.1; have hF := hF.2
            refine j_iload hJ dX12_staticOf_59 4 rfl ?_
            refine j_iadd hJ dX12_staticOf_61 ?_
            have g15 := hF.1; have hF := hF.2
            refine j_goto hJ 66 dX12_staticOf_62 (by decide) ?_
            exact j_sub hJ [0, 1, 2, 4] rfl (k_X12_staticOf_b66 hin  hJ ih x1 x2 x4 ((6 * x1) + x4) _ gx1 gx2 gx4 g15 hF)
  intro x1 x2 x3 x4 M gx1 gx2 gx3 gx4 hF
  obtain ⟨n, hF⟩ := hF
  exact H9 n x1 x2 x3 x4 M gx1 gx2 gx3 gx4 hF
set_option maxHeartbeats 4000000 in
set_option maxRecDepth 100000 in
theorem c_X12_staticOf {l : Launch} {D : va_G} {cy : Nat → ClassId} {ad : Nat → Nat} (hin : jIn ad ksR.length) : jCN l D vwCl (tyR cy) cy ad ftR ksR (XtR ad) yX12_staticOf (.code yX12_staticOf cX12_staticOf 5 (some .int) :: Om) ({ frames := 1, cells := 0, slots := 0, locals := 21 } : Room) 1 (W_X12_staticOf ad) := by
  refine jCN_of (y := yX12_staticOf) (cc := cX12_staticOf) (nL := 5) (rk := 1) (rm := ({ frames := 1, cells := 0, slots := 0, locals := 21 } : Room)) (own := RX12) (tyR_ok cy) hin (XtR_ok ad) Om_good (by decide) rfl ?_
  intro Q av M hF
  obtain ⟨p1, p2, rfl, gp1, gp2, hF⟩ := hF
  refine ⟨Nat.le_of_ble_eq_true rfl, fun J hJ => ?_⟩
  show J 0 [(0, .ref (ad 0)), (1, .int (Ii p1)), (2, .int (Ii p2))] [] M
  unfold w_X12_staticOf at hF
  refine j_iconst hJ dX12_staticOf_0 ?_
  refine j_istore_n (lv' := [(3, .int (Ii (-1))), (0, .ref (ad 0)), (1, .int (Ii p1)), (2, .int (Ii p2))]) hJ dX12_staticOf_1 rfl (by decide) rfl ?_
  refine j_iconst hJ dX12_staticOf_2 ?_
  refine j_istore (lv' := [(4, .int (Ii 0)), (3, .int (Ii (-1))), (0, .ref (ad 0)), (1, .int (Ii p1)), (2, .int (Ii p2))]) hJ dX12_staticOf_3 (by decide) rfl ?_
  exact j_sub hJ [2, 3, 4, 1, 0] rfl (k_X12_staticOf_b5 hin  hJ  p1 p2 (-1) 0 _ gp1 gp2 rk_m1 rk_0 hF)
def W_X12_setStatic (ad : Nat → Nat) (Q : Int → MM → Prop) (av : List Value) (M : MM) : Prop := ∃ (p1 : Int) (p2 : Int) (p3 : Int), av = [.ref (ad 0), .int (Ii p1), .int (Ii p2), .long (Ll p3)] ∧ ri_ p1 ∧ ri_ p2 ∧ rl_ p3 ∧ w_X12_setStatic  Q p1 p2 p3 M
set_option maxHeartbeats 4000000 in
set_option maxRecDepth 100000 in
theorem k_X12_setStatic_b60 {l : Launch} {D : va_G} {cy : Nat → ClassId} {ad : Nat → Nat} {Q : Int → MM → Prop} {J : Nat → List (Nat × Value) → List Value → MM → Prop} (hin : jIn ad ksR.length)   (hJ : jOk l D vwCl (tyR cy) cy ad ftR ksR (XtR ad) Om RX12 cX12_setStatic 6 1 ({ frames := 307, cells := 0, slots := 0, locals := 8862 } : Room) Q J)  : ∀ (x3 x5 s0 : Int) (M : MM), rl_ x3 → ri_ x5 → ri_ s0 → w_X12_setStatic_b60  Q  x3 x5 s0 M → J 60 [(0, .ref (ad 0)), (3, .long (Ll x3)), (5, .int (Ii x5))] [.int (Ii s0), .ref (ad 0)] M := by
  intro x3 x5 s0 M gx3 gx5 gs0 hF
  unfold w_X12_setStatic_b60 at hF
  refine j_pi hJ gs0 kR_0 fR_15_0 rfl fp_X12_388 dX12_setStatic_60 (fun M1 eM1 => ?_)
  have hF := hF M1 eM1
  refine j_aload_n hJ dX12_setStatic_63 rfl 0 rfl ?_
  refine j_gi hJ kR_0 fR_15_0 rfl fl_X12_388 dX12_setStatic_64 (fun v2 ev2 gv2 => ?_)
  have hF := hF v2 ev2 gv2
  refine j_if_le hJ 72 gv2 dX12_setStatic_67 (by decide) (fun z3 => ?_) (fun z3 => ?_)
  · have hF := hF.1 z3
    refine j_aload_n hJ dX12_setStatic_72 rfl 0 rfl ?_
    refine j_iconst hJ dX12_setStatic_73 ?_
    refine j_iload hJ dX12_setStatic_74 2 rfl ?_
    refine j_lload_n hJ dX12_setStatic_76 rfl 1 rfl ?_
    refine j_callVv hJ (c_X12_write (l := l) (D := D) (cy := cy) (ad := ad) hin) rfl om_1121 ⟨rfl, rfl, Nat.le_of_ble_eq_true rfl, Nat.le_of_ble_eq_true rfl⟩ [.int (Ii (-1)), .int (Ii x5), .long (Ll x3)] mv_X12_499 hd_X12_writev kR_0 rfl rfl rfl (Nat.le_of_ble_eq_true rfl) dX12_setStatic_77 ⟨(-1), x5, x3, rfl, rk_m1, gx5, gx3, hF⟩ (fun M5 qM5 => ?_)
    have hF := qM5
    refine j_aload_n hJ dX12_setStatic_80 rfl 0 rfl ?_
    refine j_aload_n hJ dX12_setStatic_81 rfl 0 rfl ?_
    refine j_gi hJ kR_0 fR_15_29 rfl fl_X12_482 dX12_setStatic_82 (fun v6 ev6 gv6 => ?_)
    have hF := hF v6 ev6 gv6
    refine j_iconst hJ dX12_setStatic_85 ?_
    refine j_isub hJ dX12_setStatic_86 ?_
    have g7 := hF.1; have hF := hF.2
    refine j_callVv hJ (c_X12_lookAtPromises (l := l) (D := D) (cy := cy) (ad := ad) hin) rfl om_1281 ⟨rfl, rfl, Nat.le_of_ble_eq_true rfl, Nat.le_of_ble_eq_true rfl⟩ [.int (Ii (v6 - 1))] mv_X12_503 hd_X12_lookAtPromisesv kR_0 rfl rfl rfl (Nat.le_of_ble_eq_true rfl) dX12_setStatic_87 ⟨(v6 - 1), rfl, g7, hF⟩ (fun M9 qM9 => ?_)
    have hF := qM9
    refine j_aload_n hJ dX12_setStatic_90 rfl 0 rfl ?_
    refine j_gi hJ kR_0 fR_15_29 rfl fl_X12_482 dX12_setStatic_91 (fun v10 ev10 gv10 => ?_)
    have hF := hF v10 ev10 gv10
    refine j_iconst hJ dX12_setStatic_94 ?_
    refine j_isub hJ dX12_setStatic_95 ?_
    have g11 := hF.1; have hF := hF.2
    exact j_iret hJ rfl g11 dX12_setStatic_96 hF
  · have hF := hF.2 z3
    refine j_iconst hJ dX12_setStatic_70 ?_
    exact j_iret hJ rfl rk_0 dX12_setStatic_71 hF
set_option maxHeartbeats 4000000 in
set_option maxRecDepth 100000 in
theorem k_X12_setStatic_b20 {l : Launch} {D : va_G} {cy : Nat → ClassId} {ad : Nat → Nat} {Q : Int → MM → Prop} {J : Nat → List (Nat × Value) → List Value → MM → Prop} (hin : jIn ad ksR.length)   (hJ : jOk l D vwCl (tyR cy) cy ad ftR ksR (XtR ad) Om RX12 cX12_setStatic 6 1 ({ frames := 307, cells := 0, slots := 0, locals := 8862 } : Room) Q J)  : ∀ (x3 x5 s0 : Int) (M : MM), rl_ x3 → ri_ x5 → ri_ s0 → w_X12_setStatic_b20  Q  x3 x5 s0 M → J 20 [(0, .ref (ad 0)), (3, .long (Ll x3)), (5, .int (Ii x5))] [.int (Ii s0), .ref (ad 0)] M := by
  intro x3 x5 s0 M gx3 gx5 gs0 hF
  unfold w_X12_setStatic_b20 at hF
  refine j_pi hJ gs0 kR_0 fR_15_0 rfl fp_X12_388 dX12_setStatic_20 (fun M1 eM1 => ?_)
  have hF := hF M1 eM1
  refine j_aload_n hJ dX12_setStatic_23 rfl 0 rfl ?_
  refine j_gi hJ kR_0 fR_15_0 rfl fl_X12_388 dX12_setStatic_24 (fun v2 ev2 gv2 => ?_)
  have hF := hF v2 ev2 gv2
  refine j_if_le hJ 32 gv2 dX12_setStatic_27 (by decide) (fun z3 => ?_) (fun z3 => ?_)
  · have hF := hF.1 z3
    refine j_aload_n hJ dX12_setStatic_32 rfl 0 rfl ?_
    refine j_aload_n hJ dX12_setStatic_33 rfl 0 rfl ?_
    refine j_aload_n hJ dX12_setStatic_34 rfl 0 rfl ?_
    refine j_gr (e := 12) hJ kR_0 fR_15_13 fl_X12_103 dX12_setStatic_35 rfl ?_
    refine j_iload hJ dX12_setStatic_38 2 rfl ?_
    refine j_iald hJ gx5 kR_12 hF.1 hF.2.1 dX12_setStatic_40 (fun v4 ev4 gv4 => ?_)
    have hF := hF.2.2 v4 ev4 gv4
    refine j_aload_n hJ dX12_setStatic_41 rfl 0 rfl ?_
    refine j_gr (e := 13) hJ kR_0 fR_15_14 fl_X12_106 dX12_setStatic_42 rfl ?_
    refine j_iload hJ dX12_setStatic_45 2 rfl ?_
    refine j_iald hJ gx5 kR_13 hF.1 hF.2.1 dX12_setStatic_47 (fun v5 ev5 gv5 => ?_)
    have hF := hF.2.2 v5 ev5 gv5
    refine j_lload_n hJ dX12_setStatic_48 rfl 1 rfl ?_
    refine j_callVz hJ (c_X12_isOfKind (l := l) (D := D) (cy := cy) (ad := ad) hin) rfl om_1117 ⟨rfl, rfl, Nat.le_of_ble_eq_true rfl, Nat.le_of_ble_eq_true rfl⟩ [.int (Ii v4), .int (Ii v5), .long (Ll x3)] mv_X12_495 hd_X12_isOfKindv kR_0 rfl rfl rfl (Nat.le_of_ble_eq_true rfl) dX12_setStatic_49 ⟨v4, v5, x3, rfl, gv4, gv5, gx3, hF⟩ (fun r6 M7 gr6 qM7 => ?_)
    have hF := qM7 gr6
    refine j_if_eq hJ 59 (jz_ri gr6) dX12_setStatic_52 (by decide) (fun z8 => ?_) (fun z8 => ?_)
    · have hF := hF.1 z8
      refine j_iconst hJ dX12_setStatic_59 ?_
      exact j_sub hJ [0, 1, 2] rfl (k_X12_setStatic_b60 hin  hJ  x3 x5 2 _ gx3 gx5 rk_2 hF)
    · have hF := hF.2 z8
      refine j_iconst hJ dX12_setStatic_55 ?_
      refine j_goto hJ 60 dX12_setStatic_56 (by decide) ?_
      exact j_sub hJ [0, 1, 2] rfl (k_X12_setStatic_b60 hin  hJ  x3 x5 0 _ gx3 gx5 rk_0 hF)
  · have hF := hF.2 z3
    refine j_iconst hJ dX12_setStatic_30 ?_
    exact j_iret hJ rfl rk_0 dX12_setStatic_31 hF
set_option maxHeartbeats 4000000 in
set_option maxRecDepth 100000 in
theorem c_X12_setStatic {l : Launch} {D : va_G} {cy : Nat → ClassId} {ad : Nat → Nat} (hin : jIn ad ksR.length) : jCN l D vwCl (tyR cy) cy ad ftR ksR (XtR ad) yX12_setStatic (.code yX12_setStatic cX12_setStatic 6 (some .int) :: Om) ({ frames := 307, cells := 0, slots := 0, locals := 8862 } : Room) 1 (W_X12_setStatic ad) := by
  refine jCN_of (y := yX12_setStatic) (cc := cX12_setStatic) (nL := 6) (rk := 1) (rm := ({ frames := 307, cells := 0, slots := 0, locals := 8862 } : Room)) (own := RX12) (tyR_ok cy) hin (XtR_ok ad) Om_good (by decide) rfl ?_
  intro Q av M hF
  obtain ⟨p1, p2, p3, rfl, gp1, gp2, gp3, hF⟩ := hF
  refine ⟨Nat.le_of_ble_eq_true rfl, fun J hJ => ?_⟩
  show J 0 [(0, .ref (ad 0)), (1, .int (Ii p1)), (2, .int (Ii p2)), (3, .long (Ll p3))] [] M
  unfold w_X12_setStatic at hF
  refine j_aload_n hJ dX12_setStatic_0 rfl 0 rfl ?_
  refine j_iload_n hJ dX12_setStatic_1 rfl 1 rfl ?_
  refine j_iload_n hJ dX12_setStatic_2 rfl 2 rfl ?_
  refine j_callVi hJ (c_X12_staticOf (l := l) (D := D) (cy := cy) (ad := ad) hin) rfl om_1289 ⟨rfl, rfl, Nat.le_of_ble_eq_true rfl, Nat.le_of_ble_eq_true rfl⟩ [.int (Ii p1), .int (Ii p2)] mv_X12_506 hd_X12_staticOfv kR_0 rfl rfl rfl (Nat.le_of_ble_eq_true rfl) dX12_setStatic_3 ⟨p1, p2, rfl, gp1, gp2, hF⟩ (fun r1 M2 gr1 qM2 => ?_)
  have hF := qM2 gr1
  refine j_istore (lv' := [(5, .int (Ii r1)), (0, .ref (ad 0)), (1, .int (Ii p1)), (2, .int (Ii p2)), (3, .long (Ll p3))]) hJ dX12_setStatic_6 (by decide) rfl ?_
  refine j_aload_n hJ dX12_setStatic_8 rfl 1 rfl ?_
  refine j_iload hJ dX12_setStatic_9 0 rfl ?_
  refine j_iconst hJ dX12_setStatic_11 ?_
  refine j_icmp_ne hJ 19 gr1 rk_m1 dX12_setStatic_12 (by decide) (fun z3 => ?_) (fun z3 => ?_)
  · have hF := hF.1 z3
    refine j_iconst hJ dX12_setStatic_19 ?_
    exact j_sub hJ [1, 4, 0] rfl (k_X12_setStatic_b20 hin  hJ  p3 r1 0 _ gp3 gr1 rk_0 hF)
  · have hF := hF.2 z3
    refine j_iconst hJ dX12_setStatic_15 ?_
    refine j_goto hJ 20 dX12_setStatic_16 (by decide) ?_
    exact j_sub hJ [1, 4, 0] rfl (k_X12_setStatic_b20 hin  hJ  p3 r1 1 _ gp3 gr1 rk_1 hF)
def W_X12_get (ad : Nat → Nat) (Q : Int → MM → Prop) (av : List Value) (M : MM) : Prop := ∃ (p1 : Int) (p2 : Int), av = [.ref (ad 0), .int (Ii p1), .int (Ii p2)] ∧ ri_ p1 ∧ ri_ p2 ∧ w_X12_get  Q p1 p2 M
set_option maxHeartbeats 4000000 in
set_option maxRecDepth 100000 in
theorem k_X12_get_b38 {l : Launch} {D : va_G} {cy : Nat → ClassId} {ad : Nat → Nat} {Q : Int → MM → Prop} {J : Nat → List (Nat × Value) → List Value → MM → Prop} (hin : jIn ad ksR.length)   (hJ : jOk l D vwCl (tyR cy) cy ad ftR ksR (XtR ad) Om RX12 cX12_get 3 2 ({ frames := 2, cells := 0, slots := 0, locals := 43 } : Room) Q J)  : ∀ (x1 x2 s0 : Int) (M : MM), ri_ x1 → ri_ x2 → ri_ s0 → w_X12_get_b38  Q  x1 x2 s0 M → J 38 [(0, .ref (ad 0)), (1, .int (Ii x1)), (2, .int (Ii x2))] [.int (Ii s0), .ref (ad 0)] M := by
  intro x1 x2 s0 M gx1 gx2 gs0 hF
  unfold w_X12_get_b38 at hF
  refine j_pi hJ gs0 kR_0 fR_15_0 rfl fp_X12_388 dX12_get_38 (fun M1 eM1 => ?_)
  have hF := hF M1 eM1
  refine j_aload_n hJ dX12_get_41 rfl 0 rfl ?_
  refine j_gi hJ kR_0 fR_15_0 rfl fl_X12_388 dX12_get_42 (fun v2 ev2 gv2 => ?_)
  have hF := hF v2 ev2 gv2
  refine j_if_le hJ 52 gv2 dX12_get_45 (by decide) (fun z3 => ?_) (fun z3 => ?_)
  · have hF := hF.1 z3
    refine j_aload_n hJ dX12_get_52 rfl 0 rfl ?_
    refine j_gr (e := 23) hJ kR_0 fR_15_25 fl_X12_138 dX12_get_53 rfl ?_
    refine j_aload_n hJ dX12_get_56 rfl 0 rfl ?_
    refine j_gr (e := 21) hJ kR_0 fR_15_23 fl_X12_131 dX12_get_57 rfl ?_
    refine j_iload_n hJ dX12_get_60 rfl 1 rfl ?_
    refine j_iald hJ gx1 kR_21 hF.1 hF.2.1 dX12_get_61 (fun v4 ev4 gv4 => ?_)
    have hF := hF.2.2 v4 ev4 gv4
    refine j_iload_n hJ dX12_get_62 rfl 2 rfl ?_
    refine j_iadd hJ dX12_get_63 ?_
    have g5 := hF.1; have hF := hF.2
    refine j_lald hJ g5 kR_23 hF.1 hF.2.1 dX12_get_64 (fun v6 ev6 gv6 => ?_)
    have hF := hF.2.2 v6 ev6 gv6
    exact j_lret hJ rfl gv6 dX12_get_65 hF
  · have hF := hF.2 z3
    refine j_lconst (x := 0) hJ dX12_get_48 rfl ?_
    refine j_goto hJ 65 dX12_get_49 (by decide) ?_
    exact j_lret hJ rfl lkm_0 dX12_get_65 hF
set_option maxHeartbeats 4000000 in
set_option maxRecDepth 100000 in
theorem k_X12_get_b33 {l : Launch} {D : va_G} {cy : Nat → ClassId} {ad : Nat → Nat} {Q : Int → MM → Prop} {J : Nat → List (Nat × Value) → List Value → MM → Prop} (hin : jIn ad ksR.length)   (hJ : jOk l D vwCl (tyR cy) cy ad ftR ksR (XtR ad) Om RX12 cX12_get 3 2 ({ frames := 2, cells := 0, slots := 0, locals := 43 } : Room) Q J)  : ∀ (x1 x2 : Int) (M : MM), ri_ x1 → ri_ x2 → w_X12_get_b33  Q  x1 x2 M → J 33 [(0, .ref (ad 0)), (1, .int (Ii x1)), (2, .int (Ii x2))] [.ref (ad 0)] M := by
  intro x1 x2 M gx1 gx2 hF
  unfold w_X12_get_b33 at hF
  refine j_iconst hJ dX12_get_33 ?_
  refine j_goto hJ 38 dX12_get_34 (by decide) ?_
  exact j_sub hJ [0, 1, 2] rfl (k_X12_get_b38 hin  hJ  x1 x2 1 _ gx1 gx2 rk_1 hF)
set_option maxHeartbeats 4000000 in
set_option maxRecDepth 100000 in
theorem c_X12_get {l : Launch} {D : va_G} {cy : Nat → ClassId} {ad : Nat → Nat} (hin : jIn ad ksR.length) : jCN l D vwCl (tyR cy) cy ad ftR ksR (XtR ad) yX12_get (.code yX12_get cX12_get 3 (some .long) :: Om) ({ frames := 2, cells := 0, slots := 0, locals := 43 } : Room) 2 (W_X12_get ad) := by
  refine jCN_of (y := yX12_get) (cc := cX12_get) (nL := 3) (rk := 2) (rm := ({ frames := 2, cells := 0, slots := 0, locals := 43 } : Room)) (own := RX12) (tyR_ok cy) hin (XtR_ok ad) Om_good (by decide) rfl ?_
  intro Q av M hF
  obtain ⟨p1, p2, rfl, gp1, gp2, hF⟩ := hF
  refine ⟨Nat.le_of_ble_eq_true rfl, fun J hJ => ?_⟩
  show J 0 [(0, .ref (ad 0)), (1, .int (Ii p1)), (2, .int (Ii p2))] [] M
  unfold w_X12_get at hF
  refine j_aload_n hJ dX12_get_0 rfl 0 rfl ?_
  refine j_aload_n hJ dX12_get_1 rfl 0 rfl ?_
  refine j_iload_n hJ dX12_get_2 rfl 1 rfl ?_
  refine j_callVz hJ (c_X12_isObject (l := l) (D := D) (cy := cy) (ad := ad) hin) rfl om_1105 ⟨rfl, rfl, Nat.le_of_ble_eq_true rfl, Nat.le_of_ble_eq_true rfl⟩ [.int (Ii p1)] mv_X12_473 hd_X12_isObjectv kR_0 rfl rfl rfl (Nat.le_of_ble_eq_true rfl) dX12_get_3 ⟨p1, rfl, gp1, hF⟩ (fun r1 M2 gr1 qM2 => ?_)
  have hF := qM2 gr1
  refine j_if_eq hJ 33 (jz_ri gr1) dX12_get_6 (by decide) (fun z3 => ?_) (fun z3 => ?_)
  · have hF := hF.1 z3
    exact j_sub hJ [0, 1, 2] rfl (k_X12_get_b33 hin  hJ  p1 p2 _ gp1 gp2 hF)
  · have hF := hF.2 z3
    refine j_iload_n hJ dX12_get_9 rfl 2 rfl ?_
    refine j_if_lt hJ 33 gp2 dX12_get_10 (by decide) (fun z4 => ?_) (fun z4 => ?_)
    · have hF := hF.1 z4
      exact j_sub hJ [0, 1, 2] rfl (k_X12_get_b33 hin  hJ  p1 p2 _ gp1 gp2 hF)
    · have hF := hF.2 z4
      refine j_iload_n hJ dX12_get_13 rfl 2 rfl ?_
      refine j_aload_n hJ dX12_get_14 rfl 0 rfl ?_
      refine j_aload_n hJ dX12_get_15 rfl 0 rfl ?_
      refine j_gr (e := 19) hJ kR_0 fR_15_21 fl_X12_125 dX12_get_16 rfl ?_
      refine j_iload_n hJ dX12_get_19 rfl 1 rfl ?_
      refine j_iald hJ gp1 kR_19 hF.1 hF.2.1 dX12_get_20 (fun v5 ev5 gv5 => ?_)
      have hF := hF.2.2 v5 ev5 gv5
      refine j_aload_n hJ dX12_get_21 rfl 0 rfl ?_
      refine j_gr (e := 20) hJ kR_0 fR_15_22 fl_X12_128 dX12_get_22 rfl ?_
      refine j_iload_n hJ dX12_get_25 rfl 1 rfl ?_
      refine j_iald hJ gp1 kR_20 hF.1 hF.2.1 dX12_get_26 (fun v6 ev6 gv6 => ?_)
      have hF := hF.2.2 v6 ev6 gv6
      refine j_callVi hJ (c_X12_slotCount (l := l) (D := D) (cy := cy) (ad := ad) hin) rfl om_1089 ⟨rfl, rfl, Nat.le_of_ble_eq_true rfl, Nat.le_of_ble_eq_true rfl⟩ [.int (Ii v5), .int (Ii v6)] mv_X12_455 hd_X12_slotCountv kR_0 rfl rfl rfl (Nat.le_of_ble_eq_true rfl) dX12_get_27 ⟨v5, v6, rfl, gv5, gv6, hF⟩ (fun r7 M8 gr7 qM8 => ?_)
      have hF := qM8 gr7
      refine j_icmp_lt hJ 37 gp2 gr7 dX12_get_30 (by decide) (fun z9 => ?_) (fun z9 => ?_)
      · have hF := hF.1 z9
        refine j_iconst hJ dX12_get_37 ?_
        exact j_sub hJ [0, 1, 2] rfl (k_X12_get_b38 hin  hJ  p1 p2 0 _ gp1 gp2 rk_0 hF)
      · have hF := hF.2 z9
        exact j_sub hJ [0, 1, 2] rfl (k_X12_get_b33 hin  hJ  p1 p2 _ gp1 gp2 hF)
def W_X12_getStatic (ad : Nat → Nat) (Q : Int → MM → Prop) (av : List Value) (M : MM) : Prop := ∃ (p1 : Int) (p2 : Int), av = [.ref (ad 0), .int (Ii p1), .int (Ii p2)] ∧ ri_ p1 ∧ ri_ p2 ∧ w_X12_getStatic  Q p1 p2 M
set_option maxHeartbeats 4000000 in
set_option maxRecDepth 100000 in
theorem k_X12_getStatic_b18 {l : Launch} {D : va_G} {cy : Nat → ClassId} {ad : Nat → Nat} {Q : Int → MM → Prop} {J : Nat → List (Nat × Value) → List Value → MM → Prop} (hin : jIn ad ksR.length)   (hJ : jOk l D vwCl (tyR cy) cy ad ftR ksR (XtR ad) Om RX12 cX12_getStatic 4 2 ({ frames := 2, cells := 0, slots := 0, locals := 45 } : Room) Q J)  : ∀ (x3 s0 : Int) (M : MM), ri_ x3 → ri_ s0 → w_X12_getStatic_b18  Q  x3 s0 M → J 18 [(0, .ref (ad 0)), (3, .int (Ii x3))] [.int (Ii s0), .ref (ad 0)] M := by
  intro x3 s0 M gx3 gs0 hF
  unfold w_X12_getStatic_b18 at hF
  refine j_pi hJ gs0 kR_0 fR_15_0 rfl fp_X12_388 dX12_getStatic_18 (fun M1 eM1 => ?_)
  have hF := hF M1 eM1
  refine j_aload_n hJ dX12_getStatic_21 rfl 0 rfl ?_
  refine j_gi hJ kR_0 fR_15_0 rfl fl_X12_388 dX12_getStatic_22 (fun v2 ev2 gv2 => ?_)
  have hF := hF v2 ev2 gv2
  refine j_if_le hJ 32 gv2 dX12_getStatic_25 (by decide) (fun z3 => ?_) (fun z3 => ?_)
  · have hF := hF.1 z3
    refine j_aload_n hJ dX12_getStatic_32 rfl 0 rfl ?_
    refine j_gr (e := 6) hJ kR_0 fR_15_7 fl_X12_84 dX12_getStatic_33 rfl ?_
    refine j_iload_n hJ dX12_getStatic_36 rfl 1 rfl ?_
    refine j_lald hJ gx3 kR_6 hF.1 hF.2.1 dX12_getStatic_37 (fun v4 ev4 gv4 => ?_)
    have hF := hF.2.2 v4 ev4 gv4
    exact j_lret hJ rfl gv4 dX12_getStatic_38 hF
  · have hF := hF.2 z3
    refine j_lconst (x := 0) hJ dX12_getStatic_28 rfl ?_
    refine j_goto hJ 38 dX12_getStatic_29 (by decide) ?_
    exact j_lret hJ rfl lkm_0 dX12_getStatic_38 hF
set_option maxHeartbeats 4000000 in
set_option maxRecDepth 100000 in
theorem c_X12_getStatic {l : Launch} {D : va_G} {cy : Nat → ClassId} {ad : Nat → Nat} (hin : jIn ad ksR.length) : jCN l D vwCl (tyR cy) cy ad ftR ksR (XtR ad) yX12_getStatic (.code yX12_getStatic cX12_getStatic 4 (some .long) :: Om) ({ frames := 2, cells := 0, slots := 0, locals := 45 } : Room) 2 (W_X12_getStatic ad) := by
  refine jCN_of (y := yX12_getStatic) (cc := cX12_getStatic) (nL := 4) (rk := 2) (rm := ({ frames := 2, cells := 0, slots := 0, locals := 45 } : Room)) (own := RX12) (tyR_ok cy) hin (XtR_ok ad) Om_good (by decide) rfl ?_
  intro Q av M hF
  obtain ⟨p1, p2, rfl, gp1, gp2, hF⟩ := hF
  refine ⟨Nat.le_of_ble_eq_true rfl, fun J hJ => ?_⟩
  show J 0 [(0, .ref (ad 0)), (1, .int (Ii p1)), (2, .int (Ii p2))] [] M
  unfold w_X12_getStatic at hF
  refine j_aload_n hJ dX12_getStatic_0 rfl 0 rfl ?_
  refine j_iload_n hJ dX12_getStatic_1 rfl 1 rfl ?_
  refine j_iload_n hJ dX12_getStatic_2 rfl 2 rfl ?_
  refine j_callVi hJ (c_X12_staticOf (l := l) (D := D) (cy := cy) (ad := ad) hin) rfl om_1289 ⟨rfl, rfl, Nat.le_of_ble_eq_true rfl, Nat.le_of_ble_eq_true rfl⟩ [.int (Ii p1), .int (Ii p2)] mv_X12_506 hd_X12_staticOfv kR_0 rfl rfl rfl (Nat.le_of_ble_eq_true rfl) dX12_getStatic_3 ⟨p1, p2, rfl, gp1, gp2, hF⟩ (fun r1 M2 gr1 qM2 => ?_)
  have hF := qM2 gr1
  refine j_istore_n (lv' := [(3, .int (Ii r1)), (0, .ref (ad 0)), (1, .int (Ii p1)), (2, .int (Ii p2))]) hJ dX12_getStatic_6 rfl (by decide) rfl ?_
  refine j_aload_n hJ dX12_getStatic_7 rfl 1 rfl ?_
  refine j_iload_n hJ dX12_getStatic_8 rfl 0 rfl ?_
  refine j_iconst hJ dX12_getStatic_9 ?_
  refine j_icmp_ne hJ 17 gr1 rk_m1 dX12_getStatic_10 (by decide) (fun z3 => ?_) (fun z3 => ?_)
  · have hF := hF.1 z3
    refine j_iconst hJ dX12_getStatic_17 ?_
    exact j_sub hJ [1, 0] rfl (k_X12_getStatic_b18 hin  hJ  r1 0 _ gr1 rk_0 hF)
  · have hF := hF.2 z3
    refine j_iconst hJ dX12_getStatic_13 ?_
    refine j_goto hJ 18 dX12_getStatic_14 (by decide) ?_
    exact j_sub hJ [1, 0] rfl (k_X12_getStatic_b18 hin  hJ  r1 1 _ gr1 rk_1 hF)
def W_X12_object (ad : Nat → Nat) (Q : Int → MM → Prop) (av : List Value) (M : MM) : Prop := ∃ (p1 : Int) (p2 : Int), av = [.ref (ad 0), .int (Ii p1), .int (Ii p2)] ∧ ri_ p1 ∧ ri_ p2 ∧ w_X12_object  Q p1 p2 M
set_option maxHeartbeats 4000000 in
set_option maxRecDepth 100000 in
theorem c_X12_object {l : Launch} {D : va_G} {cy : Nat → ClassId} {ad : Nat → Nat} (hin : jIn ad ksR.length) : jCN l D vwCl (tyR cy) cy ad ftR ksR (XtR ad) yX12_object (.code yX12_object cX12_object 3 (some .int) :: Om) ({ frames := 2, cells := 0, slots := 0, locals := 44 } : Room) 1 (W_X12_object ad) := by
  refine jCN_of (y := yX12_object) (cc := cX12_object) (nL := 3) (rk := 1) (rm := ({ frames := 2, cells := 0, slots := 0, locals := 44 } : Room)) (own := RX12) (tyR_ok cy) hin (XtR_ok ad) Om_good (by decide) rfl ?_
  intro Q av M hF
  obtain ⟨p1, p2, rfl, gp1, gp2, hF⟩ := hF
  refine ⟨Nat.le_of_ble_eq_true rfl, fun J hJ => ?_⟩
  show J 0 [(0, .ref (ad 0)), (1, .int (Ii p1)), (2, .int (Ii p2))] [] M
  unfold w_X12_object at hF
  refine j_aload_n hJ dX12_object_0 rfl 0 rfl ?_
  refine j_iconst hJ dX12_object_1 ?_
  refine j_pi hJ rk_0 kR_0 fR_15_0 rfl fp_X12_388 dX12_object_2 (fun M1 eM1 => ?_)
  have hF := hF M1 eM1
  refine j_aload_n hJ dX12_object_5 rfl 0 rfl ?_
  refine j_iload_n hJ dX12_object_6 rfl 1 rfl ?_
  refine j_callVz hJ (c_X12_isObject (l := l) (D := D) (cy := cy) (ad := ad) hin) rfl om_1105 ⟨rfl, rfl, Nat.le_of_ble_eq_true rfl, Nat.le_of_ble_eq_true rfl⟩ [.int (Ii p1)] mv_X12_473 hd_X12_isObjectv kR_0 rfl rfl rfl (Nat.le_of_ble_eq_true rfl) dX12_object_7 ⟨p1, rfl, gp1, hF⟩ (fun r2 M3 gr2 qM3 => ?_)
  have hF := qM3 gr2
  refine j_if_ne hJ 15 (jz_ri gr2) dX12_object_10 (by decide) (fun z4 => ?_) (fun z4 => ?_)
  · have hF := hF.1 z4
    refine j_iload_n hJ dX12_object_15 rfl 2 rfl ?_
    refine j_if_ne hJ 28 gp2 dX12_object_16 (by decide) (fun z5 => ?_) (fun z5 => ?_)
    · have hF := hF.1 z5
      refine j_iload_n hJ dX12_object_28 rfl 2 rfl ?_
      refine j_iconst hJ dX12_object_29 ?_
      refine j_icmp_ne hJ 42 gp2 rk_1 dX12_object_30 (by decide) (fun z6 => ?_) (fun z6 => ?_)
      · have hF := hF.1 z6
        refine j_iload_n hJ dX12_object_42 rfl 2 rfl ?_
        refine j_iconst hJ dX12_object_43 ?_
        refine j_icmp_ne hJ 66 gp2 rk_2 dX12_object_44 (by decide) (fun z7 => ?_) (fun z7 => ?_)
        · have hF := hF.1 z7
          refine j_iconst hJ dX12_object_66 ?_
          exact j_iret hJ rfl rk_m1 dX12_object_67 hF
        · have hF := hF.2 z7
          refine j_aload_n hJ dX12_object_47 rfl 0 rfl ?_
          refine j_aload_n hJ dX12_object_48 rfl 0 rfl ?_
          refine j_gr (e := 19) hJ kR_0 fR_15_21 fl_X12_125 dX12_object_49 rfl ?_
          refine j_iload_n hJ dX12_object_52 rfl 1 rfl ?_
          refine j_iald hJ gp1 kR_19 hF.1 hF.2.1 dX12_object_53 (fun v8 ev8 gv8 => ?_)
          have hF := hF.2.2 v8 ev8 gv8
          refine j_aload_n hJ dX12_object_54 rfl 0 rfl ?_
          refine j_gr (e := 20) hJ kR_0 fR_15_22 fl_X12_128 dX12_object_55 rfl ?_
          refine j_iload_n hJ dX12_object_58 rfl 1 rfl ?_
          refine j_iald hJ gp1 kR_20 hF.1 hF.2.1 dX12_object_59 (fun v9 ev9 gv9 => ?_)
          have hF := hF.2.2 v9 ev9 gv9
          refine j_callVi hJ (c_X12_objectSize (l := l) (D := D) (cy := cy) (ad := ad) hin) rfl om_1193 ⟨rfl, rfl, Nat.le_of_ble_eq_true rfl, Nat.le_of_ble_eq_true rfl⟩ [.int (Ii v8), .int (Ii v9)] mv_X12_509 hd_X12_objectSizev kR_0 rfl rfl rfl (Nat.le_of_ble_eq_true rfl) dX12_object_60 ⟨v8, v9, rfl, gv8, gv9, hF⟩ (fun r10 M11 gr10 qM11 => ?_)
          have hF := qM11 gr10
          refine j_goto hJ 67 dX12_object_63 (by decide) ?_
          exact j_iret hJ rfl gr10 dX12_object_67 hF
      · have hF := hF.2 z6
        refine j_aload_n hJ dX12_object_33 rfl 0 rfl ?_
        refine j_gr (e := 20) hJ kR_0 fR_15_22 fl_X12_128 dX12_object_34 rfl ?_
        refine j_iload_n hJ dX12_object_37 rfl 1 rfl ?_
        refine j_iald hJ gp1 kR_20 hF.1 hF.2.1 dX12_object_38 (fun v12 ev12 gv12 => ?_)
        have hF := hF.2.2 v12 ev12 gv12
        refine j_goto hJ 67 dX12_object_39 (by decide) ?_
        exact j_iret hJ rfl gv12 dX12_object_67 hF
    · have hF := hF.2 z5
      refine j_aload_n hJ dX12_object_19 rfl 0 rfl ?_
      refine j_gr (e := 19) hJ kR_0 fR_15_21 fl_X12_125 dX12_object_20 rfl ?_
      refine j_iload_n hJ dX12_object_23 rfl 1 rfl ?_
      refine j_iald hJ gp1 kR_19 hF.1 hF.2.1 dX12_object_24 (fun v13 ev13 gv13 => ?_)
      have hF := hF.2.2 v13 ev13 gv13
      refine j_goto hJ 67 dX12_object_25 (by decide) ?_
      exact j_iret hJ rfl gv13 dX12_object_67 hF
  · have hF := hF.2 z4
    refine j_iconst hJ dX12_object_13 ?_
    exact j_iret hJ rfl rk_m1 dX12_object_14 hF
def W_X12_undo (ad : Nat → Nat) (Q : Int → MM → Prop) (av : List Value) (M : MM) : Prop := av = [.ref (ad 0)] ∧ w_X12_undo  Q  M
set_option maxHeartbeats 4000000 in
set_option maxRecDepth 100000 in
theorem k_X12_undo_b95 {l : Launch} {D : va_G} {cy : Nat → ClassId} {ad : Nat → Nat} {Q : Int → MM → Prop} {J : Nat → List (Nat × Value) → List Value → MM → Prop} (hin : jIn ad ksR.length)   (hJ : jOk l D vwCl (tyR cy) cy ad ftR ksR (XtR ad) Om RX12 cX12_undo 2 1 ({ frames := 0, cells := 0, slots := 0, locals := 0 } : Room) Q J)  : ∀ (M : MM), w_X12_undo_b95  Q   M → J 95 [(0, .ref (ad 0))] [] M := by
  intro  M  hF
  unfold w_X12_undo_b95 at hF
  refine j_aload_n hJ dX12_undo_95 rfl 0 rfl ?_
  refine j_gr (e := 27) hJ kR_0 fR_15_34 fl_X12_150 dX12_undo_96 rfl ?_
  refine j_aload_n hJ dX12_undo_99 rfl 0 rfl ?_
  refine j_gi hJ kR_0 fR_15_36 rfl fl_X12_479 dX12_undo_100 (fun v1 ev1 gv1 => ?_)
  have hF := hF v1 ev1 gv1
  refine j_iald hJ gv1 kR_27 hF.1 hF.2.1 dX12_undo_103 (fun v2 ev2 gv2 => ?_)
  have hF := hF.2.2 v2 ev2 gv2
  exact j_iret hJ rfl gv2 dX12_undo_104 hF
set_option maxHeartbeats 4000000 in
set_option maxRecDepth 100000 in
theorem c_X12_undo {l : Launch} {D : va_G} {cy : Nat → ClassId} {ad : Nat → Nat} (hin : jIn ad ksR.length) : jCN l D vwCl (tyR cy) cy ad ftR ksR (XtR ad) yX12_undo (.code yX12_undo cX12_undo 2 (some .int) :: Om) ({ frames := 0, cells := 0, slots := 0, locals := 0 } : Room) 1 (W_X12_undo ad) := by
  refine jCN_of (y := yX12_undo) (cc := cX12_undo) (nL := 2) (rk := 1) (rm := ({ frames := 0, cells := 0, slots := 0, locals := 0 } : Room)) (own := RX12) (tyR_ok cy) hin (XtR_ok ad) Om_good (by decide) rfl ?_
  intro Q av M hF
  obtain ⟨rfl, hF⟩ := hF
  refine ⟨Nat.le_of_ble_eq_true rfl, fun J hJ => ?_⟩
  show J 0 [(0, .ref (ad 0))] [] M
  unfold w_X12_undo at hF
  refine j_aload_n hJ dX12_undo_0 rfl 0 rfl ?_
  refine j_iconst hJ dX12_undo_1 ?_
  refine j_pi hJ rk_0 kR_0 fR_15_0 rfl fp_X12_388 dX12_undo_2 (fun M1 eM1 => ?_)
  have hF := hF M1 eM1
  refine j_aload_n hJ dX12_undo_5 rfl 0 rfl ?_
  refine j_gi hJ kR_0 fR_15_36 rfl fl_X12_479 dX12_undo_6 (fun v2 ev2 gv2 => ?_)
  have hF := hF v2 ev2 gv2
  refine j_if_ne hJ 14 gv2 dX12_undo_9 (by decide) (fun z3 => ?_) (fun z3 => ?_)
  · have hF := hF.1 z3
    refine j_aload_n hJ dX12_undo_14 rfl 0 rfl ?_
    refine j_dup hJ dX12_undo_15 rfl ?_
    refine j_gi hJ kR_0 fR_15_36 rfl fl_X12_479 dX12_undo_16 (fun v4 ev4 gv4 => ?_)
    have hF := hF v4 ev4 gv4
    refine j_iconst hJ dX12_undo_19 ?_
    refine j_isub hJ dX12_undo_20 ?_
    have g5 := hF.1; have hF := hF.2
    refine j_pi hJ g5 kR_0 fR_15_36 rfl fp_X12_479 dX12_undo_21 (fun M6 eM6 => ?_)
    have hF := hF M6 eM6
    refine j_aload_n hJ dX12_undo_24 rfl 0 rfl ?_
    refine j_gr (e := 25) hJ kR_0 fR_15_32 fl_X12_144 dX12_undo_25 rfl ?_
    refine j_aload_n hJ dX12_undo_28 rfl 0 rfl ?_
    refine j_gi hJ kR_0 fR_15_36 rfl fl_X12_479 dX12_undo_29 (fun v7 ev7 gv7 => ?_)
    have hF := hF v7 ev7 gv7
    refine j_iald hJ gv7 kR_25 hF.1 hF.2.1 dX12_undo_32 (fun v8 ev8 gv8 => ?_)
    have hF := hF.2.2 v8 ev8 gv8
    refine j_istore_n (lv' := [(1, .int (Ii v8)), (0, .ref (ad 0))]) hJ dX12_undo_33 rfl (by decide) rfl ?_
    refine j_iload_n hJ dX12_undo_34 rfl 0 rfl ?_
    refine j_iconst hJ dX12_undo_35 ?_
    refine j_icmp_ne hJ 65 gv8 rk_m1 dX12_undo_36 (by decide) (fun z9 => ?_) (fun z9 => ?_)
    · have hF := hF.1 z9
      refine j_aload_n hJ dX12_undo_65 rfl 1 rfl ?_
      refine j_gr (e := 23) hJ kR_0 fR_15_25 fl_X12_138 dX12_undo_66 rfl ?_
      refine j_aload_n hJ dX12_undo_69 rfl 1 rfl ?_
      refine j_gr (e := 21) hJ kR_0 fR_15_23 fl_X12_131 dX12_undo_70 rfl ?_
      refine j_iload_n hJ dX12_undo_73 rfl 0 rfl ?_
      refine j_iald hJ gv8 kR_21 hF.1 hF.2.1 dX12_undo_74 (fun v10 ev10 gv10 => ?_)
      have hF := hF.2.2 v10 ev10 gv10
      refine j_aload_n hJ dX12_undo_75 rfl 1 rfl ?_
      refine j_gr (e := 26) hJ kR_0 fR_15_33 fl_X12_147 dX12_undo_76 rfl ?_
      refine j_aload_n hJ dX12_undo_79 rfl 1 rfl ?_
      refine j_gi hJ kR_0 fR_15_36 rfl fl_X12_479 dX12_undo_80 (fun v11 ev11 gv11 => ?_)
      have hF := hF v11 ev11 gv11
      refine j_iald hJ gv11 kR_26 hF.1 hF.2.1 dX12_undo_83 (fun v12 ev12 gv12 => ?_)
      have hF := hF.2.2 v12 ev12 gv12
      refine j_iadd hJ dX12_undo_84 ?_
      have g13 := hF.1; have hF := hF.2
      refine j_aload_n hJ dX12_undo_85 rfl 1 rfl ?_
      refine j_gr (e := 28) hJ kR_0 fR_15_35 fl_X12_153 dX12_undo_86 rfl ?_
      refine j_aload_n hJ dX12_undo_89 rfl 1 rfl ?_
      refine j_gi hJ kR_0 fR_15_36 rfl fl_X12_479 dX12_undo_90 (fun v14 ev14 gv14 => ?_)
      have hF := hF v14 ev14 gv14
      refine j_lald hJ gv14 kR_28 hF.1 hF.2.1 dX12_undo_93 (fun v15 ev15 gv15 => ?_)
      have hF := hF.2.2 v15 ev15 gv15
      refine j_last hJ g13 gv15 kR_23 hF.1 hF.2.1 dX12_undo_94 (fun M16 eM16 => ?_)
      have hF := hF.2.2 M16 eM16
      exact j_sub hJ [1] rfl (k_X12_undo_b95 hin  hJ   _  hF)
    · have hF := hF.2 z9
      refine j_aload_n hJ dX12_undo_39 rfl 1 rfl ?_
      refine j_gr (e := 6) hJ kR_0 fR_15_7 fl_X12_84 dX12_undo_40 rfl ?_
      refine j_aload_n hJ dX12_undo_43 rfl 1 rfl ?_
      refine j_gr (e := 26) hJ kR_0 fR_15_33 fl_X12_147 dX12_undo_44 rfl ?_
      refine j_aload_n hJ dX12_undo_47 rfl 1 rfl ?_
      refine j_gi hJ kR_0 fR_15_36 rfl fl_X12_479 dX12_undo_48 (fun v17 ev17 gv17 => ?_)
      have hF := hF v17 ev17 gv17
      refine j_iald hJ gv17 kR_26 hF.1 hF.2.1 dX12_undo_51 (fun v18 ev18 gv18 => ?_)
      have hF := hF.2.2 v18 ev18 gv18
      refine j_aload_n hJ dX12_undo_52 rfl 1 rfl ?_
      refine j_gr (e := 28) hJ kR_0 fR_15_35 fl_X12_153 dX12_undo_53 rfl ?_
      refine j_aload_n hJ dX12_undo_56 rfl 1 rfl ?_
      refine j_gi hJ kR_0 fR_15_36 rfl fl_X12_479 dX12_undo_57 (fun v19 ev19 gv19 => ?_)
      have hF := hF v19 ev19 gv19
      refine j_lald hJ gv19 kR_28 hF.1 hF.2.1 dX12_undo_60 (fun v20 ev20 gv20 => ?_)
      have hF := hF.2.2 v20 ev20 gv20
      refine j_last hJ gv18 gv20 kR_6 hF.1 hF.2.1 dX12_undo_61 (fun M21 eM21 => ?_)
      have hF := hF.2.2 M21 eM21
      refine j_goto hJ 95 dX12_undo_62 (by decide) ?_
      exact j_sub hJ [1] rfl (k_X12_undo_b95 hin  hJ   _  hF)
  · have hF := hF.2 z3
    refine j_iconst hJ dX12_undo_12 ?_
    exact j_iret hJ rfl rk_m1 dX12_undo_13 hF
def W_X12_watch (ad : Nat → Nat) (Q : Int → MM → Prop) (av : List Value) (M : MM) : Prop := ∃ (p1 : Int) (p2 : Int) (p3 : Int), av = [.ref (ad 0), .int (Ii p1), .int (Ii p2), .int (Ii p3)] ∧ ri_ p1 ∧ ri_ p2 ∧ ri_ p3 ∧ w_X12_watch  Q p1 p2 p3 M
set_option maxHeartbeats 4000000 in
set_option maxRecDepth 100000 in
theorem k_X12_watch_b54 {l : Launch} {D : va_G} {cy : Nat → ClassId} {ad : Nat → Nat} {Q : Int → MM → Prop} {J : Nat → List (Nat × Value) → List Value → MM → Prop} (hin : jIn ad ksR.length)   (hJ : jOk l D vwCl (tyR cy) cy ad ftR ksR (XtR ad) Om RX12 cX12_watch 4 1 ({ frames := 1, cells := 0, slots := 0, locals := 21 } : Room) Q J)  : ∀ (x1 x2 x3 s0 : Int) (M : MM), ri_ x1 → ri_ x2 → ri_ x3 → ri_ s0 → w_X12_watch_b54  Q  x1 x2 x3 s0 M → J 54 [(0, .ref (ad 0)), (1, .int (Ii x1)), (2, .int (Ii x2)), (3, .int (Ii x3))] [.int (Ii s0), .ref (ad 0)] M := by
  intro x1 x2 x3 s0 M gx1 gx2 gx3 gs0 hF
  unfold w_X12_watch_b54 at hF
  refine j_pi hJ gs0 kR_0 fR_15_0 rfl fp_X12_388 dX12_watch_54 (fun M1 eM1 => ?_)
  have hF := hF M1 eM1
  refine j_aload_n hJ dX12_watch_57 rfl 0 rfl ?_
  refine j_gi hJ kR_0 fR_15_0 rfl fl_X12_388 dX12_watch_58 (fun v2 ev2 gv2 => ?_)
  have hF := hF v2 ev2 gv2
  refine j_if_le hJ 66 gv2 dX12_watch_61 (by decide) (fun z3 => ?_) (fun z3 => ?_)
  · have hF := hF.1 z3
    refine j_aload_n hJ dX12_watch_66 rfl 0 rfl ?_
    refine j_gr (e := 29) hJ kR_0 fR_15_37 fl_X12_156 dX12_watch_67 rfl ?_
    refine j_aload_n hJ dX12_watch_70 rfl 0 rfl ?_
    refine j_gi hJ kR_0 fR_15_44 rfl fl_X12_485 dX12_watch_71 (fun v4 ev4 gv4 => ?_)
    have hF := hF v4 ev4 gv4
    refine j_bipush hJ dX12_watch_74 (by decide) ?_
    refine j_iload_n hJ dX12_watch_76 rfl 1 rfl ?_
    refine j_imul hJ dX12_watch_77 ?_
    have g5 := hF.1; have hF := hF.2
    refine j_iload_n hJ dX12_watch_78 rfl 2 rfl ?_
    refine j_iadd hJ dX12_watch_79 ?_
    have g6 := hF.1; have hF := hF.2
    refine j_iast hJ gv4 g6 kR_29 hF.1 hF.2.1 dX12_watch_80 (fun M7 eM7 => ?_)
    have hF := hF.2.2 M7 eM7
    refine j_aload_n hJ dX12_watch_81 rfl 0 rfl ?_
    refine j_gr (e := 30) hJ kR_0 fR_15_38 fl_X12_159 dX12_watch_82 rfl ?_
    refine j_aload_n hJ dX12_watch_85 rfl 0 rfl ?_
    refine j_gi hJ kR_0 fR_15_44 rfl fl_X12_485 dX12_watch_86 (fun v8 ev8 gv8 => ?_)
    have hF := hF v8 ev8 gv8
    refine j_iload_n hJ dX12_watch_89 rfl 3 rfl ?_
    refine j_iast hJ gv8 gx3 kR_30 hF.1 hF.2.1 dX12_watch_90 (fun M9 eM9 => ?_)
    have hF := hF.2.2 M9 eM9
    refine j_aload_n hJ dX12_watch_91 rfl 0 rfl ?_
    refine j_gr (e := 31) hJ kR_0 fR_15_39 fl_X12_162 dX12_watch_92 rfl ?_
    refine j_aload_n hJ dX12_watch_95 rfl 0 rfl ?_
    refine j_gi hJ kR_0 fR_15_44 rfl fl_X12_485 dX12_watch_96 (fun v10 ev10 gv10 => ?_)
    have hF := hF v10 ev10 gv10
    refine j_iconst hJ dX12_watch_99 ?_
    refine j_iast hJ gv10 rk_0 kR_31 hF.1 hF.2.1 dX12_watch_100 (fun M11 eM11 => ?_)
    have hF := hF.2.2 M11 eM11
    refine j_aload_n hJ dX12_watch_101 rfl 0 rfl ?_
    refine j_dup hJ dX12_watch_102 rfl ?_
    refine j_gi hJ kR_0 fR_15_44 rfl fl_X12_485 dX12_watch_103 (fun v12 ev12 gv12 => ?_)
    have hF := hF v12 ev12 gv12
    refine j_iconst hJ dX12_watch_106 ?_
    refine j_iadd hJ dX12_watch_107 ?_
    have g13 := hF.1; have hF := hF.2
    refine j_pi hJ g13 kR_0 fR_15_44 rfl fp_X12_485 dX12_watch_108 (fun M14 eM14 => ?_)
    have hF := hF M14 eM14
    refine j_aload_n hJ dX12_watch_111 rfl 0 rfl ?_
    refine j_gi hJ kR_0 fR_15_44 rfl fl_X12_485 dX12_watch_112 (fun v15 ev15 gv15 => ?_)
    have hF := hF v15 ev15 gv15
    refine j_iconst hJ dX12_watch_115 ?_
    refine j_isub hJ dX12_watch_116 ?_
    have g16 := hF.1; have hF := hF.2
    exact j_iret hJ rfl g16 dX12_watch_117 hF
  · have hF := hF.2 z3
    refine j_iconst hJ dX12_watch_64 ?_
    exact j_iret hJ rfl rk_0 dX12_watch_65 hF
set_option maxHeartbeats 4000000 in
set_option maxRecDepth 100000 in
theorem k_X12_watch_b23 {l : Launch} {D : va_G} {cy : Nat → ClassId} {ad : Nat → Nat} {Q : Int → MM → Prop} {J : Nat → List (Nat × Value) → List Value → MM → Prop} (hin : jIn ad ksR.length)   (hJ : jOk l D vwCl (tyR cy) cy ad ftR ksR (XtR ad) Om RX12 cX12_watch 4 1 ({ frames := 1, cells := 0, slots := 0, locals := 21 } : Room) Q J)  : ∀ (x1 x2 x3 : Int) (M : MM), ri_ x1 → ri_ x2 → ri_ x3 → w_X12_watch_b23  Q  x1 x2 x3 M → J 23 [(0, .ref (ad 0)), (1, .int (Ii x1)), (2, .int (Ii x2)), (3, .int (Ii x3))] [.ref (ad 0)] M := by
  intro x1 x2 x3 M gx1 gx2 gx3 hF
  unfold w_X12_watch_b23 at hF
  refine j_iconst hJ dX12_watch_23 ?_
  refine j_goto hJ 54 dX12_watch_24 (by decide) ?_
  exact j_sub hJ [0, 1, 2, 3] rfl (k_X12_watch_b54 hin  hJ  x1 x2 x3 1 _ gx1 gx2 gx3 rk_1 hF)
set_option maxHeartbeats 4000000 in
set_option maxRecDepth 100000 in
theorem k_X12_watch_b36 {l : Launch} {D : va_G} {cy : Nat → ClassId} {ad : Nat → Nat} {Q : Int → MM → Prop} {J : Nat → List (Nat × Value) → List Value → MM → Prop} (hin : jIn ad ksR.length)   (hJ : jOk l D vwCl (tyR cy) cy ad ftR ksR (XtR ad) Om RX12 cX12_watch 4 1 ({ frames := 1, cells := 0, slots := 0, locals := 21 } : Room) Q J)  : ∀ (x1 x2 x3 : Int) (M : MM), ri_ x1 → ri_ x2 → ri_ x3 → w_X12_watch_b36  Q  x1 x2 x3 M → J 36 [(0, .ref (ad 0)), (1, .int (Ii x1)), (2, .int (Ii x2)), (3, .int (Ii x3))] [.ref (ad 0)] M := by
  intro x1 x2 x3 M gx1 gx2 gx3 hF
  unfold w_X12_watch_b36 at hF
  refine j_iconst hJ dX12_watch_36 ?_
  refine j_goto hJ 54 dX12_watch_37 (by decide) ?_
  exact j_sub hJ [0, 1, 2, 3] rfl (k_X12_watch_b54 hin  hJ  x1 x2 x3 2 _ gx1 gx2 gx3 rk_2 hF)
set_option maxHeartbeats 4000000 in
set_option maxRecDepth 100000 in
theorem c_X12_watch {l : Launch} {D : va_G} {cy : Nat → ClassId} {ad : Nat → Nat} (hin : jIn ad ksR.length) : jCN l D vwCl (tyR cy) cy ad ftR ksR (XtR ad) yX12_watch (.code yX12_watch cX12_watch 4 (some .int) :: Om) ({ frames := 1, cells := 0, slots := 0, locals := 21 } : Room) 1 (W_X12_watch ad) := by
  refine jCN_of (y := yX12_watch) (cc := cX12_watch) (nL := 4) (rk := 1) (rm := ({ frames := 1, cells := 0, slots := 0, locals := 21 } : Room)) (own := RX12) (tyR_ok cy) hin (XtR_ok ad) Om_good (by decide) rfl ?_
  intro Q av M hF
  obtain ⟨p1, p2, p3, rfl, gp1, gp2, gp3, hF⟩ := hF
  refine ⟨Nat.le_of_ble_eq_true rfl, fun J hJ => ?_⟩
  show J 0 [(0, .ref (ad 0)), (1, .int (Ii p1)), (2, .int (Ii p2)), (3, .int (Ii p3))] [] M
  unfold w_X12_watch at hF
  refine j_aload_n hJ dX12_watch_0 rfl 0 rfl ?_
  refine j_aload_n hJ dX12_watch_1 rfl 0 rfl ?_
  refine j_iload_n hJ dX12_watch_2 rfl 1 rfl ?_
  refine j_callVz hJ (c_X12_isClass (l := l) (D := D) (cy := cy) (ad := ad) hin) rfl om_1064 ⟨rfl, rfl, Nat.le_of_ble_eq_true rfl, Nat.le_of_ble_eq_true rfl⟩ [.int (Ii p1)] mv_X12_416 hd_X12_isClassv kR_0 rfl rfl rfl (Nat.le_of_ble_eq_true rfl) dX12_watch_3 ⟨p1, rfl, gp1, hF⟩ (fun r1 M2 gr1 qM2 => ?_)
  have hF := qM2 gr1
  refine j_if_eq hJ 23 (jz_ri gr1) dX12_watch_6 (by decide) (fun z3 => ?_) (fun z3 => ?_)
  · have hF := hF.1 z3
    exact j_sub hJ [0, 1, 2, 3] rfl (k_X12_watch_b23 hin  hJ  p1 p2 p3 _ gp1 gp2 gp3 hF)
  · have hF := hF.2 z3
    refine j_iload_n hJ dX12_watch_9 rfl 2 rfl ?_
    refine j_if_lt hJ 23 gp2 dX12_watch_10 (by decide) (fun z4 => ?_) (fun z4 => ?_)
    · have hF := hF.1 z4
      exact j_sub hJ [0, 1, 2, 3] rfl (k_X12_watch_b23 hin  hJ  p1 p2 p3 _ gp1 gp2 gp3 hF)
    · have hF := hF.2 z4
      refine j_iload_n hJ dX12_watch_13 rfl 2 rfl ?_
      refine j_aload_n hJ dX12_watch_14 rfl 0 rfl ?_
      refine j_gr (e := 9) hJ kR_0 fR_15_10 fl_X12_94 dX12_watch_15 rfl ?_
      refine j_iload_n hJ dX12_watch_18 rfl 1 rfl ?_
      refine j_iald hJ gp1 kR_9 hF.1 hF.2.1 dX12_watch_19 (fun v5 ev5 gv5 => ?_)
      have hF := hF.2.2 v5 ev5 gv5
      refine j_icmp_lt hJ 27 gp2 gv5 dX12_watch_20 (by decide) (fun z6 => ?_) (fun z6 => ?_)
      · have hF := hF.1 z6
        refine j_iload_n hJ dX12_watch_27 rfl 3 rfl ?_
        refine j_if_lt hJ 36 gp3 dX12_watch_28 (by decide) (fun z7 => ?_) (fun z7 => ?_)
        · have hF := hF.1 z7
          exact j_sub hJ [0, 1, 2, 3] rfl (k_X12_watch_b36 hin  hJ  p1 p2 p3 _ gp1 gp2 gp3 hF)
        · have hF := hF.2 z7
          refine j_iload_n hJ dX12_watch_31 rfl 3 rfl ?_
          refine j_iconst hJ dX12_watch_32 ?_
          refine j_icmp_le hJ 40 gp3 rk_3 dX12_watch_33 (by decide) (fun z8 => ?_) (fun z8 => ?_)
          · have hF := hF.1 z8
            refine j_aload_n hJ dX12_watch_40 rfl 0 rfl ?_
            refine j_gi hJ kR_0 fR_15_44 rfl fl_X12_485 dX12_watch_41 (fun v9 ev9 gv9 => ?_)
            have hF := hF v9 ev9 gv9
            refine j_bipush hJ dX12_watch_44 (by decide) ?_
            refine j_icmp_ne hJ 53 gv9 rk_6 dX12_watch_46 (by decide) (fun z10 => ?_) (fun z10 => ?_)
            · have hF := hF.1 z10
              refine j_iconst hJ dX12_watch_53 ?_
              exact j_sub hJ [0, 1, 2, 3] rfl (k_X12_watch_b54 hin  hJ  p1 p2 p3 0 _ gp1 gp2 gp3 rk_0 hF)
            · have hF := hF.2 z10
              refine j_iconst hJ dX12_watch_49 ?_
              refine j_goto hJ 54 dX12_watch_50 (by decide) ?_
              exact j_sub hJ [0, 1, 2, 3] rfl (k_X12_watch_b54 hin  hJ  p1 p2 p3 3 _ gp1 gp2 gp3 rk_3 hF)
          · have hF := hF.2 z8
            exact j_sub hJ [0, 1, 2, 3] rfl (k_X12_watch_b36 hin  hJ  p1 p2 p3 _ gp1 gp2 gp3 hF)
      · have hF := hF.2 z6
        exact j_sub hJ [0, 1, 2, 3] rfl (k_X12_watch_b23 hin  hJ  p1 p2 p3 _ gp1 gp2 gp3 hF)
def W_X12_rows (ad : Nat → Nat) (Q : Int → MM → Prop) (av : List Value) (M : MM) : Prop := ∃ (p1 : Int), av = [.ref (ad 0), .int (Ii p1)] ∧ ri_ p1 ∧ w_X12_rows  Q p1 M
set_option maxHeartbeats 4000000 in
set_option maxRecDepth 100000 in
theorem c_X12_rows {l : Launch} {D : va_G} {cy : Nat → ClassId} {ad : Nat → Nat} (hin : jIn ad ksR.length) : jCN l D vwCl (tyR cy) cy ad ftR ksR (XtR ad) yX12_rows (.code yX12_rows cX12_rows 2 (some .int) :: Om) ({ frames := 0, cells := 0, slots := 0, locals := 0 } : Room) 1 (W_X12_rows ad) := by
  refine jCN_of (y := yX12_rows) (cc := cX12_rows) (nL := 2) (rk := 1) (rm := ({ frames := 0, cells := 0, slots := 0, locals := 0 } : Room)) (own := RX12) (tyR_ok cy) hin (XtR_ok ad) Om_good (by decide) rfl ?_
  intro Q av M hF
  obtain ⟨p1, rfl, gp1, hF⟩ := hF
  refine ⟨Nat.le_of_ble_eq_true rfl, fun J hJ => ?_⟩
  show J 0 [(0, .ref (ad 0)), (1, .int (Ii p1))] [] M
  unfold w_X12_rows at hF
  refine j_aload_n hJ dX12_rows_0 rfl 0 rfl ?_
  refine j_iconst hJ dX12_rows_1 ?_
  refine j_pi hJ rk_0 kR_0 fR_15_0 rfl fp_X12_388 dX12_rows_2 (fun M1 eM1 => ?_)
  have hF := hF M1 eM1
  refine j_iload_n hJ dX12_rows_5 rfl 1 rfl ?_
  refine j_if_lt hJ 26 gp1 dX12_rows_6 (by decide) (fun z2 => ?_) (fun z2 => ?_)
  · have hF := hF.1 z2
    refine j_iconst hJ dX12_rows_26 ?_
    exact j_iret hJ rfl rk_m1 dX12_rows_27 hF
  · have hF := hF.2 z2
    refine j_iload_n hJ dX12_rows_9 rfl 1 rfl ?_
    refine j_aload_n hJ dX12_rows_10 rfl 0 rfl ?_
    refine j_gi hJ kR_0 fR_15_44 rfl fl_X12_485 dX12_rows_11 (fun v3 ev3 gv3 => ?_)
    have hF := hF v3 ev3 gv3
    refine j_icmp_ge hJ 26 gp1 gv3 dX12_rows_14 (by decide) (fun z4 => ?_) (fun z4 => ?_)
    · have hF := hF.1 z4
      refine j_iconst hJ dX12_rows_26 ?_
      exact j_iret hJ rfl rk_m1 dX12_rows_27 hF
    · have hF := hF.2 z4
      refine j_aload_n hJ dX12_rows_17 rfl 0 rfl ?_
      refine j_gr (e := 31) hJ kR_0 fR_15_39 fl_X12_162 dX12_rows_18 rfl ?_
      refine j_iload_n hJ dX12_rows_21 rfl 1 rfl ?_
      refine j_iald hJ gp1 kR_31 hF.1 hF.2.1 dX12_rows_22 (fun v5 ev5 gv5 => ?_)
      have hF := hF.2.2 v5 ev5 gv5
      refine j_goto hJ 27 dX12_rows_23 (by decide) ?_
      exact j_iret hJ rfl gv5 dX12_rows_27 hF
def W_X12_row (ad : Nat → Nat) (Q : Int → MM → Prop) (av : List Value) (M : MM) : Prop := ∃ (p1 : Int) (p2 : Int) (p3 : Int), av = [.ref (ad 0), .int (Ii p1), .int (Ii p2), .int (Ii p3)] ∧ ri_ p1 ∧ ri_ p2 ∧ ri_ p3 ∧ w_X12_row  Q p1 p2 p3 M
set_option maxHeartbeats 4000000 in
set_option maxRecDepth 100000 in
theorem k_X12_row_b41 {l : Launch} {D : va_G} {cy : Nat → ClassId} {ad : Nat → Nat} {Q : Int → MM → Prop} {J : Nat → List (Nat × Value) → List Value → MM → Prop} (hin : jIn ad ksR.length)   (hJ : jOk l D vwCl (tyR cy) cy ad ftR ksR (XtR ad) Om RX12 cX12_row 5 2 ({ frames := 0, cells := 0, slots := 0, locals := 0 } : Room) Q J)  : ∀ (x1 x2 x3 s0 : Int) (M : MM), ri_ x1 → ri_ x2 → ri_ x3 → ri_ s0 → w_X12_row_b41  Q  x1 x2 x3 s0 M → J 41 [(0, .ref (ad 0)), (1, .int (Ii x1)), (2, .int (Ii x2)), (3, .int (Ii x3))] [.int (Ii s0), .ref (ad 0)] M := by
  intro x1 x2 x3 s0 M gx1 gx2 gx3 gs0 hF
  unfold w_X12_row_b41 at hF
  refine j_pi hJ gs0 kR_0 fR_15_0 rfl fp_X12_388 dX12_row_41 (fun M1 eM1 => ?_)
  have hF := hF M1 eM1
  refine j_aload_n hJ dX12_row_44 rfl 0 rfl ?_
  refine j_gi hJ kR_0 fR_15_0 rfl fl_X12_388 dX12_row_45 (fun v2 ev2 gv2 => ?_)
  have hF := hF v2 ev2 gv2
  refine j_if_le hJ 53 gv2 dX12_row_48 (by decide) (fun z3 => ?_) (fun z3 => ?_)
  · have hF := hF.1 z3
    refine j_bipush hJ dX12_row_53 (by decide) ?_
    refine j_iload_n hJ dX12_row_55 rfl 1 rfl ?_
    refine j_imul hJ dX12_row_56 ?_
    have g4 := hF.1; have hF := hF.2
    refine j_iload_n hJ dX12_row_57 rfl 2 rfl ?_
    refine j_iadd hJ dX12_row_58 ?_
    have g5 := hF.1; have hF := hF.2
    refine j_istore (lv' := [(4, .int (Ii ((6 * x1) + x2))), (0, .ref (ad 0)), (1, .int (Ii x1)), (2, .int (Ii x2)), (3, .int (Ii x3))]) hJ dX12_row_59 (by decide) rfl ?_
    refine j_iload_n hJ dX12_row_61 rfl 4 rfl ?_
    refine j_if_ne hJ 76 gx3 dX12_row_62 (by decide) (fun z6 => ?_) (fun z6 => ?_)
    · have hF := hF.1 z6
      refine j_iload_n hJ dX12_row_76 rfl 4 rfl ?_
      refine j_iconst hJ dX12_row_77 ?_
      refine j_icmp_ne hJ 92 gx3 rk_1 dX12_row_78 (by decide) (fun z7 => ?_) (fun z7 => ?_)
      · have hF := hF.1 z7
        refine j_iload_n hJ dX12_row_92 rfl 4 rfl ?_
        refine j_iconst hJ dX12_row_93 ?_
        refine j_icmp_ne hJ 107 gx3 rk_2 dX12_row_94 (by decide) (fun z8 => ?_) (fun z8 => ?_)
        · have hF := hF.1 z8
          refine j_aload_n hJ dX12_row_107 rfl 1 rfl ?_
          refine j_gr (e := 35) hJ kR_0 fR_15_43 fl_X12_174 dX12_row_108 rfl ?_
          refine j_iload hJ dX12_row_111 0 rfl ?_
          refine j_lald hJ g5 kR_35 hF.1 hF.2.1 dX12_row_113 (fun v9 ev9 gv9 => ?_)
          have hF := hF.2.2 v9 ev9 gv9
          exact j_lret hJ rfl gv9 dX12_row_114 hF
        · have hF := hF.2 z8
          refine j_aload_n hJ dX12_row_97 rfl 1 rfl ?_
          refine j_gr (e := 34) hJ kR_0 fR_15_42 fl_X12_171 dX12_row_98 rfl ?_
          refine j_iload hJ dX12_row_101 0 rfl ?_
          refine j_lald hJ g5 kR_34 hF.1 hF.2.1 dX12_row_103 (fun v10 ev10 gv10 => ?_)
          have hF := hF.2.2 v10 ev10 gv10
          refine j_goto hJ 114 dX12_row_104 (by decide) ?_
          exact j_lret hJ rfl gv10 dX12_row_114 hF
      · have hF := hF.2 z7
        refine j_aload_n hJ dX12_row_81 rfl 1 rfl ?_
        refine j_gr (e := 33) hJ kR_0 fR_15_41 fl_X12_168 dX12_row_82 rfl ?_
        refine j_iload hJ dX12_row_85 0 rfl ?_
        refine j_iald hJ g5 kR_33 hF.1 hF.2.1 dX12_row_87 (fun v11 ev11 gv11 => ?_)
        have hF := hF.2.2 v11 ev11 gv11
        refine j_i2l hJ gv11 dX12_row_88 ?_
        refine j_goto hJ 114 dX12_row_89 (by decide) ?_
        exact j_lret hJ rfl (rl_ri gv11) dX12_row_114 hF
    · have hF := hF.2 z6
      refine j_aload_n hJ dX12_row_65 rfl 1 rfl ?_
      refine j_gr (e := 32) hJ kR_0 fR_15_40 fl_X12_165 dX12_row_66 rfl ?_
      refine j_iload hJ dX12_row_69 0 rfl ?_
      refine j_iald hJ g5 kR_32 hF.1 hF.2.1 dX12_row_71 (fun v12 ev12 gv12 => ?_)
      have hF := hF.2.2 v12 ev12 gv12
      refine j_i2l hJ gv12 dX12_row_72 ?_
      refine j_goto hJ 114 dX12_row_73 (by decide) ?_
      exact j_lret hJ rfl (rl_ri gv12) dX12_row_114 hF
  · have hF := hF.2 z3
    refine j_lconst (x := 0) hJ dX12_row_51 rfl ?_
    exact j_lret hJ rfl lkm_0 dX12_row_52 hF
set_option maxHeartbeats 4000000 in
set_option maxRecDepth 100000 in
theorem k_X12_row_b36 {l : Launch} {D : va_G} {cy : Nat → ClassId} {ad : Nat → Nat} {Q : Int → MM → Prop} {J : Nat → List (Nat × Value) → List Value → MM → Prop} (hin : jIn ad ksR.length)   (hJ : jOk l D vwCl (tyR cy) cy ad ftR ksR (XtR ad) Om RX12 cX12_row 5 2 ({ frames := 0, cells := 0, slots := 0, locals := 0 } : Room) Q J)  : ∀ (x1 x2 x3 : Int) (M : MM), ri_ x1 → ri_ x2 → ri_ x3 → w_X12_row_b36  Q  x1 x2 x3 M → J 36 [(0, .ref (ad 0)), (1, .int (Ii x1)), (2, .int (Ii x2)), (3, .int (Ii x3))] [.ref (ad 0)] M := by
  intro x1 x2 x3 M gx1 gx2 gx3 hF
  unfold w_X12_row_b36 at hF
  refine j_iconst hJ dX12_row_36 ?_
  refine j_goto hJ 41 dX12_row_37 (by decide) ?_
  exact j_sub hJ [0, 1, 2, 3] rfl (k_X12_row_b41 hin  hJ  x1 x2 x3 1 _ gx1 gx2 gx3 rk_1 hF)
set_option maxHeartbeats 4000000 in
set_option maxRecDepth 100000 in
theorem c_X12_row {l : Launch} {D : va_G} {cy : Nat → ClassId} {ad : Nat → Nat} (hin : jIn ad ksR.length) : jCN l D vwCl (tyR cy) cy ad ftR ksR (XtR ad) yX12_row (.code yX12_row cX12_row 5 (some .long) :: Om) ({ frames := 0, cells := 0, slots := 0, locals := 0 } : Room) 2 (W_X12_row ad) := by
  refine jCN_of (y := yX12_row) (cc := cX12_row) (nL := 5) (rk := 2) (rm := ({ frames := 0, cells := 0, slots := 0, locals := 0 } : Room)) (own := RX12) (tyR_ok cy) hin (XtR_ok ad) Om_good (by decide) rfl ?_
  intro Q av M hF
  obtain ⟨p1, p2, p3, rfl, gp1, gp2, gp3, hF⟩ := hF
  refine ⟨Nat.le_of_ble_eq_true rfl, fun J hJ => ?_⟩
  show J 0 [(0, .ref (ad 0)), (1, .int (Ii p1)), (2, .int (Ii p2)), (3, .int (Ii p3))] [] M
  unfold w_X12_row at hF
  refine j_aload_n hJ dX12_row_0 rfl 0 rfl ?_
  refine j_iload_n hJ dX12_row_1 rfl 1 rfl ?_
  refine j_if_lt hJ 36 gp1 dX12_row_2 (by decide) (fun z1 => ?_) (fun z1 => ?_)
  · have hF := hF.1 z1
    exact j_sub hJ [0, 1, 2, 3] rfl (k_X12_row_b36 hin  hJ  p1 p2 p3 _ gp1 gp2 gp3 hF)
  · have hF := hF.2 z1
    refine j_iload_n hJ dX12_row_5 rfl 1 rfl ?_
    refine j_aload_n hJ dX12_row_6 rfl 0 rfl ?_
    refine j_gi hJ kR_0 fR_15_44 rfl fl_X12_485 dX12_row_7 (fun v2 ev2 gv2 => ?_)
    have hF := hF v2 ev2 gv2
    refine j_icmp_ge hJ 36 gp1 gv2 dX12_row_10 (by decide) (fun z3 => ?_) (fun z3 => ?_)
    · have hF := hF.1 z3
      exact j_sub hJ [0, 1, 2, 3] rfl (k_X12_row_b36 hin  hJ  p1 p2 p3 _ gp1 gp2 gp3 hF)
    · have hF := hF.2 z3
      refine j_iload_n hJ dX12_row_13 rfl 2 rfl ?_
      refine j_if_lt hJ 36 gp2 dX12_row_14 (by decide) (fun z4 => ?_) (fun z4 => ?_)
      · have hF := hF.1 z4
        exact j_sub hJ [0, 1, 2, 3] rfl (k_X12_row_b36 hin  hJ  p1 p2 p3 _ gp1 gp2 gp3 hF)
      · have hF := hF.2 z4
        refine j_iload_n hJ dX12_row_17 rfl 2 rfl ?_
        refine j_aload_n hJ dX12_row_18 rfl 0 rfl ?_
        refine j_gr (e := 31) hJ kR_0 fR_15_39 fl_X12_162 dX12_row_19 rfl ?_
        refine j_iload_n hJ dX12_row_22 rfl 1 rfl ?_
        refine j_iald hJ gp1 kR_31 hF.1 hF.2.1 dX12_row_23 (fun v5 ev5 gv5 => ?_)
        have hF := hF.2.2 v5 ev5 gv5
        refine j_icmp_ge hJ 36 gp2 gv5 dX12_row_24 (by decide) (fun z6 => ?_) (fun z6 => ?_)
        · have hF := hF.1 z6
          exact j_sub hJ [0, 1, 2, 3] rfl (k_X12_row_b36 hin  hJ  p1 p2 p3 _ gp1 gp2 gp3 hF)
        · have hF := hF.2 z6
          refine j_iload_n hJ dX12_row_27 rfl 3 rfl ?_
          refine j_if_lt hJ 36 gp3 dX12_row_28 (by decide) (fun z7 => ?_) (fun z7 => ?_)
          · have hF := hF.1 z7
            exact j_sub hJ [0, 1, 2, 3] rfl (k_X12_row_b36 hin  hJ  p1 p2 p3 _ gp1 gp2 gp3 hF)
          · have hF := hF.2 z7
            refine j_iload_n hJ dX12_row_31 rfl 3 rfl ?_
            refine j_iconst hJ dX12_row_32 ?_
            refine j_icmp_le hJ 40 gp3 rk_3 dX12_row_33 (by decide) (fun z8 => ?_) (fun z8 => ?_)
            · have hF := hF.1 z8
              refine j_iconst hJ dX12_row_40 ?_
              exact j_sub hJ [0, 1, 2, 3] rfl (k_X12_row_b41 hin  hJ  p1 p2 p3 0 _ gp1 gp2 gp3 rk_0 hF)
            · have hF := hF.2 z8
              exact j_sub hJ [0, 1, 2, 3] rfl (k_X12_row_b36 hin  hJ  p1 p2 p3 _ gp1 gp2 gp3 hF)
def W_X12_turned (ad : Nat → Nat) (Q : Int → MM → Prop) (av : List Value) (M : MM) : Prop := ∃ (p1 : Int) (p2 : Int) (p3 : Int), av = [.long (Ll p1), .int (Ii p2), .int (Ii p3)] ∧ rl_ p1 ∧ ri_ p2 ∧ ri_ p3 ∧ w_X12_turned  Q p1 p2 p3 M
set_option maxHeartbeats 4000000 in
set_option maxRecDepth 100000 in
theorem c_X12_turned {l : Launch} {D : va_G} {cy : Nat → ClassId} {ad : Nat → Nat} (hin : jIn ad ksR.length) : jCN l D vwCl (tyR cy) cy ad ftR ksR (XtR ad) yX12_turned (.code yX12_turned cX12_turned 4 (some .long) :: Om) ({ frames := 0, cells := 0, slots := 0, locals := 0 } : Room) 2 (W_X12_turned ad) := by
  refine jCN_of (y := yX12_turned) (cc := cX12_turned) (nL := 4) (rk := 2) (rm := ({ frames := 0, cells := 0, slots := 0, locals := 0 } : Room)) (own := RX12) (tyR_ok cy) hin (XtR_ok ad) Om_good (by decide) rfl ?_
  intro Q av M hF
  obtain ⟨p1, p2, p3, rfl, gp1, gp2, gp3, hF⟩ := hF
  refine ⟨Nat.le_of_ble_eq_true rfl, fun J hJ => ?_⟩
  show J 0 [(0, .long (Ll p1)), (2, .int (Ii p2)), (3, .int (Ii p3))] [] M
  unfold w_X12_turned at hF
  refine j_lload_n hJ dX12_turned_0 rfl 0 rfl ?_
  refine j_iload_n hJ dX12_turned_1 rfl 1 rfl ?_
  refine j_i2l hJ gp2 dX12_turned_2 ?_
  refine j_lcmp_ne hJ 12 gp1 (rl_ri gp2) dX12_turned_3 dX12_turned_4 (by decide) (fun z1 => ?_) (fun z1 => ?_)
  · have hF := hF.1 z1
    refine j_lload_n hJ dX12_turned_12 rfl 0 rfl ?_
    refine j_iload_n hJ dX12_turned_13 rfl 2 rfl ?_
    refine j_i2l hJ gp3 dX12_turned_14 ?_
    refine j_lcmp_ne hJ 24 gp1 (rl_ri gp3) dX12_turned_15 dX12_turned_16 (by decide) (fun z2 => ?_) (fun z2 => ?_)
    · have hF := hF.1 z2
      refine j_lload_n hJ dX12_turned_24 rfl 0 rfl ?_
      exact j_lret hJ rfl gp1 dX12_turned_25 hF
    · have hF := hF.2 z2
      refine j_iload_n hJ dX12_turned_19 rfl 1 rfl ?_
      refine j_i2l hJ gp2 dX12_turned_20 ?_
      refine j_goto hJ 25 dX12_turned_21 (by decide) ?_
      exact j_lret hJ rfl (rl_ri gp2) dX12_turned_25 hF
  · have hF := hF.2 z1
    refine j_iload_n hJ dX12_turned_7 rfl 2 rfl ?_
    refine j_i2l hJ gp3 dX12_turned_8 ?_
    refine j_goto hJ 25 dX12_turned_9 (by decide) ?_
    exact j_lret hJ rfl (rl_ri gp3) dX12_turned_25 hF
def W_X12_swap (ad : Nat → Nat) (Q : Int → MM → Prop) (av : List Value) (M : MM) : Prop := ∃ (p1 : Int) (p2 : Int), av = [.ref (ad 0), .int (Ii p1), .int (Ii p2)] ∧ ri_ p1 ∧ ri_ p2 ∧ w_X12_swap  Q p1 p2 M
set_option maxHeartbeats 4000000 in
set_option maxRecDepth 100000 in
theorem k_X12_swap_b509 {l : Launch} {D : va_G} {cy : Nat → ClassId} {ad : Nat → Nat} {Q : Int → MM → Prop} {J : Nat → List (Nat × Value) → List Value → MM → Prop} (hin : jIn ad ksR.length)   (hJ : jOk l D vwCl (tyR cy) cy ad ftR ksR (XtR ad) Om RX12 cX12_swap 9 1 ({ frames := 307, cells := 0, slots := 0, locals := 8862 } : Room) Q J)  : ∀ (x1 x2 x4 x5 : Int) (M : MM), ri_ x1 → ri_ x2 → ri_ x4 → ri_ x5 → w_X12_swap_b509  Q  x1 x2 x4 x5 M → J 509 [(0, .ref (ad 0)), (1, .int (Ii x1)), (2, .int (Ii x2)), (4, .int (Ii x4)), (5, .int (Ii x5))] [] M := by
  have H9 : ∀ (n : Nat) (x1 x2 x4 x5 : Int) (M : MM), ri_ x1 → ri_ x2 → ri_ x4 → ri_ x5 → jit (fun _ _ _ _ _ => False) (wb_X12_swap_b509  Q ) n x1 x2 x4 x5 M → J 509 [(0, .ref (ad 0)), (1, .int (Ii x1)), (2, .int (Ii x2)), (4, .int (Ii x4)), (5, .int (Ii x5))] [] M := by
    intro n
    induction n with
    | zero => intro x1 x2 x4 x5 M gx1 gx2 gx4 gx5 hF; exact False.elim hF
    | succ n ih =>
    intro x1 x2 x4 x5 M gx1 gx2 gx4 gx5 hF
    have hF : wb_X12_swap_b509  Q  (jit (fun _ _ _ _ _ => False) (wb_X12_swap_b509  Q ) n) x1 x2 x4 x5 M := hF
    unfold wb_X12_swap_b509 at hF
    refine j_iload hJ dX12_swap_509 4 rfl ?_
    refine j_aload_n hJ dX12_swap_511 rfl 0 rfl ?_
    refine j_gi hJ kR_0 fR_15_31 rfl fl_X12_470 dX12_swap_512 (fun v1 ev1 gv1 => ?_)
    have hF := hF v1 ev1 gv1
    refine j_icmp_ge hJ 545 gx5 gv1 dX12_swap_515 (by decide) (fun z2 => ?_) (fun z2 => ?_)
    · have hF := hF.1 z2
      refine j_iload hJ dX12_swap_545 3 rfl ?_
      refine j_if_le hJ 560 gx4 dX12_swap_547 (by decide) (fun z3 => ?_) (fun z3 => ?_)
      · have hF := hF.1 z3
        refine j_iload hJ dX12_swap_560 3 rfl ?_
        exact j_iret hJ rfl gx4 dX12_swap_562 hF
      · have hF := hF.2 z3
        refine j_aload_n hJ dX12_swap_550 rfl 0 rfl ?_
        refine j_aload_n hJ dX12_swap_551 rfl 0 rfl ?_
        refine j_gi hJ kR_0 fR_15_29 rfl fl_X12_482 dX12_swap_552 (fun v4 ev4 gv4 => ?_)
        have hF := hF v4 ev4 gv4
        refine j_iconst hJ dX12_swap_555 ?_
        refine j_isub hJ dX12_swap_556 ?_
        have g5 := hF.1; have hF := hF.2
        refine j_callVv hJ (c_X12_lookAtPromises (l := l) (D := D) (cy := cy) (ad := ad) hin) rfl om_1281 ⟨rfl, rfl, Nat.le_of_ble_eq_true rfl, Nat.le_of_ble_eq_true rfl⟩ [.int (Ii (v4 - 1))] mv_X12_503 hd_X12_lookAtPromisesv kR_0 rfl rfl rfl (Nat.le_of_ble_eq_true rfl) dX12_swap_557 ⟨(v4 - 1), rfl, g5, hF⟩ (fun M7 qM7 => ?_)
        have hF := qM7
        refine j_iload hJ dX12_swap_560 3 rfl ?_
        exact j_iret hJ rfl gx4 dX12_swap_562 hF
    · have hF := hF.2 z2
      refine j_aload_n hJ dX12_swap_518 rfl 0 rfl ?_
      refine j_gr (e := 24) hJ kR_0 fR_15_30 fl_X12_141 dX12_swap_519 rfl ?_
      refine j_iload hJ dX12_swap_522 4 rfl ?_
      refine j_aload_n hJ dX12_swap_524 rfl 0 rfl ?_
      refine j_gr (e := 24) hJ kR_0 fR_15_30 fl_X12_141 dX12_swap_525 rfl ?_
      refine j_iload hJ dX12_swap_528 4 rfl ?_
      refine j_iald hJ gx5 kR_24 hF.1 hF.2.1 dX12_swap_530 (fun v8 ev8 gv8 => ?_)
      have hF := hF.2.2 v8 ev8 gv8
      refine j_i2l hJ gv8 dX12_swap_531 ?_
      refine j_iload_n hJ dX12_swap_532 rfl 1 rfl ?_
      refine j_iload_n hJ dX12_swap_533 rfl 2 rfl ?_
      refine j_callSl hJ (c_X12_turned (l := l) (D := D) (cy := cy) (ad := ad) hin) rfl om_1293 ⟨rfl, rfl, Nat.le_of_ble_eq_true rfl, Nat.le_of_ble_eq_true rfl⟩ [.long (Ll v8), .int (Ii x1), .int (Ii x2)] mv_X12_515 hd_X12_turned rfl (Nat.le_of_ble_eq_true rfl) dX12_swap_534 ⟨v8, x1, x2, rfl, (rl_ri gv8), gx1, gx2, hF⟩ (fun r9 M10 gr9 qM10 => ?_)
      have hF := qM10 gr9
      refine j_l2i hJ dX12_swap_537 ?_
      have g11 := hF.1; have hF := hF.2
      refine j_iast hJ gx5 g11 kR_24 hF.1 hF.2.1 dX12_swap_538 (fun M12 eM12 => ?_)
      have hF := hF.2.2 M12 eM12
      refine j_iinc (lv' := [(5, .int (Ii (x5 + 1))), (0, .ref (ad 0)), (1, .int (Ii x1)), (2, .int (Ii x2)), (4, .int (Ii x4))]) (k := 4) hJ dX12_swap_539 rfl (by decide) rfl ?_
      have g13 := hF.1; have hF := hF.2
      refine j_goto hJ 509 dX12_swap_542 (by decide) ?_
      exact j_sub hJ [1, 2, 3, 4, 0] rfl (ih x1 x2 x4 (x5 + 1) _ gx1 gx2 gx4 g13 hF)
  intro x1 x2 x4 x5 M gx1 gx2 gx4 gx5 hF
  obtain ⟨n, hF⟩ := hF
  exact H9 n x1 x2 x4 x5 M gx1 gx2 gx4 gx5 hF
set_option maxHeartbeats 4000000 in
set_option maxRecDepth 100000 in
theorem k_X12_swap_b500 {l : Launch} {D : va_G} {cy : Nat → ClassId} {ad : Nat → Nat} {Q : Int → MM → Prop} {J : Nat → List (Nat × Value) → List Value → MM → Prop} (hin : jIn ad ksR.length)   (hJ : jOk l D vwCl (tyR cy) cy ad ftR ksR (XtR ad) Om RX12 cX12_swap 9 1 ({ frames := 307, cells := 0, slots := 0, locals := 8862 } : Room) Q J) {K431 : Int → Int → Int → Int → MM → Prop} (hK431 : ∀ (x1 x2 x4 x5 : Int) (M : MM), ri_ x1 → ri_ x2 → ri_ x4 → ri_ x5 → K431 x1 x2 x4 x5 M → J 431 [(0, .ref (ad 0)), (1, .int (Ii x1)), (2, .int (Ii x2)), (4, .int (Ii x4)), (5, .int (Ii x5))] [] M) : ∀ (x1 x2 x4 x5 : Int) (M : MM), ri_ x1 → ri_ x2 → ri_ x4 → ri_ x5 → w_X12_swap_b500  Q K431 x1 x2 x4 x5 M → J 500 [(0, .ref (ad 0)), (1, .int (Ii x1)), (2, .int (Ii x2)), (4, .int (Ii x4)), (5, .int (Ii x5))] [] M := by
  intro x1 x2 x4 x5 M gx1 gx2 gx4 gx5 hF
  unfold w_X12_swap_b500 at hF
  refine j_iinc (lv' := [(5, .int (Ii (x5 + 1))), (0, .ref (ad 0)), (1, .int (Ii x1)), (2, .int (Ii x2)), (4, .int (Ii x4))]) (k := 4) hJ dX12_swap_500 rfl (by decide) rfl ?_
  have g1 := hF.1; have hF := hF.2
  refine j_goto hJ 431 dX12_swap_503 (by decide) ?_
  exact j_sub hJ [1, 2, 3, 4, 0] rfl (hK431 x1 x2 x4 (x5 + 1) _ gx1 gx2 gx4 g1 hF)
set_option maxHeartbeats 4000000 in
set_option maxRecDepth 100000 in
theorem k_X12_swap_b431 {l : Launch} {D : va_G} {cy : Nat → ClassId} {ad : Nat → Nat} {Q : Int → MM → Prop} {J : Nat → List (Nat × Value) → List Value → MM → Prop} (hin : jIn ad ksR.length)   (hJ : jOk l D vwCl (tyR cy) cy ad ftR ksR (XtR ad) Om RX12 cX12_swap 9 1 ({ frames := 307, cells := 0, slots := 0, locals := 8862 } : Room) Q J)  : ∀ (x1 x2 x4 x5 : Int) (M : MM), ri_ x1 → ri_ x2 → ri_ x4 → ri_ x5 → w_X12_swap_b431  Q  x1 x2 x4 x5 M → J 431 [(0, .ref (ad 0)), (1, .int (Ii x1)), (2, .int (Ii x2)), (4, .int (Ii x4)), (5, .int (Ii x5))] [] M := by
  have H9 : ∀ (n : Nat) (x1 x2 x4 x5 : Int) (M : MM), ri_ x1 → ri_ x2 → ri_ x4 → ri_ x5 → jit (fun _ _ _ _ _ => False) (wb_X12_swap_b431  Q ) n x1 x2 x4 x5 M → J 431 [(0, .ref (ad 0)), (1, .int (Ii x1)), (2, .int (Ii x2)), (4, .int (Ii x4)), (5, .int (Ii x5))] [] M := by
    intro n
    induction n with
    | zero => intro x1 x2 x4 x5 M gx1 gx2 gx4 gx5 hF; exact False.elim hF
    | succ n ih =>
    intro x1 x2 x4 x5 M gx1 gx2 gx4 gx5 hF
    have hF : wb_X12_swap_b431  Q  (jit (fun _ _ _ _ _ => False) (wb_X12_swap_b431  Q ) n) x1 x2 x4 x5 M := hF
    unfold wb_X12_swap_b431 at hF
    refine j_iload hJ dX12_swap_431 4 rfl ?_
    refine j_bipush hJ dX12_swap_433 (by decide) ?_
    refine j_aload_n hJ dX12_swap_435 rfl 0 rfl ?_
    refine j_gi hJ kR_0 fR_15_20 rfl fl_X12_413 dX12_swap_436 (fun v1 ev1 gv1 => ?_)
    have hF := hF v1 ev1 gv1
    refine j_imul hJ dX12_swap_439 ?_
    have g2 := hF.1; have hF := hF.2
    refine j_icmp_ge hJ 506 gx5 g2 dX12_swap_440 (by decide) (fun z3 => ?_) (fun z3 => ?_)
    · have hF := hF.1 z3
      refine j_iconst hJ dX12_swap_506 ?_
      refine j_istore (lv' := [(5, .int (Ii 0)), (0, .ref (ad 0)), (1, .int (Ii x1)), (2, .int (Ii x2)), (4, .int (Ii x4))]) hJ dX12_swap_507 (by decide) rfl ?_
      exact j_sub hJ [1, 2, 3, 4, 0] rfl (k_X12_swap_b509 hin  hJ  x1 x2 x4 0 _ gx1 gx2 gx4 rk_0 hF)
    · have hF := hF.2 z3
      refine j_aload_n hJ dX12_swap_443 rfl 0 rfl ?_
      refine j_iload hJ dX12_swap_444 4 rfl ?_
      refine j_callVz hJ (c_X12_isLinkStatic (l := l) (D := D) (cy := cy) (ad := ad) hin) rfl om_1145 ⟨rfl, rfl, Nat.le_of_ble_eq_true rfl, Nat.le_of_ble_eq_true rfl⟩ [.int (Ii x5)] mv_X12_519 hd_X12_isLinkStaticv kR_0 rfl rfl rfl (Nat.le_of_ble_eq_true rfl) dX12_swap_446 ⟨x5, rfl, gx5, hF⟩ (fun r4 M5 gr4 qM5 => ?_)
      have hF := qM5 gr4
      refine j_if_eq hJ 500 (jz_ri gr4) dX12_swap_449 (by decide) (fun z6 => ?_) (fun z6 => ?_)
      · have hF := hF.1 z6
        exact j_sub hJ [0, 1, 2, 3, 4] rfl (k_X12_swap_b500 hin  hJ ih x1 x2 x4 x5 _ gx1 gx2 gx4 gx5 hF)
      · have hF := hF.2 z6
        refine j_aload_n hJ dX12_swap_452 rfl 0 rfl ?_
        refine j_gr (e := 6) hJ kR_0 fR_15_7 fl_X12_84 dX12_swap_453 rfl ?_
        refine j_iload hJ dX12_swap_456 4 rfl ?_
        refine j_lald hJ gx5 kR_6 hF.1 hF.2.1 dX12_swap_458 (fun v7 ev7 gv7 => ?_)
        have hF := hF.2.2 v7 ev7 gv7
        refine j_iload_n hJ dX12_swap_459 rfl 1 rfl ?_
        refine j_iload_n hJ dX12_swap_460 rfl 2 rfl ?_
        refine j_callSl hJ (c_X12_turned (l := l) (D := D) (cy := cy) (ad := ad) hin) rfl om_1293 ⟨rfl, rfl, Nat.le_of_ble_eq_true rfl, Nat.le_of_ble_eq_true rfl⟩ [.long (Ll v7), .int (Ii x1), .int (Ii x2)] mv_X12_515 hd_X12_turned rfl (Nat.le_of_ble_eq_true rfl) dX12_swap_461 ⟨v7, x1, x2, rfl, gv7, gx1, gx2, hF⟩ (fun r8 M9 gr8 qM9 => ?_)
        have hF := qM9 gr8
        refine j_aload_n hJ dX12_swap_464 rfl 0 rfl ?_
        refine j_gr (e := 6) hJ kR_0 fR_15_7 fl_X12_84 dX12_swap_465 rfl ?_
        refine j_iload hJ dX12_swap_468 4 rfl ?_
        refine j_lald hJ gx5 kR_6 hF.1 hF.2.1 dX12_swap_470 (fun v10 ev10 gv10 => ?_)
        have hF := hF.2.2 v10 ev10 gv10
        refine j_lcmp_ne hJ 478 gr8 gv10 dX12_swap_471 dX12_swap_472 (by decide) (fun z11 => ?_) (fun z11 => ?_)
        · have hF := hF.1 z11
          refine j_aload_n hJ dX12_swap_478 rfl 0 rfl ?_
          refine j_iconst hJ dX12_swap_479 ?_
          refine j_iload hJ dX12_swap_480 4 rfl ?_
          refine j_aload_n hJ dX12_swap_482 rfl 0 rfl ?_
          refine j_gr (e := 6) hJ kR_0 fR_15_7 fl_X12_84 dX12_swap_483 rfl ?_
          refine j_iload hJ dX12_swap_486 4 rfl ?_
          refine j_lald hJ gx5 kR_6 hF.1 hF.2.1 dX12_swap_488 (fun v12 ev12 gv12 => ?_)
          have hF := hF.2.2 v12 ev12 gv12
          refine j_iload_n hJ dX12_swap_489 rfl 1 rfl ?_
          refine j_iload_n hJ dX12_swap_490 rfl 2 rfl ?_
          refine j_callSl hJ (c_X12_turned (l := l) (D := D) (cy := cy) (ad := ad) hin) rfl om_1293 ⟨rfl, rfl, Nat.le_of_ble_eq_true rfl, Nat.le_of_ble_eq_true rfl⟩ [.long (Ll v12), .int (Ii x1), .int (Ii x2)] mv_X12_515 hd_X12_turned rfl (Nat.le_of_ble_eq_true rfl) dX12_swap_491 ⟨v12, x1, x2, rfl, gv12, gx1, gx2, hF⟩ (fun r13 M14 gr13 qM14 => ?_)
          have hF := qM14 gr13
          refine j_callVv hJ (c_X12_write (l := l) (D := D) (cy := cy) (ad := ad) hin) rfl om_1121 ⟨rfl, rfl, Nat.le_of_ble_eq_true rfl, Nat.le_of_ble_eq_true rfl⟩ [.int (Ii (-1)), .int (Ii x5), .long (Ll r13)] mv_X12_499 hd_X12_writev kR_0 rfl rfl rfl (Nat.le_of_ble_eq_true rfl) dX12_swap_494 ⟨(-1), x5, r13, rfl, rk_m1, gx5, gr13, hF⟩ (fun M16 qM16 => ?_)
          have hF := qM16
          refine j_iinc (lv' := [(4, .int (Ii (x4 + 1))), (0, .ref (ad 0)), (1, .int (Ii x1)), (2, .int (Ii x2)), (5, .int (Ii x5))]) (k := 3) hJ dX12_swap_497 rfl (by decide) rfl ?_
          have g17 := hF.1; have hF := hF.2
          exact j_sub hJ [1, 2, 3, 0, 4] rfl (k_X12_swap_b500 hin  hJ ih x1 x2 (x4 + 1) x5 _ gx1 gx2 g17 gx5 hF)
        · have hF := hF.2 z11
          refine j_goto hJ 500 dX12_swap_475 (by decide) ?_
          exact j_sub hJ [0, 1, 2, 3, 4] rfl (k_X12_swap_b500 hin  hJ ih x1 x2 x4 x5 _ gx1 gx2 gx4 gx5 hF)
  intro x1 x2 x4 x5 M gx1 gx2 gx4 gx5 hF
  obtain ⟨n, hF⟩ := hF
  exact H9 n x1 x2 x4 x5 M gx1 gx2 gx4 gx5 hF
set_option maxHeartbeats 4000000 in
set_option maxRecDepth 100000 in
theorem k_X12_swap_b422 {l : Launch} {D : va_G} {cy : Nat → ClassId} {ad : Nat → Nat} {Q : Int → MM → Prop} {J : Nat → List (Nat × Value) → List Value → MM → Prop} (hin : jIn ad ksR.length)   (hJ : jOk l D vwCl (tyR cy) cy ad ftR ksR (XtR ad) Om RX12 cX12_swap 9 1 ({ frames := 307, cells := 0, slots := 0, locals := 8862 } : Room) Q J) {K309 : Int → Int → Int → Int → MM → Prop} (hK309 : ∀ (x1 x2 x4 x5 : Int) (M : MM), ri_ x1 → ri_ x2 → ri_ x4 → ri_ x5 → K309 x1 x2 x4 x5 M → J 309 [(0, .ref (ad 0)), (1, .int (Ii x1)), (2, .int (Ii x2)), (4, .int (Ii x4)), (5, .int (Ii x5))] [] M) : ∀ (x1 x2 x4 x5 : Int) (M : MM), ri_ x1 → ri_ x2 → ri_ x4 → ri_ x5 → w_X12_swap_b422  Q K309 x1 x2 x4 x5 M → J 422 [(0, .ref (ad 0)), (1, .int (Ii x1)), (2, .int (Ii x2)), (4, .int (Ii x4)), (5, .int (Ii x5))] [] M := by
  intro x1 x2 x4 x5 M gx1 gx2 gx4 gx5 hF
  unfold w_X12_swap_b422 at hF
  refine j_iinc (lv' := [(5, .int (Ii (x5 + 1))), (0, .ref (ad 0)), (1, .int (Ii x1)), (2, .int (Ii x2)), (4, .int (Ii x4))]) (k := 4) hJ dX12_swap_422 rfl (by decide) rfl ?_
  have g1 := hF.1; have hF := hF.2
  refine j_goto hJ 309 dX12_swap_425 (by decide) ?_
  exact j_sub hJ [1, 2, 3, 4, 0] rfl (hK309 x1 x2 x4 (x5 + 1) _ gx1 gx2 gx4 g1 hF)
set_option maxHeartbeats 4000000 in
set_option maxRecDepth 100000 in
theorem k_X12_swap_b416 {l : Launch} {D : va_G} {cy : Nat → ClassId} {ad : Nat → Nat} {Q : Int → MM → Prop} {J : Nat → List (Nat × Value) → List Value → MM → Prop} (hin : jIn ad ksR.length)   (hJ : jOk l D vwCl (tyR cy) cy ad ftR ksR (XtR ad) Om RX12 cX12_swap 9 1 ({ frames := 307, cells := 0, slots := 0, locals := 8862 } : Room) Q J) {K309 : Int → Int → Int → Int → MM → Prop} (hK309 : ∀ (x1 x2 x4 x5 : Int) (M : MM), ri_ x1 → ri_ x2 → ri_ x4 → ri_ x5 → K309 x1 x2 x4 x5 M → J 309 [(0, .ref (ad 0)), (1, .int (Ii x1)), (2, .int (Ii x2)), (4, .int (Ii x4)), (5, .int (Ii x5))] [] M) {K321 : Int → Int → Int → Int → Int → MM → Prop} (hK321 : ∀ (x1 x2 x4 x5 x6 : Int) (M : MM), ri_ x1 → ri_ x2 → ri_ x4 → ri_ x5 → ri_ x6 → K321 x1 x2 x4 x5 x6 M → J 321 [(0, .ref (ad 0)), (1, .int (Ii x1)), (2, .int (Ii x2)), (4, .int (Ii x4)), (5, .int (Ii x5)), (6, .int (Ii x6))] [] M) : ∀ (x1 x2 x4 x5 x6 : Int) (M : MM), ri_ x1 → ri_ x2 → ri_ x4 → ri_ x5 → ri_ x6 → w_X12_swap_b416  Q K309 K321 x1 x2 x4 x5 x6 M → J 416 [(0, .ref (ad 0)), (1, .int (Ii x1)), (2, .int (Ii x2)), (4, .int (Ii x4)), (5, .int (Ii x5)), (6, .int (Ii x6))] [] M := by
  intro x1 x2 x4 x5 x6 M gx1 gx2 gx4 gx5 gx6 hF
  unfold w_X12_swap_b416 at hF
  refine j_iinc (lv' := [(6, .int (Ii (x6 + 1))), (0, .ref (ad 0)), (1, .int (Ii x1)), (2, .int (Ii x2)), (4, .int (Ii x4)), (5, .int (Ii x5))]) (k := 5) hJ dX12_swap_416 rfl (by decide) rfl ?_
  have g1 := hF.1; have hF := hF.2
  refine j_goto hJ 321 dX12_swap_419 (by decide) ?_
  exact j_sub hJ [1, 2, 3, 4, 5, 0] rfl (hK321 x1 x2 x4 x5 (x6 + 1) _ gx1 gx2 gx4 gx5 g1 hF)
set_option maxHeartbeats 4000000 in
set_option maxRecDepth 100000 in
theorem k_X12_swap_b321 {l : Launch} {D : va_G} {cy : Nat → ClassId} {ad : Nat → Nat} {Q : Int → MM → Prop} {J : Nat → List (Nat × Value) → List Value → MM → Prop} (hin : jIn ad ksR.length)   (hJ : jOk l D vwCl (tyR cy) cy ad ftR ksR (XtR ad) Om RX12 cX12_swap 9 1 ({ frames := 307, cells := 0, slots := 0, locals := 8862 } : Room) Q J) {K309 : Int → Int → Int → Int → MM → Prop} (hK309 : ∀ (x1 x2 x4 x5 : Int) (M : MM), ri_ x1 → ri_ x2 → ri_ x4 → ri_ x5 → K309 x1 x2 x4 x5 M → J 309 [(0, .ref (ad 0)), (1, .int (Ii x1)), (2, .int (Ii x2)), (4, .int (Ii x4)), (5, .int (Ii x5))] [] M) : ∀ (x1 x2 x4 x5 x6 : Int) (M : MM), ri_ x1 → ri_ x2 → ri_ x4 → ri_ x5 → ri_ x6 → w_X12_swap_b321  Q K309 x1 x2 x4 x5 x6 M → J 321 [(0, .ref (ad 0)), (1, .int (Ii x1)), (2, .int (Ii x2)), (4, .int (Ii x4)), (5, .int (Ii x5)), (6, .int (Ii x6))] [] M := by
  have H9 : ∀ (n : Nat) (x1 x2 x4 x5 x6 : Int) (M : MM), ri_ x1 → ri_ x2 → ri_ x4 → ri_ x5 → ri_ x6 → jit (fun _ _ _ _ _ _ => False) (wb_X12_swap_b321  Q K309) n x1 x2 x4 x5 x6 M → J 321 [(0, .ref (ad 0)), (1, .int (Ii x1)), (2, .int (Ii x2)), (4, .int (Ii x4)), (5, .int (Ii x5)), (6, .int (Ii x6))] [] M := by
    intro n
    induction n with
    | zero => intro x1 x2 x4 x5 x6 M gx1 gx2 gx4 gx5 gx6 hF; exact False.elim hF
    | succ n ih =>
    intro x1 x2 x4 x5 x6 M gx1 gx2 gx4 gx5 gx6 hF
    have hF : wb_X12_swap_b321  Q K309 (jit (fun _ _ _ _ _ _ => False) (wb_X12_swap_b321  Q K309) n) x1 x2 x4 x5 x6 M := hF
    unfold wb_X12_swap_b321 at hF
    refine j_aload_n hJ dX12_swap_321 rfl 0 rfl ?_
    refine j_gr (e := 22) hJ kR_0 fR_15_24 fl_X12_134 dX12_swap_322 rfl ?_
    refine j_iload hJ dX12_swap_325 4 rfl ?_
    refine j_zald hJ gx5 kR_22 hF.1 hF.2.1 dX12_swap_327 (fun v1 ev1 gv1 => ?_)
    have hF := hF.2.2 v1 ev1 gv1
    refine j_if_eq hJ 422 (jz_ri gv1) dX12_swap_328 (by decide) (fun z2 => ?_) (fun z2 => ?_)
    · have hF := hF.1 z2
      exact j_sub hJ [0, 1, 2, 3, 4] rfl (k_X12_swap_b422 hin  hJ hK309 x1 x2 x4 x5 _ gx1 gx2 gx4 gx5 hF)
    · have hF := hF.2 z2
      refine j_iload hJ dX12_swap_331 5 rfl ?_
      refine j_aload_n hJ dX12_swap_333 rfl 0 rfl ?_
      refine j_aload_n hJ dX12_swap_334 rfl 0 rfl ?_
      refine j_gr (e := 19) hJ kR_0 fR_15_21 fl_X12_125 dX12_swap_335 rfl ?_
      refine j_iload hJ dX12_swap_338 4 rfl ?_
      refine j_iald hJ gx5 kR_19 hF.1 hF.2.1 dX12_swap_340 (fun v3 ev3 gv3 => ?_)
      have hF := hF.2.2 v3 ev3 gv3
      refine j_aload_n hJ dX12_swap_341 rfl 0 rfl ?_
      refine j_gr (e := 20) hJ kR_0 fR_15_22 fl_X12_128 dX12_swap_342 rfl ?_
      refine j_iload hJ dX12_swap_345 4 rfl ?_
      refine j_iald hJ gx5 kR_20 hF.1 hF.2.1 dX12_swap_347 (fun v4 ev4 gv4 => ?_)
      have hF := hF.2.2 v4 ev4 gv4
      refine j_callVi hJ (c_X12_slotCount (l := l) (D := D) (cy := cy) (ad := ad) hin) rfl om_1089 ⟨rfl, rfl, Nat.le_of_ble_eq_true rfl, Nat.le_of_ble_eq_true rfl⟩ [.int (Ii v3), .int (Ii v4)] mv_X12_455 hd_X12_slotCountv kR_0 rfl rfl rfl (Nat.le_of_ble_eq_true rfl) dX12_swap_348 ⟨v3, v4, rfl, gv3, gv4, hF⟩ (fun r5 M6 gr5 qM6 => ?_)
      have hF := qM6 gr5
      refine j_icmp_ge hJ 422 gx6 gr5 dX12_swap_351 (by decide) (fun z7 => ?_) (fun z7 => ?_)
      · have hF := hF.1 z7
        exact j_sub hJ [0, 1, 2, 3, 4] rfl (k_X12_swap_b422 hin  hJ hK309 x1 x2 x4 x5 _ gx1 gx2 gx4 gx5 hF)
      · have hF := hF.2 z7
        refine j_aload_n hJ dX12_swap_354 rfl 0 rfl ?_
        refine j_gr (e := 23) hJ kR_0 fR_15_25 fl_X12_138 dX12_swap_355 rfl ?_
        refine j_aload_n hJ dX12_swap_358 rfl 0 rfl ?_
        refine j_gr (e := 21) hJ kR_0 fR_15_23 fl_X12_131 dX12_swap_359 rfl ?_
        refine j_iload hJ dX12_swap_362 4 rfl ?_
        refine j_iald hJ gx5 kR_21 hF.1 hF.2.1 dX12_swap_364 (fun v8 ev8 gv8 => ?_)
        have hF := hF.2.2 v8 ev8 gv8
        refine j_iload hJ dX12_swap_365 5 rfl ?_
        refine j_iadd hJ dX12_swap_367 ?_
        have g9 := hF.1; have hF := hF.2
        refine j_lald hJ g9 kR_23 hF.1 hF.2.1 dX12_swap_368 (fun v10 ev10 gv10 => ?_)
        have hF := hF.2.2 v10 ev10 gv10
        refine j_lstore (lv' := [(7, .long (Ll v10)), (0, .ref (ad 0)), (1, .int (Ii x1)), (2, .int (Ii x2)), (4, .int (Ii x4)), (5, .int (Ii x5)), (6, .int (Ii x6))]) hJ dX12_swap_369 (by decide) rfl ?_
        refine j_aload_n hJ dX12_swap_371 rfl 1 rfl ?_
        refine j_iload hJ dX12_swap_372 5 rfl ?_
        refine j_iload hJ dX12_swap_374 6 rfl ?_
        refine j_callVz hJ (c_X12_isLinkSlot (l := l) (D := D) (cy := cy) (ad := ad) hin) rfl om_1129 ⟨rfl, rfl, Nat.le_of_ble_eq_true rfl, Nat.le_of_ble_eq_true rfl⟩ [.int (Ii x5), .int (Ii x6)] mv_X12_512 hd_X12_isLinkSlotv kR_0 rfl rfl rfl (Nat.le_of_ble_eq_true rfl) dX12_swap_376 ⟨x5, x6, rfl, gx5, gx6, hF⟩ (fun r11 M12 gr11 qM12 => ?_)
        have hF := qM12 gr11
        refine j_if_eq hJ 416 (jz_ri gr11) dX12_swap_379 (by decide) (fun z13 => ?_) (fun z13 => ?_)
        · have hF := hF.1 z13
          exact j_sub hJ [1, 2, 3, 4, 5, 6] rfl (k_X12_swap_b416 hin  hJ hK309 ih x1 x2 x4 x5 x6 _ gx1 gx2 gx4 gx5 gx6 hF)
        · have hF := hF.2 z13
          refine j_lload hJ dX12_swap_382 0 rfl ?_
          refine j_iload_n hJ dX12_swap_384 rfl 2 rfl ?_
          refine j_iload_n hJ dX12_swap_385 rfl 3 rfl ?_
          refine j_callSl hJ (c_X12_turned (l := l) (D := D) (cy := cy) (ad := ad) hin) rfl om_1293 ⟨rfl, rfl, Nat.le_of_ble_eq_true rfl, Nat.le_of_ble_eq_true rfl⟩ [.long (Ll v10), .int (Ii x1), .int (Ii x2)] mv_X12_515 hd_X12_turned rfl (Nat.le_of_ble_eq_true rfl) dX12_swap_386 ⟨v10, x1, x2, rfl, gv10, gx1, gx2, hF⟩ (fun r14 M15 gr14 qM15 => ?_)
          have hF := qM15 gr14
          refine j_lload hJ dX12_swap_389 0 rfl ?_
          refine j_lcmp_ne hJ 398 gr14 gv10 dX12_swap_391 dX12_swap_392 (by decide) (fun z16 => ?_) (fun z16 => ?_)
          · have hF := hF.1 z16
            refine j_aload_n hJ dX12_swap_398 rfl 1 rfl ?_
            refine j_iload hJ dX12_swap_399 5 rfl ?_
            refine j_iload hJ dX12_swap_401 6 rfl ?_
            refine j_lload hJ dX12_swap_403 0 rfl ?_
            refine j_iload_n hJ dX12_swap_405 rfl 2 rfl ?_
            refine j_iload_n hJ dX12_swap_406 rfl 3 rfl ?_
            refine j_callSl hJ (c_X12_turned (l := l) (D := D) (cy := cy) (ad := ad) hin) rfl om_1293 ⟨rfl, rfl, Nat.le_of_ble_eq_true rfl, Nat.le_of_ble_eq_true rfl⟩ [.long (Ll v10), .int (Ii x1), .int (Ii x2)] mv_X12_515 hd_X12_turned rfl (Nat.le_of_ble_eq_true rfl) dX12_swap_407 ⟨v10, x1, x2, rfl, gv10, gx1, gx2, hF⟩ (fun r17 M18 gr17 qM18 => ?_)
            have hF := qM18 gr17
            refine j_callVv hJ (c_X12_write (l := l) (D := D) (cy := cy) (ad := ad) hin) rfl om_1121 ⟨rfl, rfl, Nat.le_of_ble_eq_true rfl, Nat.le_of_ble_eq_true rfl⟩ [.int (Ii x5), .int (Ii x6), .long (Ll r17)] mv_X12_499 hd_X12_writev kR_0 rfl rfl rfl (Nat.le_of_ble_eq_true rfl) dX12_swap_410 ⟨x5, x6, r17, rfl, gx5, gx6, gr17, hF⟩ (fun M20 qM20 => ?_)
            have hF := qM20
            refine j_iinc (lv' := [(4, .int (Ii (x4 + 1))), (7, .long (Ll v10)), (0, .ref (ad 0)), (1, .int (Ii x1)), (2, .int (Ii x2)), (5, .int (Ii x5)), (6, .int (Ii x6))]) (k := 4) hJ dX12_swap_413 rfl (by decide) rfl ?_
            have g21 := hF.1; have hF := hF.2
            exact j_sub hJ [2, 3, 4, 0, 5, 6] rfl (k_X12_swap_b416 hin  hJ hK309 ih x1 x2 (x4 + 1) x5 x6 _ gx1 gx2 g21 gx5 gx6 hF)
          · have hF := hF.2 z16
            refine j_goto hJ 416 dX12_swap_395 (by decide) ?_
            exact j_sub hJ [1, 2, 3, 4, 5, 6] rfl (k_X12_swap_b416 hin  hJ hK309 ih x1 x2 x4 x5 x6 _ gx1 gx2 gx4 gx5 gx6 hF)
  intro x1 x2 x4 x5 x6 M gx1 gx2 gx4 gx5 gx6 hF
  obtain ⟨n, hF⟩ := hF
  exact H9 n x1 x2 x4 x5 x6 M gx1 gx2 gx4 gx5 gx6 hF
set_option maxHeartbeats 4000000 in
set_option maxRecDepth 100000 in
theorem k_X12_swap_b309 {l : Launch} {D : va_G} {cy : Nat → ClassId} {ad : Nat → Nat} {Q : Int → MM → Prop} {J : Nat → List (Nat × Value) → List Value → MM → Prop} (hin : jIn ad ksR.length)   (hJ : jOk l D vwCl (tyR cy) cy ad ftR ksR (XtR ad) Om RX12 cX12_swap 9 1 ({ frames := 307, cells := 0, slots := 0, locals := 8862 } : Room) Q J)  : ∀ (x1 x2 x4 x5 : Int) (M : MM), ri_ x1 → ri_ x2 → ri_ x4 → ri_ x5 → w_X12_swap_b309  Q  x1 x2 x4 x5 M → J 309 [(0, .ref (ad 0)), (1, .int (Ii x1)), (2, .int (Ii x2)), (4, .int (Ii x4)), (5, .int (Ii x5))] [] M := by
  have H9 : ∀ (n : Nat) (x1 x2 x4 x5 : Int) (M : MM), ri_ x1 → ri_ x2 → ri_ x4 → ri_ x5 → jit (fun _ _ _ _ _ => False) (wb_X12_swap_b309  Q ) n x1 x2 x4 x5 M → J 309 [(0, .ref (ad 0)), (1, .int (Ii x1)), (2, .int (Ii x2)), (4, .int (Ii x4)), (5, .int (Ii x5))] [] M := by
    intro n
    induction n with
    | zero => intro x1 x2 x4 x5 M gx1 gx2 gx4 gx5 hF; exact False.elim hF
    | succ n ih =>
    intro x1 x2 x4 x5 M gx1 gx2 gx4 gx5 hF
    have hF : wb_X12_swap_b309  Q  (jit (fun _ _ _ _ _ => False) (wb_X12_swap_b309  Q ) n) x1 x2 x4 x5 M := hF
    unfold wb_X12_swap_b309 at hF
    refine j_iload hJ dX12_swap_309 4 rfl ?_
    refine j_aload_n hJ dX12_swap_311 rfl 0 rfl ?_
    refine j_gi hJ kR_0 fR_15_26 rfl fl_X12_435 dX12_swap_312 (fun v1 ev1 gv1 => ?_)
    have hF := hF v1 ev1 gv1
    refine j_icmp_ge hJ 428 gx5 gv1 dX12_swap_315 (by decide) (fun z2 => ?_) (fun z2 => ?_)
    · have hF := hF.1 z2
      refine j_iconst hJ dX12_swap_428 ?_
      refine j_istore (lv' := [(5, .int (Ii 0)), (0, .ref (ad 0)), (1, .int (Ii x1)), (2, .int (Ii x2)), (4, .int (Ii x4))]) hJ dX12_swap_429 (by decide) rfl ?_
      exact j_sub hJ [1, 2, 3, 4, 0] rfl (k_X12_swap_b431 hin  hJ  x1 x2 x4 0 _ gx1 gx2 gx4 rk_0 hF)
    · have hF := hF.2 z2
      refine j_iconst hJ dX12_swap_318 ?_
      refine j_istore (lv' := [(6, .int (Ii 0)), (0, .ref (ad 0)), (1, .int (Ii x1)), (2, .int (Ii x2)), (4, .int (Ii x4)), (5, .int (Ii x5))]) hJ dX12_swap_319 (by decide) rfl ?_
      exact j_sub hJ [1, 2, 3, 4, 5, 0] rfl (k_X12_swap_b321 hin  hJ ih x1 x2 x4 x5 0 _ gx1 gx2 gx4 gx5 rk_0 hF)
  intro x1 x2 x4 x5 M gx1 gx2 gx4 gx5 hF
  obtain ⟨n, hF⟩ := hF
  exact H9 n x1 x2 x4 x5 M gx1 gx2 gx4 gx5 hF
set_option maxHeartbeats 4000000 in
set_option maxRecDepth 100000 in
theorem k_X12_swap_b291 {l : Launch} {D : va_G} {cy : Nat → ClassId} {ad : Nat → Nat} {Q : Int → MM → Prop} {J : Nat → List (Nat × Value) → List Value → MM → Prop} (hin : jIn ad ksR.length)   (hJ : jOk l D vwCl (tyR cy) cy ad ftR ksR (XtR ad) Om RX12 cX12_swap 9 1 ({ frames := 307, cells := 0, slots := 0, locals := 8862 } : Room) Q J)  : ∀ (x1 x2 s0 : Int) (M : MM), ri_ x1 → ri_ x2 → ri_ s0 → w_X12_swap_b291  Q  x1 x2 s0 M → J 291 [(0, .ref (ad 0)), (1, .int (Ii x1)), (2, .int (Ii x2))] [.int (Ii s0), .ref (ad 0)] M := by
  intro x1 x2 s0 M gx1 gx2 gs0 hF
  unfold w_X12_swap_b291 at hF
  refine j_pi hJ gs0 kR_0 fR_15_0 rfl fp_X12_388 dX12_swap_291 (fun M1 eM1 => ?_)
  have hF := hF M1 eM1
  refine j_aload_n hJ dX12_swap_294 rfl 0 rfl ?_
  refine j_gi hJ kR_0 fR_15_0 rfl fl_X12_388 dX12_swap_295 (fun v2 ev2 gv2 => ?_)
  have hF := hF v2 ev2 gv2
  refine j_if_le hJ 303 gv2 dX12_swap_298 (by decide) (fun z3 => ?_) (fun z3 => ?_)
  · have hF := hF.1 z3
    refine j_iconst hJ dX12_swap_303 ?_
    refine j_istore (lv' := [(4, .int (Ii 0)), (0, .ref (ad 0)), (1, .int (Ii x1)), (2, .int (Ii x2))]) hJ dX12_swap_304 (by decide) rfl ?_
    refine j_iconst hJ dX12_swap_306 ?_
    refine j_istore (lv' := [(5, .int (Ii 0)), (4, .int (Ii 0)), (0, .ref (ad 0)), (1, .int (Ii x1)), (2, .int (Ii x2))]) hJ dX12_swap_307 (by decide) rfl ?_
    exact j_sub hJ [2, 3, 4, 1, 0] rfl (k_X12_swap_b309 hin  hJ  x1 x2 0 0 _ gx1 gx2 rk_0 rk_0 hF)
  · have hF := hF.2 z3
    refine j_iconst hJ dX12_swap_301 ?_
    exact j_iret hJ rfl rk_0 dX12_swap_302 hF
set_option maxHeartbeats 4000000 in
set_option maxRecDepth 100000 in
theorem k_X12_swap_b275 {l : Launch} {D : va_G} {cy : Nat → ClassId} {ad : Nat → Nat} {Q : Int → MM → Prop} {J : Nat → List (Nat × Value) → List Value → MM → Prop} (hin : jIn ad ksR.length)   (hJ : jOk l D vwCl (tyR cy) cy ad ftR ksR (XtR ad) Om RX12 cX12_swap 9 1 ({ frames := 307, cells := 0, slots := 0, locals := 8862 } : Room) Q J) {K192 : Int → Int → Int → Int → MM → Prop} (hK192 : ∀ (x1 x2 x3 x4 : Int) (M : MM), ri_ x1 → ri_ x2 → ri_ x3 → ri_ x4 → K192 x1 x2 x3 x4 M → J 192 [(0, .ref (ad 0)), (1, .int (Ii x1)), (2, .int (Ii x2)), (3, .int (Ii x3)), (4, .int (Ii x4))] [] M) : ∀ (x1 x2 x3 x4 : Int) (M : MM), ri_ x1 → ri_ x2 → ri_ x3 → ri_ x4 → w_X12_swap_b275  Q K192 x1 x2 x3 x4 M → J 275 [(0, .ref (ad 0)), (1, .int (Ii x1)), (2, .int (Ii x2)), (3, .int (Ii x3)), (4, .int (Ii x4))] [] M := by
  intro x1 x2 x3 x4 M gx1 gx2 gx3 gx4 hF
  unfold w_X12_swap_b275 at hF
  refine j_iinc (lv' := [(4, .int (Ii (x4 + 1))), (0, .ref (ad 0)), (1, .int (Ii x1)), (2, .int (Ii x2)), (3, .int (Ii x3))]) (k := 4) hJ dX12_swap_275 rfl (by decide) rfl ?_
  have g1 := hF.1; have hF := hF.2
  refine j_goto hJ 192 dX12_swap_278 (by decide) ?_
  exact j_sub hJ [1, 2, 3, 4, 0] rfl (hK192 x1 x2 x3 (x4 + 1) _ gx1 gx2 gx3 g1 hF)
set_option maxHeartbeats 4000000 in
set_option maxRecDepth 100000 in
theorem k_X12_swap_b274 {l : Launch} {D : va_G} {cy : Nat → ClassId} {ad : Nat → Nat} {Q : Int → MM → Prop} {J : Nat → List (Nat × Value) → List Value → MM → Prop} (hin : jIn ad ksR.length)   (hJ : jOk l D vwCl (tyR cy) cy ad ftR ksR (XtR ad) Om RX12 cX12_swap 9 1 ({ frames := 307, cells := 0, slots := 0, locals := 8862 } : Room) Q J) {K192 : Int → Int → Int → Int → MM → Prop} (hK192 : ∀ (x1 x2 x3 x4 : Int) (M : MM), ri_ x1 → ri_ x2 → ri_ x3 → ri_ x4 → K192 x1 x2 x3 x4 M → J 192 [(0, .ref (ad 0)), (1, .int (Ii x1)), (2, .int (Ii x2)), (3, .int (Ii x3)), (4, .int (Ii x4))] [] M) : ∀ (x1 x2 x4 s0 : Int) (M : MM), ri_ x1 → ri_ x2 → ri_ x4 → ri_ s0 → w_X12_swap_b274  Q K192 x1 x2 x4 s0 M → J 274 [(0, .ref (ad 0)), (1, .int (Ii x1)), (2, .int (Ii x2)), (4, .int (Ii x4))] [.int (Ii s0)] M := by
  intro x1 x2 x4 s0 M gx1 gx2 gx4 gs0 hF
  unfold w_X12_swap_b274 at hF
  refine j_istore_n (lv' := [(3, .int (Ii s0)), (0, .ref (ad 0)), (1, .int (Ii x1)), (2, .int (Ii x2)), (4, .int (Ii x4))]) hJ dX12_swap_274 rfl (by decide) rfl ?_
  exact j_sub hJ [1, 2, 3, 0, 4] rfl (k_X12_swap_b275 hin  hJ hK192 x1 x2 s0 x4 _ gx1 gx2 gs0 gx4 hF)
set_option maxHeartbeats 4000000 in
set_option maxRecDepth 100000 in
theorem k_X12_swap_b273 {l : Launch} {D : va_G} {cy : Nat → ClassId} {ad : Nat → Nat} {Q : Int → MM → Prop} {J : Nat → List (Nat × Value) → List Value → MM → Prop} (hin : jIn ad ksR.length)   (hJ : jOk l D vwCl (tyR cy) cy ad ftR ksR (XtR ad) Om RX12 cX12_swap 9 1 ({ frames := 307, cells := 0, slots := 0, locals := 8862 } : Room) Q J) {K192 : Int → Int → Int → Int → MM → Prop} (hK192 : ∀ (x1 x2 x3 x4 : Int) (M : MM), ri_ x1 → ri_ x2 → ri_ x3 → ri_ x4 → K192 x1 x2 x3 x4 M → J 192 [(0, .ref (ad 0)), (1, .int (Ii x1)), (2, .int (Ii x2)), (3, .int (Ii x3)), (4, .int (Ii x4))] [] M) : ∀ (x1 x2 x4 : Int) (M : MM), ri_ x1 → ri_ x2 → ri_ x4 → w_X12_swap_b273  Q K192 x1 x2 x4 M → J 273 [(0, .ref (ad 0)), (1, .int (Ii x1)), (2, .int (Ii x2)), (4, .int (Ii x4))] [] M := by
  intro x1 x2 x4 M gx1 gx2 gx4 hF
  unfold w_X12_swap_b273 at hF
  refine j_iconst hJ dX12_swap_273 ?_
  exact j_sub hJ [0, 1, 2, 3] rfl (k_X12_swap_b274 hin  hJ hK192 x1 x2 x4 0 _ gx1 gx2 gx4 rk_0 hF)
set_option maxHeartbeats 4000000 in
set_option maxRecDepth 100000 in
theorem k_X12_swap_b192 {l : Launch} {D : va_G} {cy : Nat → ClassId} {ad : Nat → Nat} {Q : Int → MM → Prop} {J : Nat → List (Nat × Value) → List Value → MM → Prop} (hin : jIn ad ksR.length)   (hJ : jOk l D vwCl (tyR cy) cy ad ftR ksR (XtR ad) Om RX12 cX12_swap 9 1 ({ frames := 307, cells := 0, slots := 0, locals := 8862 } : Room) Q J)  : ∀ (x1 x2 x3 x4 : Int) (M : MM), ri_ x1 → ri_ x2 → ri_ x3 → ri_ x4 → w_X12_swap_b192  Q  x1 x2 x3 x4 M → J 192 [(0, .ref (ad 0)), (1, .int (Ii x1)), (2, .int (Ii x2)), (3, .int (Ii x3)), (4, .int (Ii x4))] [] M := by
  have H9 : ∀ (n : Nat) (x1 x2 x3 x4 : Int) (M : MM), ri_ x1 → ri_ x2 → ri_ x3 → ri_ x4 → jit (fun _ _ _ _ _ => False) (wb_X12_swap_b192  Q ) n x1 x2 x3 x4 M → J 192 [(0, .ref (ad 0)), (1, .int (Ii x1)), (2, .int (Ii x2)), (3, .int (Ii x3)), (4, .int (Ii x4))] [] M := by
    intro n
    induction n with
    | zero => intro x1 x2 x3 x4 M gx1 gx2 gx3 gx4 hF; exact False.elim hF
    | succ n ih =>
    intro x1 x2 x3 x4 M gx1 gx2 gx3 gx4 hF
    have hF : wb_X12_swap_b192  Q  (jit (fun _ _ _ _ _ => False) (wb_X12_swap_b192  Q ) n) x1 x2 x3 x4 M := hF
    unfold wb_X12_swap_b192 at hF
    refine j_iload hJ dX12_swap_192 4 rfl ?_
    refine j_bipush hJ dX12_swap_194 (by decide) ?_
    refine j_aload_n hJ dX12_swap_196 rfl 0 rfl ?_
    refine j_gi hJ kR_0 fR_15_20 rfl fl_X12_413 dX12_swap_197 (fun v1 ev1 gv1 => ?_)
    have hF := hF v1 ev1 gv1
    refine j_imul hJ dX12_swap_200 ?_
    have g2 := hF.1; have hF := hF.2
    refine j_icmp_ge hJ 281 gx4 g2 dX12_swap_201 (by decide) (fun z3 => ?_) (fun z3 => ?_)
    · have hF := hF.1 z3
      refine j_aload_n hJ dX12_swap_281 rfl 0 rfl ?_
      refine j_iload_n hJ dX12_swap_282 rfl 3 rfl ?_
      refine j_if_eq hJ 290 gx3 dX12_swap_283 (by decide) (fun z4 => ?_) (fun z4 => ?_)
      · have hF := hF.1 z4
        refine j_iconst hJ dX12_swap_290 ?_
        exact j_sub hJ [0, 1, 2] rfl (k_X12_swap_b291 hin  hJ  x1 x2 2 _ gx1 gx2 rk_2 hF)
      · have hF := hF.2 z4
        refine j_iconst hJ dX12_swap_286 ?_
        refine j_goto hJ 291 dX12_swap_287 (by decide) ?_
        exact j_sub hJ [0, 1, 2] rfl (k_X12_swap_b291 hin  hJ  x1 x2 0 _ gx1 gx2 rk_0 hF)
    · have hF := hF.2 z3
      refine j_aload_n hJ dX12_swap_204 rfl 0 rfl ?_
      refine j_iload hJ dX12_swap_205 4 rfl ?_
      refine j_callVz hJ (c_X12_isLinkStatic (l := l) (D := D) (cy := cy) (ad := ad) hin) rfl om_1145 ⟨rfl, rfl, Nat.le_of_ble_eq_true rfl, Nat.le_of_ble_eq_true rfl⟩ [.int (Ii x4)] mv_X12_519 hd_X12_isLinkStaticv kR_0 rfl rfl rfl (Nat.le_of_ble_eq_true rfl) dX12_swap_207 ⟨x4, rfl, gx4, hF⟩ (fun r5 M6 gr5 qM6 => ?_)
      have hF := qM6 gr5
      refine j_if_ne hJ 216 (jz_ri gr5) dX12_swap_210 (by decide) (fun z7 => ?_) (fun z7 => ?_)
      · have hF := hF.1 z7
        refine j_aload_n hJ dX12_swap_216 rfl 0 rfl ?_
        refine j_gr (e := 6) hJ kR_0 fR_15_7 fl_X12_84 dX12_swap_217 rfl ?_
        refine j_iload hJ dX12_swap_220 4 rfl ?_
        refine j_lald hJ gx4 kR_6 hF.1 hF.2.1 dX12_swap_222 (fun v8 ev8 gv8 => ?_)
        have hF := hF.2.2 v8 ev8 gv8
        refine j_lstore (lv' := [(5, .long (Ll v8)), (0, .ref (ad 0)), (1, .int (Ii x1)), (2, .int (Ii x2)), (3, .int (Ii x3)), (4, .int (Ii x4))]) hJ dX12_swap_223 (by decide) rfl ?_
        refine j_lload hJ dX12_swap_225 0 rfl ?_
        refine j_iload_n hJ dX12_swap_227 rfl 2 rfl ?_
        refine j_iload_n hJ dX12_swap_228 rfl 3 rfl ?_
        refine j_callSl hJ (c_X12_turned (l := l) (D := D) (cy := cy) (ad := ad) hin) rfl om_1293 ⟨rfl, rfl, Nat.le_of_ble_eq_true rfl, Nat.le_of_ble_eq_true rfl⟩ [.long (Ll v8), .int (Ii x1), .int (Ii x2)] mv_X12_515 hd_X12_turned rfl (Nat.le_of_ble_eq_true rfl) dX12_swap_229 ⟨v8, x1, x2, rfl, gv8, gx1, gx2, hF⟩ (fun r9 M10 gr9 qM10 => ?_)
        have hF := qM10 gr9
        refine j_lload hJ dX12_swap_232 0 rfl ?_
        refine j_lcmp_eq hJ 275 gr9 gv8 dX12_swap_234 dX12_swap_235 (by decide) (fun z11 => ?_) (fun z11 => ?_)
        · have hF := hF.1 z11
          exact j_sub hJ [1, 2, 3, 4, 5] rfl (k_X12_swap_b275 hin  hJ ih x1 x2 x3 x4 _ gx1 gx2 gx3 gx4 hF)
        · have hF := hF.2 z11
          refine j_iload_n hJ dX12_swap_238 rfl 4 rfl ?_
          refine j_if_eq hJ 273 gx3 dX12_swap_239 (by decide) (fun z12 => ?_) (fun z12 => ?_)
          · have hF := hF.1 z12
            exact j_sub hJ [1, 2, 3, 5] rfl (k_X12_swap_b273 hin  hJ ih x1 x2 x4 _ gx1 gx2 gx4 hF)
          · have hF := hF.2 z12
            refine j_aload_n hJ dX12_swap_242 rfl 1 rfl ?_
            refine j_aload_n hJ dX12_swap_243 rfl 1 rfl ?_
            refine j_gr (e := 19) hJ kR_0 fR_15_21 fl_X12_125 dX12_swap_244 rfl ?_
            refine j_lload hJ dX12_swap_247 0 rfl ?_
            refine j_iload_n hJ dX12_swap_249 rfl 2 rfl ?_
            refine j_iload_n hJ dX12_swap_250 rfl 3 rfl ?_
            refine j_callSl hJ (c_X12_turned (l := l) (D := D) (cy := cy) (ad := ad) hin) rfl om_1293 ⟨rfl, rfl, Nat.le_of_ble_eq_true rfl, Nat.le_of_ble_eq_true rfl⟩ [.long (Ll v8), .int (Ii x1), .int (Ii x2)] mv_X12_515 hd_X12_turned rfl (Nat.le_of_ble_eq_true rfl) dX12_swap_251 ⟨v8, x1, x2, rfl, gv8, gx1, gx2, hF⟩ (fun r13 M14 gr13 qM14 => ?_)
            have hF := qM14 gr13
            refine j_l2i hJ dX12_swap_254 ?_
            have g15 := hF.1; have hF := hF.2
            refine j_iald hJ g15 kR_19 hF.1 hF.2.1 dX12_swap_255 (fun v16 ev16 gv16 => ?_)
            have hF := hF.2.2 v16 ev16 gv16
            refine j_aload_n hJ dX12_swap_256 rfl 1 rfl ?_
            refine j_gr (e := 13) hJ kR_0 fR_15_14 fl_X12_106 dX12_swap_257 rfl ?_
            refine j_iload hJ dX12_swap_260 5 rfl ?_
            refine j_iald hJ gx4 kR_13 hF.1 hF.2.1 dX12_swap_262 (fun v17 ev17 gv17 => ?_)
            have hF := hF.2.2 v17 ev17 gv17
            refine j_callVz hJ (c_X12_fits (l := l) (D := D) (cy := cy) (ad := ad) hin) rfl om_1085 ⟨rfl, rfl, Nat.le_of_ble_eq_true rfl, Nat.le_of_ble_eq_true rfl⟩ [.int (Ii v16), .int (Ii v17)] mv_X12_449 hd_X12_fitsv kR_0 rfl rfl rfl (Nat.le_of_ble_eq_true rfl) dX12_swap_263 ⟨v16, v17, rfl, gv16, gv17, hF⟩ (fun r18 M19 gr18 qM19 => ?_)
            have hF := qM19 gr18
            refine j_if_eq hJ 273 (jz_ri gr18) dX12_swap_266 (by decide) (fun z20 => ?_) (fun z20 => ?_)
            · have hF := hF.1 z20
              exact j_sub hJ [1, 2, 3, 5] rfl (k_X12_swap_b273 hin  hJ ih x1 x2 x4 _ gx1 gx2 gx4 hF)
            · have hF := hF.2 z20
              refine j_iconst hJ dX12_swap_269 ?_
              refine j_goto hJ 274 dX12_swap_270 (by decide) ?_
              exact j_sub hJ [1, 2, 3, 5] rfl (k_X12_swap_b274 hin  hJ ih x1 x2 x4 1 _ gx1 gx2 gx4 rk_1 hF)
      · have hF := hF.2 z7
        refine j_goto hJ 275 dX12_swap_213 (by decide) ?_
        exact j_sub hJ [0, 1, 2, 3, 4] rfl (k_X12_swap_b275 hin  hJ ih x1 x2 x3 x4 _ gx1 gx2 gx3 gx4 hF)
  intro x1 x2 x3 x4 M gx1 gx2 gx3 gx4 hF
  obtain ⟨n, hF⟩ := hF
  exact H9 n x1 x2 x3 x4 M gx1 gx2 gx3 gx4 hF
set_option maxHeartbeats 4000000 in
set_option maxRecDepth 100000 in
theorem k_X12_swap_b183 {l : Launch} {D : va_G} {cy : Nat → ClassId} {ad : Nat → Nat} {Q : Int → MM → Prop} {J : Nat → List (Nat × Value) → List Value → MM → Prop} (hin : jIn ad ksR.length)   (hJ : jOk l D vwCl (tyR cy) cy ad ftR ksR (XtR ad) Om RX12 cX12_swap 9 1 ({ frames := 307, cells := 0, slots := 0, locals := 8862 } : Room) Q J) {K48 : Int → Int → Int → Int → MM → Prop} (hK48 : ∀ (x1 x2 x3 x4 : Int) (M : MM), ri_ x1 → ri_ x2 → ri_ x3 → ri_ x4 → K48 x1 x2 x3 x4 M → J 48 [(0, .ref (ad 0)), (1, .int (Ii x1)), (2, .int (Ii x2)), (3, .int (Ii x3)), (4, .int (Ii x4))] [] M) : ∀ (x1 x2 x3 x4 : Int) (M : MM), ri_ x1 → ri_ x2 → ri_ x3 → ri_ x4 → w_X12_swap_b183  Q K48 x1 x2 x3 x4 M → J 183 [(0, .ref (ad 0)), (1, .int (Ii x1)), (2, .int (Ii x2)), (3, .int (Ii x3)), (4, .int (Ii x4))] [] M := by
  intro x1 x2 x3 x4 M gx1 gx2 gx3 gx4 hF
  unfold w_X12_swap_b183 at hF
  refine j_iinc (lv' := [(4, .int (Ii (x4 + 1))), (0, .ref (ad 0)), (1, .int (Ii x1)), (2, .int (Ii x2)), (3, .int (Ii x3))]) (k := 4) hJ dX12_swap_183 rfl (by decide) rfl ?_
  have g1 := hF.1; have hF := hF.2
  refine j_goto hJ 48 dX12_swap_186 (by decide) ?_
  exact j_sub hJ [1, 2, 3, 4, 0] rfl (hK48 x1 x2 x3 (x4 + 1) _ gx1 gx2 gx3 g1 hF)
set_option maxHeartbeats 4000000 in
set_option maxRecDepth 100000 in
theorem k_X12_swap_b177 {l : Launch} {D : va_G} {cy : Nat → ClassId} {ad : Nat → Nat} {Q : Int → MM → Prop} {J : Nat → List (Nat × Value) → List Value → MM → Prop} (hin : jIn ad ksR.length)   (hJ : jOk l D vwCl (tyR cy) cy ad ftR ksR (XtR ad) Om RX12 cX12_swap 9 1 ({ frames := 307, cells := 0, slots := 0, locals := 8862 } : Room) Q J) {K48 : Int → Int → Int → Int → MM → Prop} (hK48 : ∀ (x1 x2 x3 x4 : Int) (M : MM), ri_ x1 → ri_ x2 → ri_ x3 → ri_ x4 → K48 x1 x2 x3 x4 M → J 48 [(0, .ref (ad 0)), (1, .int (Ii x1)), (2, .int (Ii x2)), (3, .int (Ii x3)), (4, .int (Ii x4))] [] M) {K60 : Int → Int → Int → Int → Int → MM → Prop} (hK60 : ∀ (x1 x2 x3 x4 x5 : Int) (M : MM), ri_ x1 → ri_ x2 → ri_ x3 → ri_ x4 → ri_ x5 → K60 x1 x2 x3 x4 x5 M → J 60 [(0, .ref (ad 0)), (1, .int (Ii x1)), (2, .int (Ii x2)), (3, .int (Ii x3)), (4, .int (Ii x4)), (5, .int (Ii x5))] [] M) : ∀ (x1 x2 x3 x4 x5 : Int) (M : MM), ri_ x1 → ri_ x2 → ri_ x3 → ri_ x4 → ri_ x5 → w_X12_swap_b177  Q K48 K60 x1 x2 x3 x4 x5 M → J 177 [(0, .ref (ad 0)), (1, .int (Ii x1)), (2, .int (Ii x2)), (3, .int (Ii x3)), (4, .int (Ii x4)), (5, .int (Ii x5))] [] M := by
  intro x1 x2 x3 x4 x5 M gx1 gx2 gx3 gx4 gx5 hF
  unfold w_X12_swap_b177 at hF
  refine j_iinc (lv' := [(5, .int (Ii (x5 + 1))), (0, .ref (ad 0)), (1, .int (Ii x1)), (2, .int (Ii x2)), (3, .int (Ii x3)), (4, .int (Ii x4))]) (k := 5) hJ dX12_swap_177 rfl (by decide) rfl ?_
  have g1 := hF.1; have hF := hF.2
  refine j_goto hJ 60 dX12_swap_180 (by decide) ?_
  exact j_sub hJ [1, 2, 3, 4, 5, 0] rfl (hK60 x1 x2 x3 x4 (x5 + 1) _ gx1 gx2 gx3 gx4 g1 hF)
set_option maxHeartbeats 4000000 in
set_option maxRecDepth 100000 in
theorem k_X12_swap_b176 {l : Launch} {D : va_G} {cy : Nat → ClassId} {ad : Nat → Nat} {Q : Int → MM → Prop} {J : Nat → List (Nat × Value) → List Value → MM → Prop} (hin : jIn ad ksR.length)   (hJ : jOk l D vwCl (tyR cy) cy ad ftR ksR (XtR ad) Om RX12 cX12_swap 9 1 ({ frames := 307, cells := 0, slots := 0, locals := 8862 } : Room) Q J) {K48 : Int → Int → Int → Int → MM → Prop} (hK48 : ∀ (x1 x2 x3 x4 : Int) (M : MM), ri_ x1 → ri_ x2 → ri_ x3 → ri_ x4 → K48 x1 x2 x3 x4 M → J 48 [(0, .ref (ad 0)), (1, .int (Ii x1)), (2, .int (Ii x2)), (3, .int (Ii x3)), (4, .int (Ii x4))] [] M) {K60 : Int → Int → Int → Int → Int → MM → Prop} (hK60 : ∀ (x1 x2 x3 x4 x5 : Int) (M : MM), ri_ x1 → ri_ x2 → ri_ x3 → ri_ x4 → ri_ x5 → K60 x1 x2 x3 x4 x5 M → J 60 [(0, .ref (ad 0)), (1, .int (Ii x1)), (2, .int (Ii x2)), (3, .int (Ii x3)), (4, .int (Ii x4)), (5, .int (Ii x5))] [] M) : ∀ (x1 x2 x4 x5 s0 : Int) (M : MM), ri_ x1 → ri_ x2 → ri_ x4 → ri_ x5 → ri_ s0 → w_X12_swap_b176  Q K48 K60 x1 x2 x4 x5 s0 M → J 176 [(0, .ref (ad 0)), (1, .int (Ii x1)), (2, .int (Ii x2)), (4, .int (Ii x4)), (5, .int (Ii x5))] [.int (Ii s0)] M := by
  intro x1 x2 x4 x5 s0 M gx1 gx2 gx4 gx5 gs0 hF
  unfold w_X12_swap_b176 at hF
  refine j_istore_n (lv' := [(3, .int (Ii s0)), (0, .ref (ad 0)), (1, .int (Ii x1)), (2, .int (Ii x2)), (4, .int (Ii x4)), (5, .int (Ii x5))]) hJ dX12_swap_176 rfl (by decide) rfl ?_
  exact j_sub hJ [1, 2, 3, 0, 4, 5] rfl (k_X12_swap_b177 hin  hJ hK48 hK60 x1 x2 s0 x4 x5 _ gx1 gx2 gs0 gx4 gx5 hF)
set_option maxHeartbeats 4000000 in
set_option maxRecDepth 100000 in
theorem k_X12_swap_b175 {l : Launch} {D : va_G} {cy : Nat → ClassId} {ad : Nat → Nat} {Q : Int → MM → Prop} {J : Nat → List (Nat × Value) → List Value → MM → Prop} (hin : jIn ad ksR.length)   (hJ : jOk l D vwCl (tyR cy) cy ad ftR ksR (XtR ad) Om RX12 cX12_swap 9 1 ({ frames := 307, cells := 0, slots := 0, locals := 8862 } : Room) Q J) {K48 : Int → Int → Int → Int → MM → Prop} (hK48 : ∀ (x1 x2 x3 x4 : Int) (M : MM), ri_ x1 → ri_ x2 → ri_ x3 → ri_ x4 → K48 x1 x2 x3 x4 M → J 48 [(0, .ref (ad 0)), (1, .int (Ii x1)), (2, .int (Ii x2)), (3, .int (Ii x3)), (4, .int (Ii x4))] [] M) {K60 : Int → Int → Int → Int → Int → MM → Prop} (hK60 : ∀ (x1 x2 x3 x4 x5 : Int) (M : MM), ri_ x1 → ri_ x2 → ri_ x3 → ri_ x4 → ri_ x5 → K60 x1 x2 x3 x4 x5 M → J 60 [(0, .ref (ad 0)), (1, .int (Ii x1)), (2, .int (Ii x2)), (3, .int (Ii x3)), (4, .int (Ii x4)), (5, .int (Ii x5))] [] M) : ∀ (x1 x2 x4 x5 : Int) (M : MM), ri_ x1 → ri_ x2 → ri_ x4 → ri_ x5 → w_X12_swap_b175  Q K48 K60 x1 x2 x4 x5 M → J 175 [(0, .ref (ad 0)), (1, .int (Ii x1)), (2, .int (Ii x2)), (4, .int (Ii x4)), (5, .int (Ii x5))] [] M := by
  intro x1 x2 x4 x5 M gx1 gx2 gx4 gx5 hF
  unfold w_X12_swap_b175 at hF
  refine j_iconst hJ dX12_swap_175 ?_
  exact j_sub hJ [0, 1, 2, 3, 4] rfl (k_X12_swap_b176 hin  hJ hK48 hK60 x1 x2 x4 x5 0 _ gx1 gx2 gx4 gx5 rk_0 hF)
set_option maxHeartbeats 4000000 in
set_option maxRecDepth 100000 in
theorem k_X12_swap_b60 {l : Launch} {D : va_G} {cy : Nat → ClassId} {ad : Nat → Nat} {Q : Int → MM → Prop} {J : Nat → List (Nat × Value) → List Value → MM → Prop} (hin : jIn ad ksR.length)   (hJ : jOk l D vwCl (tyR cy) cy ad ftR ksR (XtR ad) Om RX12 cX12_swap 9 1 ({ frames := 307, cells := 0, slots := 0, locals := 8862 } : Room) Q J) {K48 : Int → Int → Int → Int → MM → Prop} (hK48 : ∀ (x1 x2 x3 x4 : Int) (M : MM), ri_ x1 → ri_ x2 → ri_ x3 → ri_ x4 → K48 x1 x2 x3 x4 M → J 48 [(0, .ref (ad 0)), (1, .int (Ii x1)), (2, .int (Ii x2)), (3, .int (Ii x3)), (4, .int (Ii x4))] [] M) : ∀ (x1 x2 x3 x4 x5 : Int) (M : MM), ri_ x1 → ri_ x2 → ri_ x3 → ri_ x4 → ri_ x5 → w_X12_swap_b60  Q K48 x1 x2 x3 x4 x5 M → J 60 [(0, .ref (ad 0)), (1, .int (Ii x1)), (2, .int (Ii x2)), (3, .int (Ii x3)), (4, .int (Ii x4)), (5, .int (Ii x5))] [] M := by
  have H9 : ∀ (n : Nat) (x1 x2 x3 x4 x5 : Int) (M : MM), ri_ x1 → ri_ x2 → ri_ x3 → ri_ x4 → ri_ x5 → jit (fun _ _ _ _ _ _ => False) (wb_X12_swap_b60  Q K48) n x1 x2 x3 x4 x5 M → J 60 [(0, .ref (ad 0)), (1, .int (Ii x1)), (2, .int (Ii x2)), (3, .int (Ii x3)), (4, .int (Ii x4)), (5, .int (Ii x5))] [] M := by
    intro n
    induction n with
    | zero => intro x1 x2 x3 x4 x5 M gx1 gx2 gx3 gx4 gx5 hF; exact False.elim hF
    | succ n ih =>
    intro x1 x2 x3 x4 x5 M gx1 gx2 gx3 gx4 gx5 hF
    have hF : wb_X12_swap_b60  Q K48 (jit (fun _ _ _ _ _ _ => False) (wb_X12_swap_b60  Q K48) n) x1 x2 x3 x4 x5 M := hF
    unfold wb_X12_swap_b60 at hF
    refine j_aload_n hJ dX12_swap_60 rfl 0 rfl ?_
    refine j_gr (e := 22) hJ kR_0 fR_15_24 fl_X12_134 dX12_swap_61 rfl ?_
    refine j_iload hJ dX12_swap_64 4 rfl ?_
    refine j_zald hJ gx4 kR_22 hF.1 hF.2.1 dX12_swap_66 (fun v1 ev1 gv1 => ?_)
    have hF := hF.2.2 v1 ev1 gv1
    refine j_if_eq hJ 183 (jz_ri gv1) dX12_swap_67 (by decide) (fun z2 => ?_) (fun z2 => ?_)
    · have hF := hF.1 z2
      exact j_sub hJ [0, 1, 2, 3, 4] rfl (k_X12_swap_b183 hin  hJ hK48 x1 x2 x3 x4 _ gx1 gx2 gx3 gx4 hF)
    · have hF := hF.2 z2
      refine j_iload hJ dX12_swap_70 5 rfl ?_
      refine j_aload_n hJ dX12_swap_72 rfl 0 rfl ?_
      refine j_aload_n hJ dX12_swap_73 rfl 0 rfl ?_
      refine j_gr (e := 19) hJ kR_0 fR_15_21 fl_X12_125 dX12_swap_74 rfl ?_
      refine j_iload hJ dX12_swap_77 4 rfl ?_
      refine j_iald hJ gx4 kR_19 hF.1 hF.2.1 dX12_swap_79 (fun v3 ev3 gv3 => ?_)
      have hF := hF.2.2 v3 ev3 gv3
      refine j_aload_n hJ dX12_swap_80 rfl 0 rfl ?_
      refine j_gr (e := 20) hJ kR_0 fR_15_22 fl_X12_128 dX12_swap_81 rfl ?_
      refine j_iload hJ dX12_swap_84 4 rfl ?_
      refine j_iald hJ gx4 kR_20 hF.1 hF.2.1 dX12_swap_86 (fun v4 ev4 gv4 => ?_)
      have hF := hF.2.2 v4 ev4 gv4
      refine j_callVi hJ (c_X12_slotCount (l := l) (D := D) (cy := cy) (ad := ad) hin) rfl om_1089 ⟨rfl, rfl, Nat.le_of_ble_eq_true rfl, Nat.le_of_ble_eq_true rfl⟩ [.int (Ii v3), .int (Ii v4)] mv_X12_455 hd_X12_slotCountv kR_0 rfl rfl rfl (Nat.le_of_ble_eq_true rfl) dX12_swap_87 ⟨v3, v4, rfl, gv3, gv4, hF⟩ (fun r5 M6 gr5 qM6 => ?_)
      have hF := qM6 gr5
      refine j_icmp_ge hJ 183 gx5 gr5 dX12_swap_90 (by decide) (fun z7 => ?_) (fun z7 => ?_)
      · have hF := hF.1 z7
        exact j_sub hJ [0, 1, 2, 3, 4] rfl (k_X12_swap_b183 hin  hJ hK48 x1 x2 x3 x4 _ gx1 gx2 gx3 gx4 hF)
      · have hF := hF.2 z7
        refine j_aload_n hJ dX12_swap_93 rfl 0 rfl ?_
        refine j_gr (e := 23) hJ kR_0 fR_15_25 fl_X12_138 dX12_swap_94 rfl ?_
        refine j_aload_n hJ dX12_swap_97 rfl 0 rfl ?_
        refine j_gr (e := 21) hJ kR_0 fR_15_23 fl_X12_131 dX12_swap_98 rfl ?_
        refine j_iload hJ dX12_swap_101 4 rfl ?_
        refine j_iald hJ gx4 kR_21 hF.1 hF.2.1 dX12_swap_103 (fun v8 ev8 gv8 => ?_)
        have hF := hF.2.2 v8 ev8 gv8
        refine j_iload hJ dX12_swap_104 5 rfl ?_
        refine j_iadd hJ dX12_swap_106 ?_
        have g9 := hF.1; have hF := hF.2
        refine j_lald hJ g9 kR_23 hF.1 hF.2.1 dX12_swap_107 (fun v10 ev10 gv10 => ?_)
        have hF := hF.2.2 v10 ev10 gv10
        refine j_lstore (lv' := [(6, .long (Ll v10)), (0, .ref (ad 0)), (1, .int (Ii x1)), (2, .int (Ii x2)), (3, .int (Ii x3)), (4, .int (Ii x4)), (5, .int (Ii x5))]) hJ dX12_swap_108 (by decide) rfl ?_
        refine j_aload_n hJ dX12_swap_110 rfl 1 rfl ?_
        refine j_iload hJ dX12_swap_111 5 rfl ?_
        refine j_iload hJ dX12_swap_113 6 rfl ?_
        refine j_callVz hJ (c_X12_isLinkSlot (l := l) (D := D) (cy := cy) (ad := ad) hin) rfl om_1129 ⟨rfl, rfl, Nat.le_of_ble_eq_true rfl, Nat.le_of_ble_eq_true rfl⟩ [.int (Ii x4), .int (Ii x5)] mv_X12_512 hd_X12_isLinkSlotv kR_0 rfl rfl rfl (Nat.le_of_ble_eq_true rfl) dX12_swap_115 ⟨x4, x5, rfl, gx4, gx5, hF⟩ (fun r11 M12 gr11 qM12 => ?_)
        have hF := qM12 gr11
        refine j_if_eq hJ 177 (jz_ri gr11) dX12_swap_118 (by decide) (fun z13 => ?_) (fun z13 => ?_)
        · have hF := hF.1 z13
          exact j_sub hJ [1, 2, 3, 4, 5, 6] rfl (k_X12_swap_b177 hin  hJ hK48 ih x1 x2 x3 x4 x5 _ gx1 gx2 gx3 gx4 gx5 hF)
        · have hF := hF.2 z13
          refine j_lload hJ dX12_swap_121 0 rfl ?_
          refine j_iload_n hJ dX12_swap_123 rfl 2 rfl ?_
          refine j_iload_n hJ dX12_swap_124 rfl 3 rfl ?_
          refine j_callSl hJ (c_X12_turned (l := l) (D := D) (cy := cy) (ad := ad) hin) rfl om_1293 ⟨rfl, rfl, Nat.le_of_ble_eq_true rfl, Nat.le_of_ble_eq_true rfl⟩ [.long (Ll v10), .int (Ii x1), .int (Ii x2)] mv_X12_515 hd_X12_turned rfl (Nat.le_of_ble_eq_true rfl) dX12_swap_125 ⟨v10, x1, x2, rfl, gv10, gx1, gx2, hF⟩ (fun r14 M15 gr14 qM15 => ?_)
          have hF := qM15 gr14
          refine j_lload hJ dX12_swap_128 0 rfl ?_
          refine j_lcmp_eq hJ 177 gr14 gv10 dX12_swap_130 dX12_swap_131 (by decide) (fun z16 => ?_) (fun z16 => ?_)
          · have hF := hF.1 z16
            exact j_sub hJ [1, 2, 3, 4, 5, 6] rfl (k_X12_swap_b177 hin  hJ hK48 ih x1 x2 x3 x4 x5 _ gx1 gx2 gx3 gx4 gx5 hF)
          · have hF := hF.2 z16
            refine j_iload_n hJ dX12_swap_134 rfl 4 rfl ?_
            refine j_if_eq hJ 175 gx3 dX12_swap_135 (by decide) (fun z17 => ?_) (fun z17 => ?_)
            · have hF := hF.1 z17
              exact j_sub hJ [1, 2, 3, 5, 6] rfl (k_X12_swap_b175 hin  hJ hK48 ih x1 x2 x4 x5 _ gx1 gx2 gx4 gx5 hF)
            · have hF := hF.2 z17
              refine j_aload_n hJ dX12_swap_138 rfl 1 rfl ?_
              refine j_aload_n hJ dX12_swap_139 rfl 1 rfl ?_
              refine j_gr (e := 19) hJ kR_0 fR_15_21 fl_X12_125 dX12_swap_140 rfl ?_
              refine j_lload hJ dX12_swap_143 0 rfl ?_
              refine j_iload_n hJ dX12_swap_145 rfl 2 rfl ?_
              refine j_iload_n hJ dX12_swap_146 rfl 3 rfl ?_
              refine j_callSl hJ (c_X12_turned (l := l) (D := D) (cy := cy) (ad := ad) hin) rfl om_1293 ⟨rfl, rfl, Nat.le_of_ble_eq_true rfl, Nat.le_of_ble_eq_true rfl⟩ [.long (Ll v10), .int (Ii x1), .int (Ii x2)] mv_X12_515 hd_X12_turned rfl (Nat.le_of_ble_eq_true rfl) dX12_swap_147 ⟨v10, x1, x2, rfl, gv10, gx1, gx2, hF⟩ (fun r18 M19 gr18 qM19 => ?_)
              have hF := qM19 gr18
              refine j_l2i hJ dX12_swap_150 ?_
              have g20 := hF.1; have hF := hF.2
              refine j_iald hJ g20 kR_19 hF.1 hF.2.1 dX12_swap_151 (fun v21 ev21 gv21 => ?_)
              have hF := hF.2.2 v21 ev21 gv21
              refine j_aload_n hJ dX12_swap_152 rfl 1 rfl ?_
              refine j_aload_n hJ dX12_swap_153 rfl 1 rfl ?_
              refine j_gr (e := 19) hJ kR_0 fR_15_21 fl_X12_125 dX12_swap_154 rfl ?_
              refine j_iload hJ dX12_swap_157 5 rfl ?_
              refine j_iald hJ gx4 kR_19 hF.1 hF.2.1 dX12_swap_159 (fun v22 ev22 gv22 => ?_)
              have hF := hF.2.2 v22 ev22 gv22
              refine j_iload hJ dX12_swap_160 6 rfl ?_
              refine j_callVi hJ (c_X12_linkOf (l := l) (D := D) (cy := cy) (ad := ad) hin) rfl om_1285 ⟨rfl, rfl, Nat.le_of_ble_eq_true rfl, Nat.le_of_ble_eq_true rfl⟩ [.int (Ii v22), .int (Ii x5)] mv_X12_492 hd_X12_linkOfv kR_0 rfl rfl rfl (Nat.le_of_ble_eq_true rfl) dX12_swap_162 ⟨v22, x5, rfl, gv22, gx5, hF⟩ (fun r23 M24 gr23 qM24 => ?_)
              have hF := qM24 gr23
              refine j_callVz hJ (c_X12_fits (l := l) (D := D) (cy := cy) (ad := ad) hin) rfl om_1085 ⟨rfl, rfl, Nat.le_of_ble_eq_true rfl, Nat.le_of_ble_eq_true rfl⟩ [.int (Ii v21), .int (Ii r23)] mv_X12_449 hd_X12_fitsv kR_0 rfl rfl rfl (Nat.le_of_ble_eq_true rfl) dX12_swap_165 ⟨v21, r23, rfl, gv21, gr23, hF⟩ (fun r25 M26 gr25 qM26 => ?_)
              have hF := qM26 gr25
              refine j_if_eq hJ 175 (jz_ri gr25) dX12_swap_168 (by decide) (fun z27 => ?_) (fun z27 => ?_)
              · have hF := hF.1 z27
                exact j_sub hJ [1, 2, 3, 5, 6] rfl (k_X12_swap_b175 hin  hJ hK48 ih x1 x2 x4 x5 _ gx1 gx2 gx4 gx5 hF)
              · have hF := hF.2 z27
                refine j_iconst hJ dX12_swap_171 ?_
                refine j_goto hJ 176 dX12_swap_172 (by decide) ?_
                exact j_sub hJ [1, 2, 3, 5, 6] rfl (k_X12_swap_b176 hin  hJ hK48 ih x1 x2 x4 x5 1 _ gx1 gx2 gx4 gx5 rk_1 hF)
  intro x1 x2 x3 x4 x5 M gx1 gx2 gx3 gx4 gx5 hF
  obtain ⟨n, hF⟩ := hF
  exact H9 n x1 x2 x3 x4 x5 M gx1 gx2 gx3 gx4 gx5 hF
set_option maxHeartbeats 4000000 in
set_option maxRecDepth 100000 in
theorem k_X12_swap_b48 {l : Launch} {D : va_G} {cy : Nat → ClassId} {ad : Nat → Nat} {Q : Int → MM → Prop} {J : Nat → List (Nat × Value) → List Value → MM → Prop} (hin : jIn ad ksR.length)   (hJ : jOk l D vwCl (tyR cy) cy ad ftR ksR (XtR ad) Om RX12 cX12_swap 9 1 ({ frames := 307, cells := 0, slots := 0, locals := 8862 } : Room) Q J)  : ∀ (x1 x2 x3 x4 : Int) (M : MM), ri_ x1 → ri_ x2 → ri_ x3 → ri_ x4 → w_X12_swap_b48  Q  x1 x2 x3 x4 M → J 48 [(0, .ref (ad 0)), (1, .int (Ii x1)), (2, .int (Ii x2)), (3, .int (Ii x3)), (4, .int (Ii x4))] [] M := by
  have H9 : ∀ (n : Nat) (x1 x2 x3 x4 : Int) (M : MM), ri_ x1 → ri_ x2 → ri_ x3 → ri_ x4 → jit (fun _ _ _ _ _ => False) (wb_X12_swap_b48  Q ) n x1 x2 x3 x4 M → J 48 [(0, .ref (ad 0)), (1, .int (Ii x1)), (2, .int (Ii x2)), (3, .int (Ii x3)), (4, .int (Ii x4))] [] M := by
    intro n
    induction n with
    | zero => intro x1 x2 x3 x4 M gx1 gx2 gx3 gx4 hF; exact False.elim hF
    | succ n ih =>
    intro x1 x2 x3 x4 M gx1 gx2 gx3 gx4 hF
    have hF : wb_X12_swap_b48  Q  (jit (fun _ _ _ _ _ => False) (wb_X12_swap_b48  Q ) n) x1 x2 x3 x4 M := hF
    unfold wb_X12_swap_b48 at hF
    refine j_iload hJ dX12_swap_48 4 rfl ?_
    refine j_aload_n hJ dX12_swap_50 rfl 0 rfl ?_
    refine j_gi hJ kR_0 fR_15_26 rfl fl_X12_435 dX12_swap_51 (fun v1 ev1 gv1 => ?_)
    have hF := hF v1 ev1 gv1
    refine j_icmp_ge hJ 189 gx4 gv1 dX12_swap_54 (by decide) (fun z2 => ?_) (fun z2 => ?_)
    · have hF := hF.1 z2
      refine j_iconst hJ dX12_swap_189 ?_
      refine j_istore (lv' := [(4, .int (Ii 0)), (0, .ref (ad 0)), (1, .int (Ii x1)), (2, .int (Ii x2)), (3, .int (Ii x3))]) hJ dX12_swap_190 (by decide) rfl ?_
      exact j_sub hJ [1, 2, 3, 4, 0] rfl (k_X12_swap_b192 hin  hJ  x1 x2 x3 0 _ gx1 gx2 gx3 rk_0 hF)
    · have hF := hF.2 z2
      refine j_iconst hJ dX12_swap_57 ?_
      refine j_istore (lv' := [(5, .int (Ii 0)), (0, .ref (ad 0)), (1, .int (Ii x1)), (2, .int (Ii x2)), (3, .int (Ii x3)), (4, .int (Ii x4))]) hJ dX12_swap_58 (by decide) rfl ?_
      exact j_sub hJ [1, 2, 3, 4, 5, 0] rfl (k_X12_swap_b60 hin  hJ ih x1 x2 x3 x4 0 _ gx1 gx2 gx3 gx4 rk_0 hF)
  intro x1 x2 x3 x4 M gx1 gx2 gx3 gx4 hF
  obtain ⟨n, hF⟩ := hF
  exact H9 n x1 x2 x3 x4 M gx1 gx2 gx3 gx4 hF
set_option maxHeartbeats 4000000 in
set_option maxRecDepth 100000 in
theorem k_X12_swap_b31 {l : Launch} {D : va_G} {cy : Nat → ClassId} {ad : Nat → Nat} {Q : Int → MM → Prop} {J : Nat → List (Nat × Value) → List Value → MM → Prop} (hin : jIn ad ksR.length)   (hJ : jOk l D vwCl (tyR cy) cy ad ftR ksR (XtR ad) Om RX12 cX12_swap 9 1 ({ frames := 307, cells := 0, slots := 0, locals := 8862 } : Room) Q J)  : ∀ (x1 x2 s0 : Int) (M : MM), ri_ x1 → ri_ x2 → ri_ s0 → w_X12_swap_b31  Q  x1 x2 s0 M → J 31 [(0, .ref (ad 0)), (1, .int (Ii x1)), (2, .int (Ii x2))] [.int (Ii s0), .ref (ad 0)] M := by
  intro x1 x2 s0 M gx1 gx2 gs0 hF
  unfold w_X12_swap_b31 at hF
  refine j_pi hJ gs0 kR_0 fR_15_0 rfl fp_X12_388 dX12_swap_31 (fun M1 eM1 => ?_)
  have hF := hF M1 eM1
  refine j_aload_n hJ dX12_swap_34 rfl 0 rfl ?_
  refine j_gi hJ kR_0 fR_15_0 rfl fl_X12_388 dX12_swap_35 (fun v2 ev2 gv2 => ?_)
  have hF := hF v2 ev2 gv2
  refine j_if_le hJ 43 gv2 dX12_swap_38 (by decide) (fun z3 => ?_) (fun z3 => ?_)
  · have hF := hF.1 z3
    refine j_iconst hJ dX12_swap_43 ?_
    refine j_istore_n (lv' := [(3, .int (Ii 1)), (0, .ref (ad 0)), (1, .int (Ii x1)), (2, .int (Ii x2))]) hJ dX12_swap_44 rfl (by decide) rfl ?_
    refine j_iconst hJ dX12_swap_45 ?_
    refine j_istore (lv' := [(4, .int (Ii 0)), (3, .int (Ii 1)), (0, .ref (ad 0)), (1, .int (Ii x1)), (2, .int (Ii x2))]) hJ dX12_swap_46 (by decide) rfl ?_
    exact j_sub hJ [2, 3, 4, 1, 0] rfl (k_X12_swap_b48 hin  hJ  x1 x2 1 0 _ gx1 gx2 rk_1 rk_0 hF)
  · have hF := hF.2 z3
    refine j_iconst hJ dX12_swap_41 ?_
    exact j_iret hJ rfl rk_0 dX12_swap_42 hF
set_option maxHeartbeats 4000000 in
set_option maxRecDepth 100000 in
theorem k_X12_swap_b17 {l : Launch} {D : va_G} {cy : Nat → ClassId} {ad : Nat → Nat} {Q : Int → MM → Prop} {J : Nat → List (Nat × Value) → List Value → MM → Prop} (hin : jIn ad ksR.length)   (hJ : jOk l D vwCl (tyR cy) cy ad ftR ksR (XtR ad) Om RX12 cX12_swap 9 1 ({ frames := 307, cells := 0, slots := 0, locals := 8862 } : Room) Q J)  : ∀ (x1 x2 : Int) (M : MM), ri_ x1 → ri_ x2 → w_X12_swap_b17  Q  x1 x2 M → J 17 [(0, .ref (ad 0)), (1, .int (Ii x1)), (2, .int (Ii x2))] [.ref (ad 0)] M := by
  intro x1 x2 M gx1 gx2 hF
  unfold w_X12_swap_b17 at hF
  refine j_iconst hJ dX12_swap_17 ?_
  refine j_goto hJ 31 dX12_swap_18 (by decide) ?_
  exact j_sub hJ [0, 1, 2] rfl (k_X12_swap_b31 hin  hJ  x1 x2 1 _ gx1 gx2 rk_1 hF)
set_option maxHeartbeats 4000000 in
set_option maxRecDepth 100000 in
theorem c_X12_swap {l : Launch} {D : va_G} {cy : Nat → ClassId} {ad : Nat → Nat} (hin : jIn ad ksR.length) : jCN l D vwCl (tyR cy) cy ad ftR ksR (XtR ad) yX12_swap (.code yX12_swap cX12_swap 9 (some .int) :: Om) ({ frames := 307, cells := 0, slots := 0, locals := 8862 } : Room) 1 (W_X12_swap ad) := by
  refine jCN_of (y := yX12_swap) (cc := cX12_swap) (nL := 9) (rk := 1) (rm := ({ frames := 307, cells := 0, slots := 0, locals := 8862 } : Room)) (own := RX12) (tyR_ok cy) hin (XtR_ok ad) Om_good (by decide) rfl ?_
  intro Q av M hF
  obtain ⟨p1, p2, rfl, gp1, gp2, hF⟩ := hF
  refine ⟨Nat.le_of_ble_eq_true rfl, fun J hJ => ?_⟩
  show J 0 [(0, .ref (ad 0)), (1, .int (Ii p1)), (2, .int (Ii p2))] [] M
  unfold w_X12_swap at hF
  refine j_aload_n hJ dX12_swap_0 rfl 0 rfl ?_
  refine j_aload_n hJ dX12_swap_1 rfl 0 rfl ?_
  refine j_iload_n hJ dX12_swap_2 rfl 1 rfl ?_
  refine j_callVz hJ (c_X12_isObject (l := l) (D := D) (cy := cy) (ad := ad) hin) rfl om_1105 ⟨rfl, rfl, Nat.le_of_ble_eq_true rfl, Nat.le_of_ble_eq_true rfl⟩ [.int (Ii p1)] mv_X12_473 hd_X12_isObjectv kR_0 rfl rfl rfl (Nat.le_of_ble_eq_true rfl) dX12_swap_3 ⟨p1, rfl, gp1, hF⟩ (fun r1 M2 gr1 qM2 => ?_)
  have hF := qM2 gr1
  refine j_if_eq hJ 17 (jz_ri gr1) dX12_swap_6 (by decide) (fun z3 => ?_) (fun z3 => ?_)
  · have hF := hF.1 z3
    exact j_sub hJ [0, 1, 2] rfl (k_X12_swap_b17 hin  hJ  p1 p2 _ gp1 gp2 hF)
  · have hF := hF.2 z3
    refine j_aload_n hJ dX12_swap_9 rfl 0 rfl ?_
    refine j_iload_n hJ dX12_swap_10 rfl 2 rfl ?_
    refine j_callVz hJ (c_X12_isObject (l := l) (D := D) (cy := cy) (ad := ad) hin) rfl om_1105 ⟨rfl, rfl, Nat.le_of_ble_eq_true rfl, Nat.le_of_ble_eq_true rfl⟩ [.int (Ii p2)] mv_X12_473 hd_X12_isObjectv kR_0 rfl rfl rfl (Nat.le_of_ble_eq_true rfl) dX12_swap_11 ⟨p2, rfl, gp2, hF⟩ (fun r4 M5 gr4 qM5 => ?_)
    have hF := qM5 gr4
    refine j_if_ne hJ 21 (jz_ri gr4) dX12_swap_14 (by decide) (fun z6 => ?_) (fun z6 => ?_)
    · have hF := hF.1 z6
      refine j_iload_n hJ dX12_swap_21 rfl 1 rfl ?_
      refine j_iload_n hJ dX12_swap_22 rfl 2 rfl ?_
      refine j_icmp_ne hJ 30 gp1 gp2 dX12_swap_23 (by decide) (fun z7 => ?_) (fun z7 => ?_)
      · have hF := hF.1 z7
        refine j_iconst hJ dX12_swap_30 ?_
        exact j_sub hJ [0, 1, 2] rfl (k_X12_swap_b31 hin  hJ  p1 p2 0 _ gp1 gp2 rk_0 hF)
      · have hF := hF.2 z7
        refine j_iconst hJ dX12_swap_26 ?_
        refine j_goto hJ 31 dX12_swap_27 (by decide) ?_
        exact j_sub hJ [0, 1, 2] rfl (k_X12_swap_b31 hin  hJ  p1 p2 2 _ gp1 gp2 rk_2 hF)
    · have hF := hF.2 z6
      exact j_sub hJ [0, 1, 2] rfl (k_X12_swap_b17 hin  hJ  p1 p2 _ gp1 gp2 hF)
def W_X12_apart (ad : Nat → Nat) (Q : Int → MM → Prop) (av : List Value) (M : MM) : Prop := ∃ (p1 : Int) (p2 : Int), av = [.ref (ad 0), .int (Ii p1), .int (Ii p2)] ∧ ri_ p1 ∧ (p2 = 0 ∨ p2 = 1) ∧ w_X12_apart  Q p1 p2 M
set_option maxHeartbeats 4000000 in
set_option maxRecDepth 100000 in
theorem c_X12_apart {l : Launch} {D : va_G} {cy : Nat → ClassId} {ad : Nat → Nat} (hin : jIn ad ksR.length) : jCN l D vwCl (tyR cy) cy ad ftR ksR (XtR ad) yX12_apart (.code yX12_apart cX12_apart 3 (some .boolean) :: Om) ({ frames := 1, cells := 0, slots := 0, locals := 21 } : Room) 3 (W_X12_apart ad) := by
  refine jCN_of (y := yX12_apart) (cc := cX12_apart) (nL := 3) (rk := 3) (rm := ({ frames := 1, cells := 0, slots := 0, locals := 21 } : Room)) (own := RX12) (tyR_ok cy) hin (XtR_ok ad) Om_good (by decide) rfl ?_
  intro Q av M hF
  obtain ⟨p1, p2, rfl, gp1, gp2, hF⟩ := hF
  refine ⟨Nat.le_of_ble_eq_true rfl, fun J hJ => ?_⟩
  show J 0 [(0, .ref (ad 0)), (1, .int (Ii p1)), (2, .int (Ii p2))] [] M
  unfold w_X12_apart at hF
  refine j_aload_n hJ dX12_apart_0 rfl 0 rfl ?_
  refine j_iconst hJ dX12_apart_1 ?_
  refine j_pi hJ rk_0 kR_0 fR_15_0 rfl fp_X12_388 dX12_apart_2 (fun M1 eM1 => ?_)
  have hF := hF M1 eM1
  refine j_aload_n hJ dX12_apart_5 rfl 0 rfl ?_
  refine j_iload_n hJ dX12_apart_6 rfl 1 rfl ?_
  refine j_callVz hJ (c_X12_isClass (l := l) (D := D) (cy := cy) (ad := ad) hin) rfl om_1064 ⟨rfl, rfl, Nat.le_of_ble_eq_true rfl, Nat.le_of_ble_eq_true rfl⟩ [.int (Ii p1)] mv_X12_416 hd_X12_isClassv kR_0 rfl rfl rfl (Nat.le_of_ble_eq_true rfl) dX12_apart_7 ⟨p1, rfl, gp1, hF⟩ (fun r2 M3 gr2 qM3 => ?_)
  have hF := qM3 gr2
  refine j_if_ne hJ 15 (jz_ri gr2) dX12_apart_10 (by decide) (fun z4 => ?_) (fun z4 => ?_)
  · have hF := hF.1 z4
    refine j_aload_n hJ dX12_apart_15 rfl 0 rfl ?_
    refine j_gr (e := 18) hJ kR_0 fR_15_19 fl_X12_122 dX12_apart_16 rfl ?_
    refine j_iload_n hJ dX12_apart_19 rfl 1 rfl ?_
    refine j_iload_n hJ dX12_apart_20 rfl 2 rfl ?_
    refine j_zast hJ gp1 gp2 kR_18 hF.1 hF.2.1 dX12_apart_21 (fun M5 eM5 => ?_)
    have hF := hF.2.2 M5 eM5
    refine j_iconst hJ dX12_apart_22 ?_
    exact j_zret hJ rfl (by decide) dX12_apart_23 hF
  · have hF := hF.2 z4
    refine j_iconst hJ dX12_apart_13 ?_
    exact j_zret hJ rfl (by decide) dX12_apart_14 hF
def W_X12_copy (ad : Nat → Nat) (Q : Int → MM → Prop) (av : List Value) (M : MM) : Prop := ∃ (p1 : Int) (p2 : Int), av = [.ref (ad 0), .int (Ii p1), .int (Ii p2)] ∧ ri_ p1 ∧ ri_ p2 ∧ w_X12_copy  Q p1 p2 M
set_option maxHeartbeats 4000000 in
set_option maxRecDepth 100000 in
theorem k_X12_copy_b381 {l : Launch} {D : va_G} {cy : Nat → ClassId} {ad : Nat → Nat} {Q : Int → MM → Prop} {J : Nat → List (Nat × Value) → List Value → MM → Prop} (hin : jIn ad ksR.length)   (hJ : jOk l D vwCl (tyR cy) cy ad ftR ksR (XtR ad) Om RX12 cX12_copy 11 1 ({ frames := 4, cells := 0, slots := 0, locals := 94 } : Room) Q J) {K242 : Int → Int → MM → Prop} (hK242 : ∀ (x4 x5 : Int) (M : MM), ri_ x4 → ri_ x5 → K242 x4 x5 M → J 242 [(0, .ref (ad 0)), (4, .int (Ii x4)), (5, .int (Ii x5))] [] M) {K263 : Int → Int → Int → Int → MM → Prop} (hK263 : ∀ (x4 x5 x6 x7 : Int) (M : MM), ri_ x4 → ri_ x5 → ri_ x6 → ri_ x7 → K263 x4 x5 x6 x7 M → J 263 [(0, .ref (ad 0)), (4, .int (Ii x4)), (5, .int (Ii x5)), (6, .int (Ii x6)), (7, .int (Ii x7))] [] M) : ∀ (x4 x5 x6 x7 s0 s1 : Int) (M : MM), ri_ x4 → ri_ x5 → ri_ x6 → ri_ x7 → rl_ s0 → ri_ s1 → w_X12_copy_b381  Q K242 K263 x4 x5 x6 x7 s0 s1 M → J 381 [(0, .ref (ad 0)), (4, .int (Ii x4)), (5, .int (Ii x5)), (6, .int (Ii x6)), (7, .int (Ii x7))] [.long (Ll s0), .int (Ii s1), .ref (ad 23)] M := by
  intro x4 x5 x6 x7 s0 s1 M gx4 gx5 gx6 gx7 gs0 gs1 hF
  unfold w_X12_copy_b381 at hF
  refine j_last hJ gs1 gs0 kR_23 hF.1 hF.2.1 dX12_copy_381 (fun M1 eM1 => ?_)
  have hF := hF.2.2 M1 eM1
  refine j_iinc (lv' := [(7, .int (Ii (x7 + 1))), (0, .ref (ad 0)), (4, .int (Ii x4)), (5, .int (Ii x5)), (6, .int (Ii x6))]) (k := 4) hJ dX12_copy_382 rfl (by decide) rfl ?_
  have g2 := hF.1; have hF := hF.2
  refine j_goto hJ 263 dX12_copy_385 (by decide) ?_
  exact j_sub hJ [1, 2, 3, 4, 0] rfl (hK263 x4 x5 x6 (x7 + 1) _ gx4 gx5 gx6 g2 hF)
set_option maxHeartbeats 4000000 in
set_option maxRecDepth 100000 in
theorem k_X12_copy_b340 {l : Launch} {D : va_G} {cy : Nat → ClassId} {ad : Nat → Nat} {Q : Int → MM → Prop} {J : Nat → List (Nat × Value) → List Value → MM → Prop} (hin : jIn ad ksR.length)   (hJ : jOk l D vwCl (tyR cy) cy ad ftR ksR (XtR ad) Om RX12 cX12_copy 11 1 ({ frames := 4, cells := 0, slots := 0, locals := 94 } : Room) Q J) {K242 : Int → Int → MM → Prop} (hK242 : ∀ (x4 x5 : Int) (M : MM), ri_ x4 → ri_ x5 → K242 x4 x5 M → J 242 [(0, .ref (ad 0)), (4, .int (Ii x4)), (5, .int (Ii x5))] [] M) {K263 : Int → Int → Int → Int → MM → Prop} (hK263 : ∀ (x4 x5 x6 x7 : Int) (M : MM), ri_ x4 → ri_ x5 → ri_ x6 → ri_ x7 → K263 x4 x5 x6 x7 M → J 263 [(0, .ref (ad 0)), (4, .int (Ii x4)), (5, .int (Ii x5)), (6, .int (Ii x6)), (7, .int (Ii x7))] [] M) : ∀ (x4 x5 x6 x7 x8 s0 : Int) (M : MM), ri_ x4 → ri_ x5 → ri_ x6 → ri_ x7 → rl_ x8 → ri_ s0 → w_X12_copy_b340  Q K242 K263 x4 x5 x6 x7 x8 s0 M → J 340 [(0, .ref (ad 0)), (4, .int (Ii x4)), (5, .int (Ii x5)), (6, .int (Ii x6)), (7, .int (Ii x7)), (8, .long (Ll x8))] [.int (Ii s0)] M := by
  intro x4 x5 x6 x7 x8 s0 M gx4 gx5 gx6 gx7 gx8 gs0 hF
  unfold w_X12_copy_b340 at hF
  refine j_istore (lv' := [(10, .int (Ii s0)), (0, .ref (ad 0)), (4, .int (Ii x4)), (5, .int (Ii x5)), (6, .int (Ii x6)), (7, .int (Ii x7)), (8, .long (Ll x8))]) hJ dX12_copy_340 (by decide) rfl ?_
  refine j_aload_n hJ dX12_copy_342 rfl 1 rfl ?_
  refine j_gr (e := 23) hJ kR_0 fR_15_25 fl_X12_138 dX12_copy_343 rfl ?_
  refine j_aload_n hJ dX12_copy_346 rfl 1 rfl ?_
  refine j_gr (e := 21) hJ kR_0 fR_15_23 fl_X12_131 dX12_copy_347 rfl ?_
  refine j_iload hJ dX12_copy_350 2 rfl ?_
  refine j_iload hJ dX12_copy_352 3 rfl ?_
  refine j_iadd hJ dX12_copy_354 ?_
  have g1 := hF.1; have hF := hF.2
  refine j_iald hJ g1 kR_21 hF.1 hF.2.1 dX12_copy_355 (fun v2 ev2 gv2 => ?_)
  have hF := hF.2.2 v2 ev2 gv2
  refine j_iload hJ dX12_copy_356 5 rfl ?_
  refine j_iadd hJ dX12_copy_358 ?_
  have g3 := hF.1; have hF := hF.2
  refine j_iload hJ dX12_copy_359 0 rfl ?_
  refine j_if_eq hJ 379 gs0 dX12_copy_361 (by decide) (fun z4 => ?_) (fun z4 => ?_)
  · have hF := hF.1 z4
    refine j_lload hJ dX12_copy_379 6 rfl ?_
    exact j_sub hJ [1, 2, 3, 4, 5] rfl (k_X12_copy_b381 hin  hJ hK242 hK263 x4 x5 x6 x7 x8 (v2 + x7) _ gx4 gx5 gx6 gx7 gx8 g3 hF)
  · have hF := hF.2 z4
    refine j_iload hJ dX12_copy_364 2 rfl ?_
    refine j_aload_n hJ dX12_copy_366 rfl 1 rfl ?_
    refine j_gr (e := 37) hJ kR_0 fR_15_46 fl_X12_180 dX12_copy_367 rfl ?_
    refine j_lload hJ dX12_copy_370 6 rfl ?_
    refine j_l2i hJ dX12_copy_372 ?_
    have g5 := hF.1; have hF := hF.2
    refine j_iald hJ g5 kR_37 hF.1 hF.2.1 dX12_copy_373 (fun v6 ev6 gv6 => ?_)
    have hF := hF.2.2 v6 ev6 gv6
    refine j_iadd hJ dX12_copy_374 ?_
    have g7 := hF.1; have hF := hF.2
    refine j_i2l hJ g7 dX12_copy_375 ?_
    refine j_goto hJ 381 dX12_copy_376 (by decide) ?_
    exact j_sub hJ [1, 2, 3, 4, 5] rfl (k_X12_copy_b381 hin  hJ hK242 hK263 x4 x5 x6 x7 (x4 + v6) (v2 + x7) _ gx4 gx5 gx6 gx7 (rl_ri g7) g3 hF)
set_option maxHeartbeats 4000000 in
set_option maxRecDepth 100000 in
theorem k_X12_copy_b339 {l : Launch} {D : va_G} {cy : Nat → ClassId} {ad : Nat → Nat} {Q : Int → MM → Prop} {J : Nat → List (Nat × Value) → List Value → MM → Prop} (hin : jIn ad ksR.length)   (hJ : jOk l D vwCl (tyR cy) cy ad ftR ksR (XtR ad) Om RX12 cX12_copy 11 1 ({ frames := 4, cells := 0, slots := 0, locals := 94 } : Room) Q J) {K242 : Int → Int → MM → Prop} (hK242 : ∀ (x4 x5 : Int) (M : MM), ri_ x4 → ri_ x5 → K242 x4 x5 M → J 242 [(0, .ref (ad 0)), (4, .int (Ii x4)), (5, .int (Ii x5))] [] M) {K263 : Int → Int → Int → Int → MM → Prop} (hK263 : ∀ (x4 x5 x6 x7 : Int) (M : MM), ri_ x4 → ri_ x5 → ri_ x6 → ri_ x7 → K263 x4 x5 x6 x7 M → J 263 [(0, .ref (ad 0)), (4, .int (Ii x4)), (5, .int (Ii x5)), (6, .int (Ii x6)), (7, .int (Ii x7))] [] M) : ∀ (x4 x5 x6 x7 x8 : Int) (M : MM), ri_ x4 → ri_ x5 → ri_ x6 → ri_ x7 → rl_ x8 → w_X12_copy_b339  Q K242 K263 x4 x5 x6 x7 x8 M → J 339 [(0, .ref (ad 0)), (4, .int (Ii x4)), (5, .int (Ii x5)), (6, .int (Ii x6)), (7, .int (Ii x7)), (8, .long (Ll x8))] [] M := by
  intro x4 x5 x6 x7 x8 M gx4 gx5 gx6 gx7 gx8 hF
  unfold w_X12_copy_b339 at hF
  refine j_iconst hJ dX12_copy_339 ?_
  exact j_sub hJ [0, 1, 2, 3, 4, 5] rfl (k_X12_copy_b340 hin  hJ hK242 hK263 x4 x5 x6 x7 x8 0 _ gx4 gx5 gx6 gx7 gx8 rk_0 hF)
set_option maxHeartbeats 4000000 in
set_option maxRecDepth 100000 in
theorem k_X12_copy_b263 {l : Launch} {D : va_G} {cy : Nat → ClassId} {ad : Nat → Nat} {Q : Int → MM → Prop} {J : Nat → List (Nat × Value) → List Value → MM → Prop} (hin : jIn ad ksR.length)   (hJ : jOk l D vwCl (tyR cy) cy ad ftR ksR (XtR ad) Om RX12 cX12_copy 11 1 ({ frames := 4, cells := 0, slots := 0, locals := 94 } : Room) Q J) {K242 : Int → Int → MM → Prop} (hK242 : ∀ (x4 x5 : Int) (M : MM), ri_ x4 → ri_ x5 → K242 x4 x5 M → J 242 [(0, .ref (ad 0)), (4, .int (Ii x4)), (5, .int (Ii x5))] [] M) : ∀ (x4 x5 x6 x7 : Int) (M : MM), ri_ x4 → ri_ x5 → ri_ x6 → ri_ x7 → w_X12_copy_b263  Q K242 x4 x5 x6 x7 M → J 263 [(0, .ref (ad 0)), (4, .int (Ii x4)), (5, .int (Ii x5)), (6, .int (Ii x6)), (7, .int (Ii x7))] [] M := by
  have H9 : ∀ (n : Nat) (x4 x5 x6 x7 : Int) (M : MM), ri_ x4 → ri_ x5 → ri_ x6 → ri_ x7 → jit (fun _ _ _ _ _ => False) (wb_X12_copy_b263  Q K242) n x4 x5 x6 x7 M → J 263 [(0, .ref (ad 0)), (4, .int (Ii x4)), (5, .int (Ii x5)), (6, .int (Ii x6)), (7, .int (Ii x7))] [] M := by
    intro n
    induction n with
    | zero => intro x4 x5 x6 x7 M gx4 gx5 gx6 gx7 hF; exact False.elim hF
    | succ n ih =>
    intro x4 x5 x6 x7 M gx4 gx5 gx6 gx7 hF
    have hF : wb_X12_copy_b263  Q K242 (jit (fun _ _ _ _ _ => False) (wb_X12_copy_b263  Q K242) n) x4 x5 x6 x7 M := hF
    unfold wb_X12_copy_b263 at hF
    refine j_iload hJ dX12_copy_263 4 rfl ?_
    refine j_aload_n hJ dX12_copy_265 rfl 0 rfl ?_
    refine j_aload_n hJ dX12_copy_266 rfl 0 rfl ?_
    refine j_gr (e := 19) hJ kR_0 fR_15_21 fl_X12_125 dX12_copy_267 rfl ?_
    refine j_iload hJ dX12_copy_270 3 rfl ?_
    refine j_iald hJ gx6 kR_19 hF.1 hF.2.1 dX12_copy_272 (fun v1 ev1 gv1 => ?_)
    have hF := hF.2.2 v1 ev1 gv1
    refine j_aload_n hJ dX12_copy_273 rfl 0 rfl ?_
    refine j_gr (e := 20) hJ kR_0 fR_15_22 fl_X12_128 dX12_copy_274 rfl ?_
    refine j_iload hJ dX12_copy_277 3 rfl ?_
    refine j_iald hJ gx6 kR_20 hF.1 hF.2.1 dX12_copy_279 (fun v2 ev2 gv2 => ?_)
    have hF := hF.2.2 v2 ev2 gv2
    refine j_callVi hJ (c_X12_slotCount (l := l) (D := D) (cy := cy) (ad := ad) hin) rfl om_1089 ⟨rfl, rfl, Nat.le_of_ble_eq_true rfl, Nat.le_of_ble_eq_true rfl⟩ [.int (Ii v1), .int (Ii v2)] mv_X12_455 hd_X12_slotCountv kR_0 rfl rfl rfl (Nat.le_of_ble_eq_true rfl) dX12_copy_280 ⟨v1, v2, rfl, gv1, gv2, hF⟩ (fun r3 M4 gr3 qM4 => ?_)
    have hF := qM4 gr3
    refine j_icmp_ge hJ 388 gx7 gr3 dX12_copy_283 (by decide) (fun z5 => ?_) (fun z5 => ?_)
    · have hF := hF.1 z5
      refine j_iinc (lv' := [(5, .int (Ii (x5 + 1))), (0, .ref (ad 0)), (4, .int (Ii x4)), (6, .int (Ii x6)), (7, .int (Ii x7))]) (k := 2) hJ dX12_copy_388 rfl (by decide) rfl ?_
      have g6 := hF.1; have hF := hF.2
      refine j_goto hJ 242 dX12_copy_391 (by decide) ?_
      exact j_sub hJ [1, 2, 0] rfl (hK242 x4 (x5 + 1) _ gx4 g6 hF)
    · have hF := hF.2 z5
      refine j_aload_n hJ dX12_copy_286 rfl 0 rfl ?_
      refine j_gr (e := 23) hJ kR_0 fR_15_25 fl_X12_138 dX12_copy_287 rfl ?_
      refine j_aload_n hJ dX12_copy_290 rfl 0 rfl ?_
      refine j_gr (e := 21) hJ kR_0 fR_15_23 fl_X12_131 dX12_copy_291 rfl ?_
      refine j_iload hJ dX12_copy_294 3 rfl ?_
      refine j_iald hJ gx6 kR_21 hF.1 hF.2.1 dX12_copy_296 (fun v7 ev7 gv7 => ?_)
      have hF := hF.2.2 v7 ev7 gv7
      refine j_iload hJ dX12_copy_297 4 rfl ?_
      refine j_iadd hJ dX12_copy_299 ?_
      have g8 := hF.1; have hF := hF.2
      refine j_lald hJ g8 kR_23 hF.1 hF.2.1 dX12_copy_300 (fun v9 ev9 gv9 => ?_)
      have hF := hF.2.2 v9 ev9 gv9
      refine j_lstore (lv' := [(8, .long (Ll v9)), (0, .ref (ad 0)), (4, .int (Ii x4)), (5, .int (Ii x5)), (6, .int (Ii x6)), (7, .int (Ii x7))]) hJ dX12_copy_301 (by decide) rfl ?_
      refine j_aload_n hJ dX12_copy_303 rfl 1 rfl ?_
      refine j_iload hJ dX12_copy_304 4 rfl ?_
      refine j_iload hJ dX12_copy_306 5 rfl ?_
      refine j_callVz hJ (c_X12_isLinkSlot (l := l) (D := D) (cy := cy) (ad := ad) hin) rfl om_1129 ⟨rfl, rfl, Nat.le_of_ble_eq_true rfl, Nat.le_of_ble_eq_true rfl⟩ [.int (Ii x6), .int (Ii x7)] mv_X12_512 hd_X12_isLinkSlotv kR_0 rfl rfl rfl (Nat.le_of_ble_eq_true rfl) dX12_copy_308 ⟨x6, x7, rfl, gx6, gx7, hF⟩ (fun r10 M11 gr10 qM11 => ?_)
      have hF := qM11 gr10
      refine j_if_eq hJ 339 (jz_ri gr10) dX12_copy_311 (by decide) (fun z12 => ?_) (fun z12 => ?_)
      · have hF := hF.1 z12
        exact j_sub hJ [1, 2, 3, 4, 5, 0] rfl (k_X12_copy_b339 hin  hJ hK242 ih x4 x5 x6 x7 v9 _ gx4 gx5 gx6 gx7 gv9 hF)
      · have hF := hF.2 z12
        refine j_lload hJ dX12_copy_314 0 rfl ?_
        refine j_ldc2 hJ (-1) om_1068 (by decide) dX12_copy_316 ?_
        refine j_lcmp_eq hJ 339 gv9 lk_m1 dX12_copy_319 dX12_copy_320 (by decide) (fun z13 => ?_) (fun z13 => ?_)
        · have hF := hF.1 z13
          exact j_sub hJ [1, 2, 3, 4, 5, 0] rfl (k_X12_copy_b339 hin  hJ hK242 ih x4 x5 x6 x7 v9 _ gx4 gx5 gx6 gx7 gv9 hF)
        · have hF := hF.2 z13
          refine j_aload_n hJ dX12_copy_323 rfl 1 rfl ?_
          refine j_gr (e := 37) hJ kR_0 fR_15_46 fl_X12_180 dX12_copy_324 rfl ?_
          refine j_lload hJ dX12_copy_327 0 rfl ?_
          refine j_l2i hJ dX12_copy_329 ?_
          have g14 := hF.1; have hF := hF.2
          refine j_iald hJ g14 kR_37 hF.1 hF.2.1 dX12_copy_330 (fun v15 ev15 gv15 => ?_)
          have hF := hF.2.2 v15 ev15 gv15
          refine j_iconst hJ dX12_copy_331 ?_
          refine j_icmp_eq hJ 339 gv15 rk_m1 dX12_copy_332 (by decide) (fun z16 => ?_) (fun z16 => ?_)
          · have hF := hF.1 z16
            exact j_sub hJ [1, 2, 3, 4, 5, 0] rfl (k_X12_copy_b339 hin  hJ hK242 ih x4 x5 x6 x7 v9 _ gx4 gx5 gx6 gx7 gv9 hF)
          · have hF := hF.2 z16
            refine j_iconst hJ dX12_copy_335 ?_
            refine j_goto hJ 340 dX12_copy_336 (by decide) ?_
            exact j_sub hJ [1, 2, 3, 4, 5, 0] rfl (k_X12_copy_b340 hin  hJ hK242 ih x4 x5 x6 x7 v9 1 _ gx4 gx5 gx6 gx7 gv9 rk_1 hF)
  intro x4 x5 x6 x7 M gx4 gx5 gx6 gx7 hF
  obtain ⟨n, hF⟩ := hF
  exact H9 n x4 x5 x6 x7 M gx4 gx5 gx6 gx7 hF
set_option maxHeartbeats 4000000 in
set_option maxRecDepth 100000 in
theorem k_X12_copy_b242 {l : Launch} {D : va_G} {cy : Nat → ClassId} {ad : Nat → Nat} {Q : Int → MM → Prop} {J : Nat → List (Nat × Value) → List Value → MM → Prop} (hin : jIn ad ksR.length)   (hJ : jOk l D vwCl (tyR cy) cy ad ftR ksR (XtR ad) Om RX12 cX12_copy 11 1 ({ frames := 4, cells := 0, slots := 0, locals := 94 } : Room) Q J)  : ∀ (x4 x5 : Int) (M : MM), ri_ x4 → ri_ x5 → w_X12_copy_b242  Q  x4 x5 M → J 242 [(0, .ref (ad 0)), (4, .int (Ii x4)), (5, .int (Ii x5))] [] M := by
  have H9 : ∀ (n : Nat) (x4 x5 : Int) (M : MM), ri_ x4 → ri_ x5 → jit (fun _ _ _ => False) (wb_X12_copy_b242  Q ) n x4 x5 M → J 242 [(0, .ref (ad 0)), (4, .int (Ii x4)), (5, .int (Ii x5))] [] M := by
    intro n
    induction n with
    | zero => intro x4 x5 M gx4 gx5 hF; exact False.elim hF
    | succ n ih =>
    intro x4 x5 M gx4 gx5 hF
    have hF : wb_X12_copy_b242  Q  (jit (fun _ _ _ => False) (wb_X12_copy_b242  Q ) n) x4 x5 M := hF
    unfold wb_X12_copy_b242 at hF
    refine j_iload hJ dX12_copy_242 2 rfl ?_
    refine j_aload_n hJ dX12_copy_244 rfl 0 rfl ?_
    refine j_gi hJ kR_0 fR_15_47 rfl fl_X12_522 dX12_copy_245 (fun v1 ev1 gv1 => ?_)
    have hF := hF v1 ev1 gv1
    refine j_icmp_ge hJ 394 gx5 gv1 dX12_copy_248 (by decide) (fun z2 => ?_) (fun z2 => ?_)
    · have hF := hF.1 z2
      refine j_iload hJ dX12_copy_394 1 rfl ?_
      exact j_iret hJ rfl gx4 dX12_copy_396 hF
    · have hF := hF.2 z2
      refine j_aload_n hJ dX12_copy_251 rfl 0 rfl ?_
      refine j_gr (e := 36) hJ kR_0 fR_15_45 fl_X12_177 dX12_copy_252 rfl ?_
      refine j_iload hJ dX12_copy_255 2 rfl ?_
      refine j_iald hJ gx5 kR_36 hF.1 hF.2.1 dX12_copy_257 (fun v3 ev3 gv3 => ?_)
      have hF := hF.2.2 v3 ev3 gv3
      refine j_istore (lv' := [(6, .int (Ii v3)), (0, .ref (ad 0)), (4, .int (Ii x4)), (5, .int (Ii x5))]) hJ dX12_copy_258 (by decide) rfl ?_
      refine j_iconst hJ dX12_copy_260 ?_
      refine j_istore (lv' := [(7, .int (Ii 0)), (6, .int (Ii v3)), (0, .ref (ad 0)), (4, .int (Ii x4)), (5, .int (Ii x5))]) hJ dX12_copy_261 (by decide) rfl ?_
      exact j_sub hJ [2, 3, 4, 1, 0] rfl (k_X12_copy_b263 hin  hJ ih x4 x5 v3 0 _ gx4 gx5 gv3 rk_0 hF)
  intro x4 x5 M gx4 gx5 hF
  obtain ⟨n, hF⟩ := hF
  exact H9 n x4 x5 M gx4 gx5 hF
set_option maxHeartbeats 4000000 in
set_option maxRecDepth 100000 in
theorem k_X12_copy_b194 {l : Launch} {D : va_G} {cy : Nat → ClassId} {ad : Nat → Nat} {Q : Int → MM → Prop} {J : Nat → List (Nat × Value) → List Value → MM → Prop} (hin : jIn ad ksR.length)   (hJ : jOk l D vwCl (tyR cy) cy ad ftR ksR (XtR ad) Om RX12 cX12_copy 11 1 ({ frames := 4, cells := 0, slots := 0, locals := 94 } : Room) Q J)  : ∀ (x4 x5 : Int) (M : MM), ri_ x4 → ri_ x5 → w_X12_copy_b194  Q  x4 x5 M → J 194 [(0, .ref (ad 0)), (4, .int (Ii x4)), (5, .int (Ii x5))] [] M := by
  have H9 : ∀ (n : Nat) (x4 x5 : Int) (M : MM), ri_ x4 → ri_ x5 → jit (fun _ _ _ => False) (wb_X12_copy_b194  Q ) n x4 x5 M → J 194 [(0, .ref (ad 0)), (4, .int (Ii x4)), (5, .int (Ii x5))] [] M := by
    intro n
    induction n with
    | zero => intro x4 x5 M gx4 gx5 hF; exact False.elim hF
    | succ n ih =>
    intro x4 x5 M gx4 gx5 hF
    have hF : wb_X12_copy_b194  Q  (jit (fun _ _ _ => False) (wb_X12_copy_b194  Q ) n) x4 x5 M := hF
    unfold wb_X12_copy_b194 at hF
    refine j_iload hJ dX12_copy_194 2 rfl ?_
    refine j_aload_n hJ dX12_copy_196 rfl 0 rfl ?_
    refine j_gi hJ kR_0 fR_15_47 rfl fl_X12_522 dX12_copy_197 (fun v1 ev1 gv1 => ?_)
    have hF := hF v1 ev1 gv1
    refine j_icmp_ge hJ 239 gx5 gv1 dX12_copy_200 (by decide) (fun z2 => ?_) (fun z2 => ?_)
    · have hF := hF.1 z2
      refine j_iconst hJ dX12_copy_239 ?_
      refine j_istore (lv' := [(5, .int (Ii 0)), (0, .ref (ad 0)), (4, .int (Ii x4))]) hJ dX12_copy_240 (by decide) rfl ?_
      exact j_sub hJ [1, 2, 0] rfl (k_X12_copy_b242 hin  hJ  x4 0 _ gx4 rk_0 hF)
    · have hF := hF.2 z2
      refine j_aload_n hJ dX12_copy_203 rfl 0 rfl ?_
      refine j_aload_n hJ dX12_copy_204 rfl 0 rfl ?_
      refine j_gr (e := 19) hJ kR_0 fR_15_21 fl_X12_125 dX12_copy_205 rfl ?_
      refine j_aload_n hJ dX12_copy_208 rfl 0 rfl ?_
      refine j_gr (e := 36) hJ kR_0 fR_15_45 fl_X12_177 dX12_copy_209 rfl ?_
      refine j_iload hJ dX12_copy_212 2 rfl ?_
      refine j_iald hJ gx5 kR_36 hF.1 hF.2.1 dX12_copy_214 (fun v3 ev3 gv3 => ?_)
      have hF := hF.2.2 v3 ev3 gv3
      refine j_iald hJ gv3 kR_19 hF.1 hF.2.1 dX12_copy_215 (fun v4 ev4 gv4 => ?_)
      have hF := hF.2.2 v4 ev4 gv4
      refine j_aload_n hJ dX12_copy_216 rfl 0 rfl ?_
      refine j_gr (e := 20) hJ kR_0 fR_15_22 fl_X12_128 dX12_copy_217 rfl ?_
      refine j_aload_n hJ dX12_copy_220 rfl 0 rfl ?_
      refine j_gr (e := 36) hJ kR_0 fR_15_45 fl_X12_177 dX12_copy_221 rfl ?_
      refine j_iload hJ dX12_copy_224 2 rfl ?_
      refine j_iald hJ gx5 kR_36 hF.1 hF.2.1 dX12_copy_226 (fun v5 ev5 gv5 => ?_)
      have hF := hF.2.2 v5 ev5 gv5
      refine j_iald hJ gv5 kR_20 hF.1 hF.2.1 dX12_copy_227 (fun v6 ev6 gv6 => ?_)
      have hF := hF.2.2 v6 ev6 gv6
      refine j_callVi hJ (c_X12_add (l := l) (D := D) (cy := cy) (ad := ad) hin) rfl om_1097 ⟨rfl, rfl, Nat.le_of_ble_eq_true rfl, Nat.le_of_ble_eq_true rfl⟩ [.int (Ii v4), .int (Ii v6)] mv_X12_467 hd_X12_addv kR_0 rfl rfl rfl (Nat.le_of_ble_eq_true rfl) dX12_copy_228 ⟨v4, v6, rfl, gv4, gv6, hF⟩ (fun r7 M8 gr7 qM8 => ?_)
      have hF := qM8 gr7
      refine j_istore (lv' := [(6, .int (Ii r7)), (0, .ref (ad 0)), (4, .int (Ii x4)), (5, .int (Ii x5))]) hJ dX12_copy_231 (by decide) rfl ?_
      refine j_iinc (lv' := [(5, .int (Ii (x5 + 1))), (6, .int (Ii r7)), (0, .ref (ad 0)), (4, .int (Ii x4))]) (k := 3) hJ dX12_copy_233 rfl (by decide) rfl ?_
      have g9 := hF.1; have hF := hF.2
      refine j_goto hJ 194 dX12_copy_236 (by decide) ?_
      exact j_sub hJ [2, 3, 0] rfl (ih x4 (x5 + 1) _ gx4 g9 hF)
  intro x4 x5 M gx4 gx5 hF
  obtain ⟨n, hF⟩ := hF
  exact H9 n x4 x5 M gx4 gx5 hF
set_option maxHeartbeats 4000000 in
set_option maxRecDepth 100000 in
theorem k_X12_copy_b173 {l : Launch} {D : va_G} {cy : Nat → ClassId} {ad : Nat → Nat} {Q : Int → MM → Prop} {J : Nat → List (Nat × Value) → List Value → MM → Prop} (hin : jIn ad ksR.length)   (hJ : jOk l D vwCl (tyR cy) cy ad ftR ksR (XtR ad) Om RX12 cX12_copy 11 1 ({ frames := 4, cells := 0, slots := 0, locals := 94 } : Room) Q J)  : ∀ (s0 : Int) (M : MM), ri_ s0 → w_X12_copy_b173  Q  s0 M → J 173 [(0, .ref (ad 0))] [.int (Ii s0), .ref (ad 0)] M := by
  intro s0 M gs0 hF
  unfold w_X12_copy_b173 at hF
  refine j_pi hJ gs0 kR_0 fR_15_0 rfl fp_X12_388 dX12_copy_173 (fun M1 eM1 => ?_)
  have hF := hF M1 eM1
  refine j_aload_n hJ dX12_copy_176 rfl 0 rfl ?_
  refine j_gi hJ kR_0 fR_15_0 rfl fl_X12_388 dX12_copy_177 (fun v2 ev2 gv2 => ?_)
  have hF := hF v2 ev2 gv2
  refine j_if_le hJ 185 gv2 dX12_copy_180 (by decide) (fun z3 => ?_) (fun z3 => ?_)
  · have hF := hF.1 z3
    refine j_aload_n hJ dX12_copy_185 rfl 0 rfl ?_
    refine j_gi hJ kR_0 fR_15_26 rfl fl_X12_435 dX12_copy_186 (fun v4 ev4 gv4 => ?_)
    have hF := hF v4 ev4 gv4
    refine j_istore (lv' := [(4, .int (Ii v4)), (0, .ref (ad 0))]) hJ dX12_copy_189 (by decide) rfl ?_
    refine j_iconst hJ dX12_copy_191 ?_
    refine j_istore (lv' := [(5, .int (Ii 0)), (4, .int (Ii v4)), (0, .ref (ad 0))]) hJ dX12_copy_192 (by decide) rfl ?_
    exact j_sub hJ [2, 1, 0] rfl (k_X12_copy_b194 hin  hJ  v4 0 _ gv4 rk_0 hF)
  · have hF := hF.2 z3
    refine j_iconst hJ dX12_copy_183 ?_
    exact j_iret hJ rfl rk_0 dX12_copy_184 hF
set_option maxHeartbeats 4000000 in
set_option maxRecDepth 100000 in
theorem k_X12_copy_b168 {l : Launch} {D : va_G} {cy : Nat → ClassId} {ad : Nat → Nat} {Q : Int → MM → Prop} {J : Nat → List (Nat × Value) → List Value → MM → Prop} (hin : jIn ad ksR.length)   (hJ : jOk l D vwCl (tyR cy) cy ad ftR ksR (XtR ad) Om RX12 cX12_copy 11 1 ({ frames := 4, cells := 0, slots := 0, locals := 94 } : Room) Q J)  : ∀ (M : MM), w_X12_copy_b168  Q   M → J 168 [(0, .ref (ad 0))] [.ref (ad 0)] M := by
  intro  M  hF
  unfold w_X12_copy_b168 at hF
  refine j_iconst hJ dX12_copy_168 ?_
  refine j_goto hJ 173 dX12_copy_169 (by decide) ?_
  exact j_sub hJ [0] rfl (k_X12_copy_b173 hin  hJ  3 _ rk_3 hF)
set_option maxHeartbeats 4000000 in
set_option maxRecDepth 100000 in
theorem k_X12_copy_b94 {l : Launch} {D : va_G} {cy : Nat → ClassId} {ad : Nat → Nat} {Q : Int → MM → Prop} {J : Nat → List (Nat × Value) → List Value → MM → Prop} (hin : jIn ad ksR.length)   (hJ : jOk l D vwCl (tyR cy) cy ad ftR ksR (XtR ad) Om RX12 cX12_copy 11 1 ({ frames := 4, cells := 0, slots := 0, locals := 94 } : Room) Q J)  : ∀ (x3 x4 : Int) (M : MM), ri_ x3 → ri_ x4 → w_X12_copy_b94  Q  x3 x4 M → J 94 [(0, .ref (ad 0)), (3, .int (Ii x3)), (4, .int (Ii x4))] [] M := by
  have H9 : ∀ (n : Nat) (x3 x4 : Int) (M : MM), ri_ x3 → ri_ x4 → jit (fun _ _ _ => False) (wb_X12_copy_b94  Q ) n x3 x4 M → J 94 [(0, .ref (ad 0)), (3, .int (Ii x3)), (4, .int (Ii x4))] [] M := by
    intro n
    induction n with
    | zero => intro x3 x4 M gx3 gx4 hF; exact False.elim hF
    | succ n ih =>
    intro x3 x4 M gx3 gx4 hF
    have hF : wb_X12_copy_b94  Q  (jit (fun _ _ _ => False) (wb_X12_copy_b94  Q ) n) x3 x4 M := hF
    unfold wb_X12_copy_b94 at hF
    refine j_iload hJ dX12_copy_94 2 rfl ?_
    refine j_aload_n hJ dX12_copy_96 rfl 0 rfl ?_
    refine j_gi hJ kR_0 fR_15_47 rfl fl_X12_522 dX12_copy_97 (fun v1 ev1 gv1 => ?_)
    have hF := hF v1 ev1 gv1
    refine j_icmp_ge hJ 140 gx4 gv1 dX12_copy_100 (by decide) (fun z2 => ?_) (fun z2 => ?_)
    · have hF := hF.1 z2
      refine j_aload_n hJ dX12_copy_140 rfl 0 rfl ?_
      refine j_aload_n hJ dX12_copy_141 rfl 0 rfl ?_
      refine j_gi hJ kR_0 fR_15_26 rfl fl_X12_435 dX12_copy_142 (fun v3 ev3 gv3 => ?_)
      have hF := hF v3 ev3 gv3
      refine j_aload_n hJ dX12_copy_145 rfl 0 rfl ?_
      refine j_gi hJ kR_0 fR_15_47 rfl fl_X12_522 dX12_copy_146 (fun v4 ev4 gv4 => ?_)
      have hF := hF v4 ev4 gv4
      refine j_iadd hJ dX12_copy_149 ?_
      have g5 := hF.1; have hF := hF.2
      refine j_sipush hJ dX12_copy_150 (by decide) ?_
      refine j_icmp_gt hJ 168 g5 rk_400 dX12_copy_153 (by decide) (fun z6 => ?_) (fun z6 => ?_)
      · have hF := hF.1 z6
        exact j_sub hJ [0] rfl (k_X12_copy_b168 hin  hJ   _  hF)
      · have hF := hF.2 z6
        refine j_aload_n hJ dX12_copy_156 rfl 0 rfl ?_
        refine j_gi hJ kR_0 fR_15_28 rfl fl_X12_461 dX12_copy_157 (fun v7 ev7 gv7 => ?_)
        have hF := hF v7 ev7 gv7
        refine j_iload_n hJ dX12_copy_160 rfl 1 rfl ?_
        refine j_iadd hJ dX12_copy_161 ?_
        have g8 := hF.1; have hF := hF.2
        refine j_sipush hJ dX12_copy_162 (by decide) ?_
        refine j_icmp_le hJ 172 g8 rk_4000 dX12_copy_165 (by decide) (fun z9 => ?_) (fun z9 => ?_)
        · have hF := hF.1 z9
          refine j_iconst hJ dX12_copy_172 ?_
          exact j_sub hJ [0] rfl (k_X12_copy_b173 hin  hJ  0 _ rk_0 hF)
        · have hF := hF.2 z9
          exact j_sub hJ [0] rfl (k_X12_copy_b168 hin  hJ   _  hF)
    · have hF := hF.2 z2
      refine j_iload_n hJ dX12_copy_103 rfl 1 rfl ?_
      refine j_aload_n hJ dX12_copy_104 rfl 0 rfl ?_
      refine j_aload_n hJ dX12_copy_105 rfl 0 rfl ?_
      refine j_gr (e := 19) hJ kR_0 fR_15_21 fl_X12_125 dX12_copy_106 rfl ?_
      refine j_aload_n hJ dX12_copy_109 rfl 0 rfl ?_
      refine j_gr (e := 36) hJ kR_0 fR_15_45 fl_X12_177 dX12_copy_110 rfl ?_
      refine j_iload hJ dX12_copy_113 2 rfl ?_
      refine j_iald hJ gx4 kR_36 hF.1 hF.2.1 dX12_copy_115 (fun v10 ev10 gv10 => ?_)
      have hF := hF.2.2 v10 ev10 gv10
      refine j_iald hJ gv10 kR_19 hF.1 hF.2.1 dX12_copy_116 (fun v11 ev11 gv11 => ?_)
      have hF := hF.2.2 v11 ev11 gv11
      refine j_aload_n hJ dX12_copy_117 rfl 0 rfl ?_
      refine j_gr (e := 20) hJ kR_0 fR_15_22 fl_X12_128 dX12_copy_118 rfl ?_
      refine j_aload_n hJ dX12_copy_121 rfl 0 rfl ?_
      refine j_gr (e := 36) hJ kR_0 fR_15_45 fl_X12_177 dX12_copy_122 rfl ?_
      refine j_iload hJ dX12_copy_125 2 rfl ?_
      refine j_iald hJ gx4 kR_36 hF.1 hF.2.1 dX12_copy_127 (fun v12 ev12 gv12 => ?_)
      have hF := hF.2.2 v12 ev12 gv12
      refine j_iald hJ gv12 kR_20 hF.1 hF.2.1 dX12_copy_128 (fun v13 ev13 gv13 => ?_)
      have hF := hF.2.2 v13 ev13 gv13
      refine j_callVi hJ (c_X12_slotCount (l := l) (D := D) (cy := cy) (ad := ad) hin) rfl om_1089 ⟨rfl, rfl, Nat.le_of_ble_eq_true rfl, Nat.le_of_ble_eq_true rfl⟩ [.int (Ii v11), .int (Ii v13)] mv_X12_455 hd_X12_slotCountv kR_0 rfl rfl rfl (Nat.le_of_ble_eq_true rfl) dX12_copy_129 ⟨v11, v13, rfl, gv11, gv13, hF⟩ (fun r14 M15 gr14 qM15 => ?_)
      have hF := qM15 gr14
      refine j_iadd hJ dX12_copy_132 ?_
      have g16 := hF.1; have hF := hF.2
      refine j_istore_n (lv' := [(3, .int (Ii (x3 + r14))), (0, .ref (ad 0)), (4, .int (Ii x4))]) hJ dX12_copy_133 rfl (by decide) rfl ?_
      refine j_iinc (lv' := [(4, .int (Ii (x4 + 1))), (3, .int (Ii (x3 + r14))), (0, .ref (ad 0))]) (k := 2) hJ dX12_copy_134 rfl (by decide) rfl ?_
      have g17 := hF.1; have hF := hF.2
      refine j_goto hJ 94 dX12_copy_137 (by decide) ?_
      exact j_sub hJ [2, 1, 0] rfl (ih (x3 + r14) (x4 + 1) _ g16 g17 hF)
  intro x3 x4 M gx3 gx4 hF
  obtain ⟨n, hF⟩ := hF
  exact H9 n x3 x4 M gx3 gx4 hF
set_option maxHeartbeats 4000000 in
set_option maxRecDepth 100000 in
theorem k_X12_copy_b89 {l : Launch} {D : va_G} {cy : Nat → ClassId} {ad : Nat → Nat} {Q : Int → MM → Prop} {J : Nat → List (Nat × Value) → List Value → MM → Prop} (hin : jIn ad ksR.length)   (hJ : jOk l D vwCl (tyR cy) cy ad ftR ksR (XtR ad) Om RX12 cX12_copy 11 1 ({ frames := 4, cells := 0, slots := 0, locals := 94 } : Room) Q J)  : ∀ (M : MM), w_X12_copy_b89  Q   M → J 89 [(0, .ref (ad 0))] [] M := by
  intro  M  hF
  unfold w_X12_copy_b89 at hF
  refine j_iconst hJ dX12_copy_89 ?_
  refine j_istore_n (lv' := [(3, .int (Ii 0)), (0, .ref (ad 0))]) hJ dX12_copy_90 rfl (by decide) rfl ?_
  refine j_iconst hJ dX12_copy_91 ?_
  refine j_istore (lv' := [(4, .int (Ii 0)), (3, .int (Ii 0)), (0, .ref (ad 0))]) hJ dX12_copy_92 (by decide) rfl ?_
  exact j_sub hJ [2, 1, 0] rfl (k_X12_copy_b94 hin  hJ  0 0 _ rk_0 rk_0 hF)
set_option maxHeartbeats 4000000 in
set_option maxRecDepth 100000 in
theorem k_X12_copy_b80 {l : Launch} {D : va_G} {cy : Nat → ClassId} {ad : Nat → Nat} {Q : Int → MM → Prop} {J : Nat → List (Nat × Value) → List Value → MM → Prop} (hin : jIn ad ksR.length)   (hJ : jOk l D vwCl (tyR cy) cy ad ftR ksR (XtR ad) Om RX12 cX12_copy 11 1 ({ frames := 4, cells := 0, slots := 0, locals := 94 } : Room) Q J) {K51 : Int → Int → MM → Prop} (hK51 : ∀ (x2 x3 : Int) (M : MM), ri_ x2 → ri_ x3 → K51 x2 x3 M → J 51 [(0, .ref (ad 0)), (2, .int (Ii x2)), (3, .int (Ii x3))] [] M) : ∀ (x2 x3 s0 s1 : Int) (M : MM), ri_ x2 → ri_ x3 → ri_ s0 → ri_ s1 → w_X12_copy_b80  Q K51 x2 x3 s0 s1 M → J 80 [(0, .ref (ad 0)), (2, .int (Ii x2)), (3, .int (Ii x3))] [.int (Ii s0), .int (Ii s1), .ref (ad 0)] M := by
  intro x2 x3 s0 s1 M gx2 gx3 gs0 gs1 hF
  unfold w_X12_copy_b80 at hF
  refine j_callVv hJ (c_X12_meetSlots (l := l) (D := D) (cy := cy) (ad := ad) hin) rfl om_1141 ⟨rfl, rfl, Nat.le_of_ble_eq_true rfl, Nat.le_of_ble_eq_true rfl⟩ [.int (Ii s1), .int (Ii s0)] mv_X12_535 hd_X12_meetSlotsv kR_0 rfl rfl rfl (Nat.le_of_ble_eq_true rfl) dX12_copy_80 ⟨s1, s0, rfl, gs1, hF.1, hF.2⟩ (fun M2 qM2 => ?_)
  have hF := qM2
  refine j_iinc (lv' := [(3, .int (Ii (x3 + 1))), (0, .ref (ad 0)), (2, .int (Ii x2))]) (k := 2) hJ dX12_copy_83 rfl (by decide) rfl ?_
  have g3 := hF.1; have hF := hF.2
  refine j_goto hJ 51 dX12_copy_86 (by decide) ?_
  exact j_sub hJ [1, 2, 0] rfl (hK51 x2 (x3 + 1) _ gx2 g3 hF)
set_option maxHeartbeats 4000000 in
set_option maxRecDepth 100000 in
theorem k_X12_copy_b51 {l : Launch} {D : va_G} {cy : Nat → ClassId} {ad : Nat → Nat} {Q : Int → MM → Prop} {J : Nat → List (Nat × Value) → List Value → MM → Prop} (hin : jIn ad ksR.length)   (hJ : jOk l D vwCl (tyR cy) cy ad ftR ksR (XtR ad) Om RX12 cX12_copy 11 1 ({ frames := 4, cells := 0, slots := 0, locals := 94 } : Room) Q J)  : ∀ (x2 x3 : Int) (M : MM), ri_ x2 → ri_ x3 → w_X12_copy_b51  Q  x2 x3 M → J 51 [(0, .ref (ad 0)), (2, .int (Ii x2)), (3, .int (Ii x3))] [] M := by
  have H9 : ∀ (n : Nat) (x2 x3 : Int) (M : MM), ri_ x2 → ri_ x3 → jit (fun _ _ _ => False) (wb_X12_copy_b51  Q ) n x2 x3 M → J 51 [(0, .ref (ad 0)), (2, .int (Ii x2)), (3, .int (Ii x3))] [] M := by
    intro n
    induction n with
    | zero => intro x2 x3 M gx2 gx3 hF; exact False.elim hF
    | succ n ih =>
    intro x2 x3 M gx2 gx3 hF
    have hF : wb_X12_copy_b51  Q  (jit (fun _ _ _ => False) (wb_X12_copy_b51  Q ) n) x2 x3 M := hF
    unfold wb_X12_copy_b51 at hF
    refine j_iload_n hJ dX12_copy_51 rfl 2 rfl ?_
    refine j_aload_n hJ dX12_copy_52 rfl 0 rfl ?_
    refine j_gi hJ kR_0 fR_15_47 rfl fl_X12_522 dX12_copy_53 (fun v1 ev1 gv1 => ?_)
    have hF := hF v1 ev1 gv1
    refine j_icmp_ge hJ 89 gx3 gv1 dX12_copy_56 (by decide) (fun z2 => ?_) (fun z2 => ?_)
    · have hF := hF.1 z2
      exact j_sub hJ [0] rfl (k_X12_copy_b89 hin  hJ   _  hF)
    · have hF := hF.2 z2
      refine j_iload_n hJ dX12_copy_59 rfl 1 rfl ?_
      refine j_if_le hJ 89 gx2 dX12_copy_60 (by decide) (fun z3 => ?_) (fun z3 => ?_)
      · have hF := hF.1 z3
        exact j_sub hJ [0] rfl (k_X12_copy_b89 hin  hJ   _  hF)
      · have hF := hF.2 z3
        refine j_aload_n hJ dX12_copy_63 rfl 0 rfl ?_
        refine j_aload_n hJ dX12_copy_64 rfl 0 rfl ?_
        refine j_gr (e := 36) hJ kR_0 fR_15_45 fl_X12_177 dX12_copy_65 rfl ?_
        refine j_iload_n hJ dX12_copy_68 rfl 2 rfl ?_
        refine j_iald hJ gx3 kR_36 hF.1 hF.2.1 dX12_copy_69 (fun v4 ev4 gv4 => ?_)
        have hF := hF.2.2 v4 ev4 gv4
        refine j_iload_n hJ dX12_copy_70 rfl 1 rfl ?_
        refine j_iconst hJ dX12_copy_71 ?_
        refine j_icmp_ne hJ 79 gx2 rk_2 dX12_copy_72 (by decide) (fun z5 => ?_) (fun z5 => ?_)
        · have hF := hF.1 z5
          refine j_iconst hJ dX12_copy_79 ?_
          exact j_sub hJ [0, 1, 2] rfl (k_X12_copy_b80 hin  hJ ih x2 x3 0 v4 _ gx2 gx3 rk_0 gv4 hF)
        · have hF := hF.2 z5
          refine j_iconst hJ dX12_copy_75 ?_
          refine j_goto hJ 80 dX12_copy_76 (by decide) ?_
          exact j_sub hJ [0, 1, 2] rfl (k_X12_copy_b80 hin  hJ ih x2 x3 1 v4 _ gx2 gx3 rk_1 gv4 hF)
  intro x2 x3 M gx2 gx3 hF
  obtain ⟨n, hF⟩ := hF
  exact H9 n x2 x3 M gx2 gx3 hF
set_option maxHeartbeats 4000000 in
set_option maxRecDepth 100000 in
theorem k_X12_copy_b27 {l : Launch} {D : va_G} {cy : Nat → ClassId} {ad : Nat → Nat} {Q : Int → MM → Prop} {J : Nat → List (Nat × Value) → List Value → MM → Prop} (hin : jIn ad ksR.length)   (hJ : jOk l D vwCl (tyR cy) cy ad ftR ksR (XtR ad) Om RX12 cX12_copy 11 1 ({ frames := 4, cells := 0, slots := 0, locals := 94 } : Room) Q J)  : ∀ (x1 x2 s0 : Int) (M : MM), ri_ x1 → ri_ x2 → ri_ s0 → w_X12_copy_b27  Q  x1 x2 s0 M → J 27 [(0, .ref (ad 0)), (1, .int (Ii x1)), (2, .int (Ii x2))] [.int (Ii s0), .ref (ad 0)] M := by
  intro x1 x2 s0 M gx1 gx2 gs0 hF
  unfold w_X12_copy_b27 at hF
  refine j_pi hJ gs0 kR_0 fR_15_0 rfl fp_X12_388 dX12_copy_27 (fun M1 eM1 => ?_)
  have hF := hF M1 eM1
  refine j_aload_n hJ dX12_copy_30 rfl 0 rfl ?_
  refine j_gi hJ kR_0 fR_15_0 rfl fl_X12_388 dX12_copy_31 (fun v2 ev2 gv2 => ?_)
  have hF := hF v2 ev2 gv2
  refine j_if_le hJ 39 gv2 dX12_copy_34 (by decide) (fun z3 => ?_) (fun z3 => ?_)
  · have hF := hF.1 z3
    refine j_aload_n hJ dX12_copy_39 rfl 0 rfl ?_
    refine j_callVv hJ (c_X12_beginWalk (l := l) (D := D) (cy := cy) (ad := ad) hin) rfl om_1125 ⟨rfl, rfl, Nat.le_of_ble_eq_true rfl, Nat.le_of_ble_eq_true rfl⟩ [] mv_X12_532 hd_X12_beginWalkv kR_0 rfl rfl rfl (Nat.le_of_ble_eq_true rfl) dX12_copy_40 ⟨rfl, hF⟩ (fun M5 qM5 => ?_)
    have hF := qM5
    refine j_aload_n hJ dX12_copy_43 rfl 0 rfl ?_
    refine j_iload_n hJ dX12_copy_44 rfl 1 rfl ?_
    refine j_i2l hJ gx1 dX12_copy_45 ?_
    refine j_callVv hJ (c_X12_meet (l := l) (D := D) (cy := cy) (ad := ad) hin) rfl om_1133 ⟨rfl, rfl, Nat.le_of_ble_eq_true rfl, Nat.le_of_ble_eq_true rfl⟩ [.long (Ll x1)] mv_X12_528 hd_X12_meetv kR_0 rfl rfl rfl (Nat.le_of_ble_eq_true rfl) dX12_copy_46 ⟨x1, rfl, (rl_ri gx1), hF⟩ (fun M7 qM7 => ?_)
    have hF := qM7
    refine j_iconst hJ dX12_copy_49 ?_
    refine j_istore_n (lv' := [(3, .int (Ii 0)), (0, .ref (ad 0)), (1, .int (Ii x1)), (2, .int (Ii x2))]) hJ dX12_copy_50 rfl (by decide) rfl ?_
    exact j_sub hJ [1, 3, 0] rfl (k_X12_copy_b51 hin  hJ  x2 0 _ gx2 rk_0 hF)
  · have hF := hF.2 z3
    refine j_iconst hJ dX12_copy_37 ?_
    exact j_iret hJ rfl rk_0 dX12_copy_38 hF
set_option maxHeartbeats 4000000 in
set_option maxRecDepth 100000 in
theorem k_X12_copy_b22 {l : Launch} {D : va_G} {cy : Nat → ClassId} {ad : Nat → Nat} {Q : Int → MM → Prop} {J : Nat → List (Nat × Value) → List Value → MM → Prop} (hin : jIn ad ksR.length)   (hJ : jOk l D vwCl (tyR cy) cy ad ftR ksR (XtR ad) Om RX12 cX12_copy 11 1 ({ frames := 4, cells := 0, slots := 0, locals := 94 } : Room) Q J)  : ∀ (x1 x2 : Int) (M : MM), ri_ x1 → ri_ x2 → w_X12_copy_b22  Q  x1 x2 M → J 22 [(0, .ref (ad 0)), (1, .int (Ii x1)), (2, .int (Ii x2))] [.ref (ad 0)] M := by
  intro x1 x2 M gx1 gx2 hF
  unfold w_X12_copy_b22 at hF
  refine j_iconst hJ dX12_copy_22 ?_
  refine j_goto hJ 27 dX12_copy_23 (by decide) ?_
  exact j_sub hJ [0, 1, 2] rfl (k_X12_copy_b27 hin  hJ  x1 x2 2 _ gx1 gx2 rk_2 hF)
set_option maxHeartbeats 4000000 in
set_option maxRecDepth 100000 in
theorem c_X12_copy {l : Launch} {D : va_G} {cy : Nat → ClassId} {ad : Nat → Nat} (hin : jIn ad ksR.length) : jCN l D vwCl (tyR cy) cy ad ftR ksR (XtR ad) yX12_copy (.code yX12_copy cX12_copy 11 (some .int) :: Om) ({ frames := 4, cells := 0, slots := 0, locals := 94 } : Room) 1 (W_X12_copy ad) := by
  refine jCN_of (y := yX12_copy) (cc := cX12_copy) (nL := 11) (rk := 1) (rm := ({ frames := 4, cells := 0, slots := 0, locals := 94 } : Room)) (own := RX12) (tyR_ok cy) hin (XtR_ok ad) Om_good (by decide) rfl ?_
  intro Q av M hF
  obtain ⟨p1, p2, rfl, gp1, gp2, hF⟩ := hF
  refine ⟨Nat.le_of_ble_eq_true rfl, fun J hJ => ?_⟩
  show J 0 [(0, .ref (ad 0)), (1, .int (Ii p1)), (2, .int (Ii p2))] [] M
  unfold w_X12_copy at hF
  refine j_aload_n hJ dX12_copy_0 rfl 0 rfl ?_
  refine j_aload_n hJ dX12_copy_1 rfl 0 rfl ?_
  refine j_iload_n hJ dX12_copy_2 rfl 1 rfl ?_
  refine j_callVz hJ (c_X12_isObject (l := l) (D := D) (cy := cy) (ad := ad) hin) rfl om_1105 ⟨rfl, rfl, Nat.le_of_ble_eq_true rfl, Nat.le_of_ble_eq_true rfl⟩ [.int (Ii p1)] mv_X12_473 hd_X12_isObjectv kR_0 rfl rfl rfl (Nat.le_of_ble_eq_true rfl) dX12_copy_3 ⟨p1, rfl, gp1, hF⟩ (fun r1 M2 gr1 qM2 => ?_)
  have hF := qM2 gr1
  refine j_if_ne hJ 13 (jz_ri gr1) dX12_copy_6 (by decide) (fun z3 => ?_) (fun z3 => ?_)
  · have hF := hF.1 z3
    refine j_iload_n hJ dX12_copy_13 rfl 2 rfl ?_
    refine j_if_lt hJ 22 gp2 dX12_copy_14 (by decide) (fun z4 => ?_) (fun z4 => ?_)
    · have hF := hF.1 z4
      exact j_sub hJ [0, 1, 2] rfl (k_X12_copy_b22 hin  hJ  p1 p2 _ gp1 gp2 hF)
    · have hF := hF.2 z4
      refine j_iload_n hJ dX12_copy_17 rfl 2 rfl ?_
      refine j_iconst hJ dX12_copy_18 ?_
      refine j_icmp_le hJ 26 gp2 rk_2 dX12_copy_19 (by decide) (fun z5 => ?_) (fun z5 => ?_)
      · have hF := hF.1 z5
        refine j_iconst hJ dX12_copy_26 ?_
        exact j_sub hJ [0, 1, 2] rfl (k_X12_copy_b27 hin  hJ  p1 p2 0 _ gp1 gp2 rk_0 hF)
      · have hF := hF.2 z5
        exact j_sub hJ [0, 1, 2] rfl (k_X12_copy_b22 hin  hJ  p1 p2 _ gp1 gp2 hF)
  · have hF := hF.2 z3
    refine j_iconst hJ dX12_copy_9 ?_
    refine j_goto hJ 27 dX12_copy_10 (by decide) ?_
    exact j_sub hJ [0, 1, 2] rfl (k_X12_copy_b27 hin  hJ  p1 p2 1 _ gp1 gp2 rk_1 hF)
