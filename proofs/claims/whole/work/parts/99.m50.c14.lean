def W_X12_meet (ad : Nat → Nat) (Q : Int → MM → Prop) (av : List Value) (M : MM) : Prop := ∃ (p1 : Int), av = [.ref (ad 0), .long (Ll p1)] ∧ rl_ p1 ∧ w_X12_meet  Q p1 M
set_option maxHeartbeats 4000000 in
set_option maxRecDepth 100000 in
theorem c_X12_meet {l : Launch} {D : va_G} {cy : Nat → ClassId} {ad : Nat → Nat} (hin : jIn ad ksR.length) : jCN l D vwCl (tyR cy) cy ad ftR ksR (XtR ad) yX12_meet (.code yX12_meet cX12_meet 3 none :: Om) ({ frames := 0, cells := 0, slots := 0, locals := 0 } : Room) 0 (W_X12_meet ad) := by
  refine jCN_of (y := yX12_meet) (cc := cX12_meet) (nL := 3) (rk := 0) (rm := ({ frames := 0, cells := 0, slots := 0, locals := 0 } : Room)) (own := RX12) (tyR_ok cy) hin (XtR_ok ad) Om_good (by decide) rfl ?_
  intro Q av M hF
  obtain ⟨p1, rfl, gp1, hF⟩ := hF
  refine ⟨Nat.le_of_ble_eq_true rfl, fun J hJ => ?_⟩
  show J 0 [(0, .ref (ad 0)), (1, .long (Ll p1))] [] M
  unfold w_X12_meet at hF
  refine j_lload_n hJ dX12_meet_0 rfl 1 rfl ?_
  refine j_lconst (x := 0) hJ dX12_meet_1 rfl ?_
  refine j_lcmp_lt hJ 17 gp1 lkm_0 dX12_meet_2 dX12_meet_3 (by decide) (fun z1 => ?_) (fun z1 => ?_)
  · have hF := hF.1 z1
    exact j_vret hJ rfl dX12_meet_17 hF
  · have hF := hF.2 z1
    refine j_aload_n hJ dX12_meet_6 rfl 0 rfl ?_
    refine j_gr (e := 37) hJ kR_0 fR_15_46 fl_X12_180 dX12_meet_7 rfl ?_
    refine j_lload_n hJ dX12_meet_10 rfl 1 rfl ?_
    refine j_l2i hJ dX12_meet_11 ?_
    have g2 := hF.1; have hF := hF.2
    refine j_iald hJ g2 kR_37 hF.1 hF.2.1 dX12_meet_12 (fun v3 ev3 gv3 => ?_)
    have hF := hF.2.2 v3 ev3 gv3
    refine j_iconst hJ dX12_meet_13 ?_
    refine j_icmp_eq hJ 18 gv3 rk_m1 dX12_meet_14 (by decide) (fun z4 => ?_) (fun z4 => ?_)
    · have hF := hF.1 z4
      refine j_aload_n hJ dX12_meet_18 rfl 0 rfl ?_
      refine j_gr (e := 37) hJ kR_0 fR_15_46 fl_X12_180 dX12_meet_19 rfl ?_
      refine j_lload_n hJ dX12_meet_22 rfl 1 rfl ?_
      refine j_l2i hJ dX12_meet_23 ?_
      have g5 := hF.1; have hF := hF.2
      refine j_aload_n hJ dX12_meet_24 rfl 0 rfl ?_
      refine j_gi hJ kR_0 fR_15_47 rfl fl_X12_522 dX12_meet_25 (fun v6 ev6 gv6 => ?_)
      have hF := hF v6 ev6 gv6
      refine j_iast hJ g5 gv6 kR_37 hF.1 hF.2.1 dX12_meet_28 (fun M7 eM7 => ?_)
      have hF := hF.2.2 M7 eM7
      refine j_aload_n hJ dX12_meet_29 rfl 0 rfl ?_
      refine j_gr (e := 36) hJ kR_0 fR_15_45 fl_X12_177 dX12_meet_30 rfl ?_
      refine j_aload_n hJ dX12_meet_33 rfl 0 rfl ?_
      refine j_gi hJ kR_0 fR_15_47 rfl fl_X12_522 dX12_meet_34 (fun v8 ev8 gv8 => ?_)
      have hF := hF v8 ev8 gv8
      refine j_lload_n hJ dX12_meet_37 rfl 1 rfl ?_
      refine j_l2i hJ dX12_meet_38 ?_
      have g9 := hF.1; have hF := hF.2
      refine j_iast hJ gv8 g9 kR_36 hF.1 hF.2.1 dX12_meet_39 (fun M10 eM10 => ?_)
      have hF := hF.2.2 M10 eM10
      refine j_aload_n hJ dX12_meet_40 rfl 0 rfl ?_
      refine j_dup hJ dX12_meet_41 rfl ?_
      refine j_gi hJ kR_0 fR_15_47 rfl fl_X12_522 dX12_meet_42 (fun v11 ev11 gv11 => ?_)
      have hF := hF v11 ev11 gv11
      refine j_iconst hJ dX12_meet_45 ?_
      refine j_iadd hJ dX12_meet_46 ?_
      have g12 := hF.1; have hF := hF.2
      refine j_pi hJ g12 kR_0 fR_15_47 rfl fp_X12_522 dX12_meet_47 (fun M13 eM13 => ?_)
      have hF := hF M13 eM13
      exact j_vret hJ rfl dX12_meet_50 hF
    · have hF := hF.2 z4
      exact j_vret hJ rfl dX12_meet_17 hF
def W_X12_isApart (ad : Nat → Nat) (Q : Int → MM → Prop) (av : List Value) (M : MM) : Prop := ∃ (p1 : Int), av = [.ref (ad 0), .int (Ii p1)] ∧ ri_ p1 ∧ w_X12_isApart  Q p1 M
set_option maxHeartbeats 4000000 in
set_option maxRecDepth 100000 in
theorem k_X12_isApart_b57 {l : Launch} {D : va_G} {cy : Nat → ClassId} {ad : Nat → Nat} {Q : Int → MM → Prop} {J : Nat → List (Nat × Value) → List Value → MM → Prop} (hin : jIn ad ksR.length)   (hJ : jOk l D vwCl (tyR cy) cy ad ftR ksR (XtR ad) Om RX12 cX12_isApart 4 3 ({ frames := 1, cells := 0, slots := 0, locals := 23 } : Room) Q J) {K4 : Int → Int → Int → MM → Prop} (hK4 : ∀ (x1 x2 x3 : Int) (M : MM), ri_ x1 → ri_ x2 → ri_ x3 → K4 x1 x2 x3 M → J 4 [(0, .ref (ad 0)), (1, .int (Ii x1)), (2, .int (Ii x2)), (3, .int (Ii x3))] [] M) : ∀ (x1 x3 s0 : Int) (M : MM), ri_ x1 → ri_ x3 → ri_ s0 → w_X12_isApart_b57  Q K4 x1 x3 s0 M → J 57 [(0, .ref (ad 0)), (1, .int (Ii x1)), (3, .int (Ii x3))] [.int (Ii s0)] M := by
  intro x1 x3 s0 M gx1 gx3 gs0 hF
  unfold w_X12_isApart_b57 at hF
  refine j_istore_n (lv' := [(2, .int (Ii s0)), (0, .ref (ad 0)), (1, .int (Ii x1)), (3, .int (Ii x3))]) hJ dX12_isApart_57 rfl (by decide) rfl ?_
  refine j_iinc (lv' := [(3, .int (Ii (x3 + 1))), (2, .int (Ii s0)), (0, .ref (ad 0)), (1, .int (Ii x1))]) (k := 3) hJ dX12_isApart_58 rfl (by decide) rfl ?_
  have g1 := hF.1; have hF := hF.2
  refine j_goto hJ 4 dX12_isApart_61 (by decide) ?_
  exact j_sub hJ [2, 3, 1, 0] rfl (hK4 x1 s0 (x3 + 1) _ gx1 gs0 g1 hF)
set_option maxHeartbeats 4000000 in
set_option maxRecDepth 100000 in
theorem k_X12_isApart_b52 {l : Launch} {D : va_G} {cy : Nat → ClassId} {ad : Nat → Nat} {Q : Int → MM → Prop} {J : Nat → List (Nat × Value) → List Value → MM → Prop} (hin : jIn ad ksR.length)   (hJ : jOk l D vwCl (tyR cy) cy ad ftR ksR (XtR ad) Om RX12 cX12_isApart 4 3 ({ frames := 1, cells := 0, slots := 0, locals := 23 } : Room) Q J) {K4 : Int → Int → Int → MM → Prop} (hK4 : ∀ (x1 x2 x3 : Int) (M : MM), ri_ x1 → ri_ x2 → ri_ x3 → K4 x1 x2 x3 M → J 4 [(0, .ref (ad 0)), (1, .int (Ii x1)), (2, .int (Ii x2)), (3, .int (Ii x3))] [] M) : ∀ (x1 x3 : Int) (M : MM), ri_ x1 → ri_ x3 → w_X12_isApart_b52  Q K4 x1 x3 M → J 52 [(0, .ref (ad 0)), (1, .int (Ii x1)), (3, .int (Ii x3))] [] M := by
  intro x1 x3 M gx1 gx3 hF
  unfold w_X12_isApart_b52 at hF
  refine j_iconst hJ dX12_isApart_52 ?_
  refine j_goto hJ 57 dX12_isApart_53 (by decide) ?_
  exact j_sub hJ [0, 1, 2] rfl (k_X12_isApart_b57 hin  hJ hK4 x1 x3 1 _ gx1 gx3 rk_1 hF)
set_option maxHeartbeats 4000000 in
set_option maxRecDepth 100000 in
theorem k_X12_isApart_b56 {l : Launch} {D : va_G} {cy : Nat → ClassId} {ad : Nat → Nat} {Q : Int → MM → Prop} {J : Nat → List (Nat × Value) → List Value → MM → Prop} (hin : jIn ad ksR.length)   (hJ : jOk l D vwCl (tyR cy) cy ad ftR ksR (XtR ad) Om RX12 cX12_isApart 4 3 ({ frames := 1, cells := 0, slots := 0, locals := 23 } : Room) Q J) {K4 : Int → Int → Int → MM → Prop} (hK4 : ∀ (x1 x2 x3 : Int) (M : MM), ri_ x1 → ri_ x2 → ri_ x3 → K4 x1 x2 x3 M → J 4 [(0, .ref (ad 0)), (1, .int (Ii x1)), (2, .int (Ii x2)), (3, .int (Ii x3))] [] M) : ∀ (x1 x3 : Int) (M : MM), ri_ x1 → ri_ x3 → w_X12_isApart_b56  Q K4 x1 x3 M → J 56 [(0, .ref (ad 0)), (1, .int (Ii x1)), (3, .int (Ii x3))] [] M := by
  intro x1 x3 M gx1 gx3 hF
  unfold w_X12_isApart_b56 at hF
  refine j_iconst hJ dX12_isApart_56 ?_
  exact j_sub hJ [0, 1, 2] rfl (k_X12_isApart_b57 hin  hJ hK4 x1 x3 0 _ gx1 gx3 rk_0 hF)
set_option maxHeartbeats 4000000 in
set_option maxRecDepth 100000 in
theorem k_X12_isApart_b4 {l : Launch} {D : va_G} {cy : Nat → ClassId} {ad : Nat → Nat} {Q : Int → MM → Prop} {J : Nat → List (Nat × Value) → List Value → MM → Prop} (hin : jIn ad ksR.length)   (hJ : jOk l D vwCl (tyR cy) cy ad ftR ksR (XtR ad) Om RX12 cX12_isApart 4 3 ({ frames := 1, cells := 0, slots := 0, locals := 23 } : Room) Q J)  : ∀ (x1 x2 x3 : Int) (M : MM), ri_ x1 → ri_ x2 → ri_ x3 → w_X12_isApart_b4  Q  x1 x2 x3 M → J 4 [(0, .ref (ad 0)), (1, .int (Ii x1)), (2, .int (Ii x2)), (3, .int (Ii x3))] [] M := by
  have H9 : ∀ (n : Nat) (x1 x2 x3 : Int) (M : MM), ri_ x1 → ri_ x2 → ri_ x3 → jit (fun _ _ _ _ => False) (wb_X12_isApart_b4  Q ) n x1 x2 x3 M → J 4 [(0, .ref (ad 0)), (1, .int (Ii x1)), (2, .int (Ii x2)), (3, .int (Ii x3))] [] M := by
    intro n
    induction n with
    | zero => intro x1 x2 x3 M gx1 gx2 gx3 hF; exact False.elim hF
    | succ n ih =>
    intro x1 x2 x3 M gx1 gx2 gx3 hF
    have hF : wb_X12_isApart_b4  Q  (jit (fun _ _ _ _ => False) (wb_X12_isApart_b4  Q ) n) x1 x2 x3 M := hF
    unfold wb_X12_isApart_b4 at hF
    refine j_iload_n hJ dX12_isApart_4 rfl 3 rfl ?_
    refine j_aload_n hJ dX12_isApart_5 rfl 0 rfl ?_
    refine j_gi hJ kR_0 fR_15_20 rfl fl_X12_413 dX12_isApart_6 (fun v1 ev1 gv1 => ?_)
    have hF := hF v1 ev1 gv1
    refine j_icmp_ge hJ 64 gx3 gv1 dX12_isApart_9 (by decide) (fun z2 => ?_) (fun z2 => ?_)
    · have hF := hF.1 z2
      refine j_iload_n hJ dX12_isApart_64 rfl 2 rfl ?_
      exact j_zret hJ rfl hF.1 dX12_isApart_65 hF.2
    · have hF := hF.2 z2
      refine j_aload_n hJ dX12_isApart_12 rfl 0 rfl ?_
      refine j_aload_n hJ dX12_isApart_13 rfl 0 rfl ?_
      refine j_gr (e := 19) hJ kR_0 fR_15_21 fl_X12_125 dX12_isApart_14 rfl ?_
      refine j_iload_n hJ dX12_isApart_17 rfl 1 rfl ?_
      refine j_iald hJ gx1 kR_19 hF.1 hF.2.1 dX12_isApart_18 (fun v3 ev3 gv3 => ?_)
      have hF := hF.2.2 v3 ev3 gv3
      refine j_callVz hJ (c_X12_isClass (l := l) (D := D) (cy := cy) (ad := ad) hin) rfl om_1064 ⟨rfl, rfl, Nat.le_of_ble_eq_true rfl, Nat.le_of_ble_eq_true rfl⟩ [.int (Ii v3)] mv_X12_416 hd_X12_isClassv kR_0 rfl rfl rfl (Nat.le_of_ble_eq_true rfl) dX12_isApart_19 ⟨v3, rfl, gv3, hF⟩ (fun r4 M5 gr4 qM5 => ?_)
      have hF := qM5 gr4
      refine j_if_eq hJ 64 (jz_ri gr4) dX12_isApart_22 (by decide) (fun z6 => ?_) (fun z6 => ?_)
      · have hF := hF.1 z6
        refine j_iload_n hJ dX12_isApart_64 rfl 2 rfl ?_
        exact j_zret hJ rfl hF.1 dX12_isApart_65 hF.2
      · have hF := hF.2 z6
        refine j_iload_n hJ dX12_isApart_25 rfl 2 rfl ?_
        refine j_if_ne hJ 52 gx2 dX12_isApart_26 (by decide) (fun z7 => ?_) (fun z7 => ?_)
        · have hF := hF.1 z7
          exact j_sub hJ [0, 1, 3] rfl (k_X12_isApart_b52 hin  hJ ih x1 x3 _ gx1 gx3 hF)
        · have hF := hF.2 z7
          refine j_aload_n hJ dX12_isApart_29 rfl 0 rfl ?_
          refine j_gr (e := 18) hJ kR_0 fR_15_19 fl_X12_122 dX12_isApart_30 rfl ?_
          refine j_iload_n hJ dX12_isApart_33 rfl 3 rfl ?_
          refine j_zald hJ gx3 kR_18 hF.1 hF.2.1 dX12_isApart_34 (fun v8 ev8 gv8 => ?_)
          have hF := hF.2.2 v8 ev8 gv8
          refine j_if_eq hJ 56 (jz_ri gv8) dX12_isApart_35 (by decide) (fun z9 => ?_) (fun z9 => ?_)
          · have hF := hF.1 z9
            exact j_sub hJ [0, 1, 3] rfl (k_X12_isApart_b56 hin  hJ ih x1 x3 _ gx1 gx3 hF)
          · have hF := hF.2 z9
            refine j_aload_n hJ dX12_isApart_38 rfl 0 rfl ?_
            refine j_aload_n hJ dX12_isApart_39 rfl 0 rfl ?_
            refine j_gr (e := 19) hJ kR_0 fR_15_21 fl_X12_125 dX12_isApart_40 rfl ?_
            refine j_iload_n hJ dX12_isApart_43 rfl 1 rfl ?_
            refine j_iald hJ gx1 kR_19 hF.1 hF.2.1 dX12_isApart_44 (fun v10 ev10 gv10 => ?_)
            have hF := hF.2.2 v10 ev10 gv10
            refine j_iload_n hJ dX12_isApart_45 rfl 3 rfl ?_
            refine j_callVz hJ (c_X12_is (l := l) (D := D) (cy := cy) (ad := ad) hin) rfl om_1081 ⟨rfl, rfl, Nat.le_of_ble_eq_true rfl, Nat.le_of_ble_eq_true rfl⟩ [.int (Ii v10), .int (Ii x3)] mv_X12_445 hd_X12_isv kR_0 rfl rfl rfl (Nat.le_of_ble_eq_true rfl) dX12_isApart_46 ⟨v10, x3, rfl, gv10, gx3, hF⟩ (fun r11 M12 gr11 qM12 => ?_)
            have hF := qM12 gr11
            refine j_if_eq hJ 56 (jz_ri gr11) dX12_isApart_49 (by decide) (fun z13 => ?_) (fun z13 => ?_)
            · have hF := hF.1 z13
              exact j_sub hJ [0, 1, 3] rfl (k_X12_isApart_b56 hin  hJ ih x1 x3 _ gx1 gx3 hF)
            · have hF := hF.2 z13
              exact j_sub hJ [0, 1, 3] rfl (k_X12_isApart_b52 hin  hJ ih x1 x3 _ gx1 gx3 hF)
  intro x1 x2 x3 M gx1 gx2 gx3 hF
  obtain ⟨n, hF⟩ := hF
  exact H9 n x1 x2 x3 M gx1 gx2 gx3 hF
set_option maxHeartbeats 4000000 in
set_option maxRecDepth 100000 in
theorem c_X12_isApart {l : Launch} {D : va_G} {cy : Nat → ClassId} {ad : Nat → Nat} (hin : jIn ad ksR.length) : jCN l D vwCl (tyR cy) cy ad ftR ksR (XtR ad) yX12_isApart (.code yX12_isApart cX12_isApart 4 (some .boolean) :: Om) ({ frames := 1, cells := 0, slots := 0, locals := 23 } : Room) 3 (W_X12_isApart ad) := by
  refine jCN_of (y := yX12_isApart) (cc := cX12_isApart) (nL := 4) (rk := 3) (rm := ({ frames := 1, cells := 0, slots := 0, locals := 23 } : Room)) (own := RX12) (tyR_ok cy) hin (XtR_ok ad) Om_good (by decide) rfl ?_
  intro Q av M hF
  obtain ⟨p1, rfl, gp1, hF⟩ := hF
  refine ⟨Nat.le_of_ble_eq_true rfl, fun J hJ => ?_⟩
  show J 0 [(0, .ref (ad 0)), (1, .int (Ii p1))] [] M
  unfold w_X12_isApart at hF
  refine j_iconst hJ dX12_isApart_0 ?_
  refine j_istore_n (lv' := [(2, .int (Ii 0)), (0, .ref (ad 0)), (1, .int (Ii p1))]) hJ dX12_isApart_1 rfl (by decide) rfl ?_
  refine j_iconst hJ dX12_isApart_2 ?_
  refine j_istore_n (lv' := [(3, .int (Ii 0)), (2, .int (Ii 0)), (0, .ref (ad 0)), (1, .int (Ii p1))]) hJ dX12_isApart_3 rfl (by decide) rfl ?_
  exact j_sub hJ [2, 3, 1, 0] rfl (k_X12_isApart_b4 hin  hJ  p1 0 0 _ gp1 rk_0 rk_0 hF)
def W_X12_meetSlots (ad : Nat → Nat) (Q : Int → MM → Prop) (av : List Value) (M : MM) : Prop := ∃ (p1 : Int) (p2 : Int), av = [.ref (ad 0), .int (Ii p1), .int (Ii p2)] ∧ ri_ p1 ∧ (p2 = 0 ∨ p2 = 1) ∧ w_X12_meetSlots  Q p1 p2 M
set_option maxHeartbeats 4000000 in
set_option maxRecDepth 100000 in
theorem k_X12_meetSlots_b78 {l : Launch} {D : va_G} {cy : Nat → ClassId} {ad : Nat → Nat} {Q : Int → MM → Prop} {J : Nat → List (Nat × Value) → List Value → MM → Prop} (hin : jIn ad ksR.length)   (hJ : jOk l D vwCl (tyR cy) cy ad ftR ksR (XtR ad) Om RX12 cX12_meetSlots 6 0 ({ frames := 3, cells := 0, slots := 0, locals := 69 } : Room) Q J) {K2 : Int → Int → Int → MM → Prop} (hK2 : ∀ (x1 x2 x3 : Int) (M : MM), ri_ x1 → ri_ x2 → ri_ x3 → K2 x1 x2 x3 M → J 2 [(0, .ref (ad 0)), (1, .int (Ii x1)), (2, .int (Ii x2)), (3, .int (Ii x3))] [] M) : ∀ (x1 x2 x3 : Int) (M : MM), ri_ x1 → ri_ x2 → ri_ x3 → w_X12_meetSlots_b78  Q K2 x1 x2 x3 M → J 78 [(0, .ref (ad 0)), (1, .int (Ii x1)), (2, .int (Ii x2)), (3, .int (Ii x3))] [] M := by
  intro x1 x2 x3 M gx1 gx2 gx3 hF
  unfold w_X12_meetSlots_b78 at hF
  refine j_iinc (lv' := [(3, .int (Ii (x3 + 1))), (0, .ref (ad 0)), (1, .int (Ii x1)), (2, .int (Ii x2))]) (k := 3) hJ dX12_meetSlots_78 rfl (by decide) rfl ?_
  have g1 := hF.1; have hF := hF.2
  refine j_goto hJ 2 dX12_meetSlots_81 (by decide) ?_
  exact j_sub hJ [1, 2, 3, 0] rfl (hK2 x1 x2 (x3 + 1) _ gx1 gx2 g1 hF)
set_option maxHeartbeats 4000000 in
set_option maxRecDepth 100000 in
theorem k_X12_meetSlots_b72 {l : Launch} {D : va_G} {cy : Nat → ClassId} {ad : Nat → Nat} {Q : Int → MM → Prop} {J : Nat → List (Nat × Value) → List Value → MM → Prop} (hin : jIn ad ksR.length)   (hJ : jOk l D vwCl (tyR cy) cy ad ftR ksR (XtR ad) Om RX12 cX12_meetSlots 6 0 ({ frames := 3, cells := 0, slots := 0, locals := 69 } : Room) Q J) {K2 : Int → Int → Int → MM → Prop} (hK2 : ∀ (x1 x2 x3 : Int) (M : MM), ri_ x1 → ri_ x2 → ri_ x3 → K2 x1 x2 x3 M → J 2 [(0, .ref (ad 0)), (1, .int (Ii x1)), (2, .int (Ii x2)), (3, .int (Ii x3))] [] M) : ∀ (x1 x2 x3 x4 : Int) (M : MM), ri_ x1 → ri_ x2 → ri_ x3 → rl_ x4 → w_X12_meetSlots_b72  Q K2 x1 x2 x3 x4 M → J 72 [(0, .ref (ad 0)), (1, .int (Ii x1)), (2, .int (Ii x2)), (3, .int (Ii x3)), (4, .long (Ll x4))] [] M := by
  intro x1 x2 x3 x4 M gx1 gx2 gx3 gx4 hF
  unfold w_X12_meetSlots_b72 at hF
  refine j_aload_n hJ dX12_meetSlots_72 rfl 0 rfl ?_
  refine j_lload hJ dX12_meetSlots_73 4 rfl ?_
  refine j_callVv hJ (c_X12_meet (l := l) (D := D) (cy := cy) (ad := ad) hin) rfl om_1133 ⟨rfl, rfl, Nat.le_of_ble_eq_true rfl, Nat.le_of_ble_eq_true rfl⟩ [.long (Ll x4)] mv_X12_528 hd_X12_meetv kR_0 rfl rfl rfl (Nat.le_of_ble_eq_true rfl) dX12_meetSlots_75 ⟨x4, rfl, gx4, hF⟩ (fun M2 qM2 => ?_)
  have hF := qM2
  exact j_sub hJ [0, 1, 2, 3] rfl (k_X12_meetSlots_b78 hin  hJ hK2 x1 x2 x3 _ gx1 gx2 gx3 hF)
set_option maxHeartbeats 4000000 in
set_option maxRecDepth 100000 in
theorem k_X12_meetSlots_b2 {l : Launch} {D : va_G} {cy : Nat → ClassId} {ad : Nat → Nat} {Q : Int → MM → Prop} {J : Nat → List (Nat × Value) → List Value → MM → Prop} (hin : jIn ad ksR.length)   (hJ : jOk l D vwCl (tyR cy) cy ad ftR ksR (XtR ad) Om RX12 cX12_meetSlots 6 0 ({ frames := 3, cells := 0, slots := 0, locals := 69 } : Room) Q J)  : ∀ (x1 x2 x3 : Int) (M : MM), ri_ x1 → ri_ x2 → ri_ x3 → w_X12_meetSlots_b2  Q  x1 x2 x3 M → J 2 [(0, .ref (ad 0)), (1, .int (Ii x1)), (2, .int (Ii x2)), (3, .int (Ii x3))] [] M := by
  have H9 : ∀ (n : Nat) (x1 x2 x3 : Int) (M : MM), ri_ x1 → ri_ x2 → ri_ x3 → jit (fun _ _ _ _ => False) (wb_X12_meetSlots_b2  Q ) n x1 x2 x3 M → J 2 [(0, .ref (ad 0)), (1, .int (Ii x1)), (2, .int (Ii x2)), (3, .int (Ii x3))] [] M := by
    intro n
    induction n with
    | zero => intro x1 x2 x3 M gx1 gx2 gx3 hF; exact False.elim hF
    | succ n ih =>
    intro x1 x2 x3 M gx1 gx2 gx3 hF
    have hF : wb_X12_meetSlots_b2  Q  (jit (fun _ _ _ _ => False) (wb_X12_meetSlots_b2  Q ) n) x1 x2 x3 M := hF
    unfold wb_X12_meetSlots_b2 at hF
    refine j_iload_n hJ dX12_meetSlots_2 rfl 3 rfl ?_
    refine j_aload_n hJ dX12_meetSlots_3 rfl 0 rfl ?_
    refine j_aload_n hJ dX12_meetSlots_4 rfl 0 rfl ?_
    refine j_gr (e := 19) hJ kR_0 fR_15_21 fl_X12_125 dX12_meetSlots_5 rfl ?_
    refine j_iload_n hJ dX12_meetSlots_8 rfl 1 rfl ?_
    refine j_iald hJ gx1 kR_19 hF.1 hF.2.1 dX12_meetSlots_9 (fun v1 ev1 gv1 => ?_)
    have hF := hF.2.2 v1 ev1 gv1
    refine j_aload_n hJ dX12_meetSlots_10 rfl 0 rfl ?_
    refine j_gr (e := 20) hJ kR_0 fR_15_22 fl_X12_128 dX12_meetSlots_11 rfl ?_
    refine j_iload_n hJ dX12_meetSlots_14 rfl 1 rfl ?_
    refine j_iald hJ gx1 kR_20 hF.1 hF.2.1 dX12_meetSlots_15 (fun v2 ev2 gv2 => ?_)
    have hF := hF.2.2 v2 ev2 gv2
    refine j_callVi hJ (c_X12_slotCount (l := l) (D := D) (cy := cy) (ad := ad) hin) rfl om_1089 ⟨rfl, rfl, Nat.le_of_ble_eq_true rfl, Nat.le_of_ble_eq_true rfl⟩ [.int (Ii v1), .int (Ii v2)] mv_X12_455 hd_X12_slotCountv kR_0 rfl rfl rfl (Nat.le_of_ble_eq_true rfl) dX12_meetSlots_16 ⟨v1, v2, rfl, gv1, gv2, hF⟩ (fun r3 M4 gr3 qM4 => ?_)
    have hF := qM4 gr3
    refine j_icmp_ge hJ 84 gx3 gr3 dX12_meetSlots_19 (by decide) (fun z5 => ?_) (fun z5 => ?_)
    · have hF := hF.1 z5
      exact j_vret hJ rfl dX12_meetSlots_84 hF
    · have hF := hF.2 z5
      refine j_aload_n hJ dX12_meetSlots_22 rfl 0 rfl ?_
      refine j_iload_n hJ dX12_meetSlots_23 rfl 1 rfl ?_
      refine j_iload_n hJ dX12_meetSlots_24 rfl 3 rfl ?_
      refine j_callVz hJ (c_X12_isLinkSlot (l := l) (D := D) (cy := cy) (ad := ad) hin) rfl om_1129 ⟨rfl, rfl, Nat.le_of_ble_eq_true rfl, Nat.le_of_ble_eq_true rfl⟩ [.int (Ii x1), .int (Ii x3)] mv_X12_512 hd_X12_isLinkSlotv kR_0 rfl rfl rfl (Nat.le_of_ble_eq_true rfl) dX12_meetSlots_25 ⟨x1, x3, rfl, gx1, gx3, hF⟩ (fun r6 M7 gr6 qM7 => ?_)
      have hF := qM7 gr6
      refine j_if_ne hJ 34 (jz_ri gr6) dX12_meetSlots_28 (by decide) (fun z8 => ?_) (fun z8 => ?_)
      · have hF := hF.1 z8
        refine j_aload_n hJ dX12_meetSlots_34 rfl 0 rfl ?_
        refine j_gr (e := 23) hJ kR_0 fR_15_25 fl_X12_138 dX12_meetSlots_35 rfl ?_
        refine j_aload_n hJ dX12_meetSlots_38 rfl 0 rfl ?_
        refine j_gr (e := 21) hJ kR_0 fR_15_23 fl_X12_131 dX12_meetSlots_39 rfl ?_
        refine j_iload_n hJ dX12_meetSlots_42 rfl 1 rfl ?_
        refine j_iald hJ gx1 kR_21 hF.1 hF.2.1 dX12_meetSlots_43 (fun v9 ev9 gv9 => ?_)
        have hF := hF.2.2 v9 ev9 gv9
        refine j_iload_n hJ dX12_meetSlots_44 rfl 3 rfl ?_
        refine j_iadd hJ dX12_meetSlots_45 ?_
        have g10 := hF.1; have hF := hF.2
        refine j_lald hJ g10 kR_23 hF.1 hF.2.1 dX12_meetSlots_46 (fun v11 ev11 gv11 => ?_)
        have hF := hF.2.2 v11 ev11 gv11
        refine j_lstore (lv' := [(4, .long (Ll v11)), (0, .ref (ad 0)), (1, .int (Ii x1)), (2, .int (Ii x2)), (3, .int (Ii x3))]) hJ dX12_meetSlots_47 (by decide) rfl ?_
        refine j_lload hJ dX12_meetSlots_49 0 rfl ?_
        refine j_ldc2 hJ (-1) om_1068 (by decide) dX12_meetSlots_51 ?_
        refine j_lcmp_eq hJ 78 gv11 lk_m1 dX12_meetSlots_54 dX12_meetSlots_55 (by decide) (fun z12 => ?_) (fun z12 => ?_)
        · have hF := hF.1 z12
          exact j_sub hJ [1, 2, 3, 4] rfl (k_X12_meetSlots_b78 hin  hJ ih x1 x2 x3 _ gx1 gx2 gx3 hF)
        · have hF := hF.2 z12
          refine j_iload_n hJ dX12_meetSlots_58 rfl 3 rfl ?_
          refine j_if_eq hJ 72 gx2 dX12_meetSlots_59 (by decide) (fun z13 => ?_) (fun z13 => ?_)
          · have hF := hF.1 z13
            exact j_sub hJ [1, 2, 3, 4, 0] rfl (k_X12_meetSlots_b72 hin  hJ ih x1 x2 x3 v11 _ gx1 gx2 gx3 gv11 hF)
          · have hF := hF.2 z13
            refine j_aload_n hJ dX12_meetSlots_62 rfl 1 rfl ?_
            refine j_lload hJ dX12_meetSlots_63 0 rfl ?_
            refine j_l2i hJ dX12_meetSlots_65 ?_
            have g14 := hF.1; have hF := hF.2
            refine j_callVz hJ (c_X12_isApart (l := l) (D := D) (cy := cy) (ad := ad) hin) rfl om_1137 ⟨rfl, rfl, Nat.le_of_ble_eq_true rfl, Nat.le_of_ble_eq_true rfl⟩ [.int (Ii v11)] mv_X12_525 hd_X12_isApartv kR_0 rfl rfl rfl (Nat.le_of_ble_eq_true rfl) dX12_meetSlots_66 ⟨v11, rfl, g14, hF⟩ (fun r15 M16 gr15 qM16 => ?_)
            have hF := qM16 gr15
            refine j_if_ne hJ 78 (jz_ri gr15) dX12_meetSlots_69 (by decide) (fun z17 => ?_) (fun z17 => ?_)
            · have hF := hF.1 z17
              exact j_sub hJ [1, 2, 3, 4] rfl (k_X12_meetSlots_b78 hin  hJ ih x1 x2 x3 _ gx1 gx2 gx3 hF)
            · have hF := hF.2 z17
              exact j_sub hJ [1, 2, 3, 4, 0] rfl (k_X12_meetSlots_b72 hin  hJ ih x1 x2 x3 v11 _ gx1 gx2 gx3 gv11 hF)
      · have hF := hF.2 z8
        refine j_goto hJ 78 dX12_meetSlots_31 (by decide) ?_
        exact j_sub hJ [0, 1, 2, 3] rfl (k_X12_meetSlots_b78 hin  hJ ih x1 x2 x3 _ gx1 gx2 gx3 hF)
  intro x1 x2 x3 M gx1 gx2 gx3 hF
  obtain ⟨n, hF⟩ := hF
  exact H9 n x1 x2 x3 M gx1 gx2 gx3 hF
set_option maxHeartbeats 4000000 in
set_option maxRecDepth 100000 in
theorem c_X12_meetSlots {l : Launch} {D : va_G} {cy : Nat → ClassId} {ad : Nat → Nat} (hin : jIn ad ksR.length) : jCN l D vwCl (tyR cy) cy ad ftR ksR (XtR ad) yX12_meetSlots (.code yX12_meetSlots cX12_meetSlots 6 none :: Om) ({ frames := 3, cells := 0, slots := 0, locals := 69 } : Room) 0 (W_X12_meetSlots ad) := by
  refine jCN_of (y := yX12_meetSlots) (cc := cX12_meetSlots) (nL := 6) (rk := 0) (rm := ({ frames := 3, cells := 0, slots := 0, locals := 69 } : Room)) (own := RX12) (tyR_ok cy) hin (XtR_ok ad) Om_good (by decide) rfl ?_
  intro Q av M hF
  obtain ⟨p1, p2, rfl, gp1, gp2, hF⟩ := hF
  refine ⟨Nat.le_of_ble_eq_true rfl, fun J hJ => ?_⟩
  show J 0 [(0, .ref (ad 0)), (1, .int (Ii p1)), (2, .int (Ii p2))] [] M
  unfold w_X12_meetSlots at hF
  refine j_iconst hJ dX12_meetSlots_0 ?_
  refine j_istore_n (lv' := [(3, .int (Ii 0)), (0, .ref (ad 0)), (1, .int (Ii p1)), (2, .int (Ii p2))]) hJ dX12_meetSlots_1 rfl (by decide) rfl ?_
  exact j_sub hJ [1, 2, 3, 0] rfl (k_X12_meetSlots_b2 hin  hJ  p1 p2 0 _ gp1 (jz_ri gp2) rk_0 hF)
def W_X12_isLinkStatic (ad : Nat → Nat) (Q : Int → MM → Prop) (av : List Value) (M : MM) : Prop := ∃ (p1 : Int), av = [.ref (ad 0), .int (Ii p1)] ∧ ri_ p1 ∧ w_X12_isLinkStatic  Q p1 M
set_option maxHeartbeats 4000000 in
set_option maxRecDepth 100000 in
theorem c_X12_isLinkStatic {l : Launch} {D : va_G} {cy : Nat → ClassId} {ad : Nat → Nat} (hin : jIn ad ksR.length) : jCN l D vwCl (tyR cy) cy ad ftR ksR (XtR ad) yX12_isLinkStatic (.code yX12_isLinkStatic cX12_isLinkStatic 2 (some .boolean) :: Om) ({ frames := 0, cells := 0, slots := 0, locals := 0 } : Room) 3 (W_X12_isLinkStatic ad) := by
  refine jCN_of (y := yX12_isLinkStatic) (cc := cX12_isLinkStatic) (nL := 2) (rk := 3) (rm := ({ frames := 0, cells := 0, slots := 0, locals := 0 } : Room)) (own := RX12) (tyR_ok cy) hin (XtR_ok ad) Om_good (by decide) rfl ?_
  intro Q av M hF
  obtain ⟨p1, rfl, gp1, hF⟩ := hF
  refine ⟨Nat.le_of_ble_eq_true rfl, fun J hJ => ?_⟩
  show J 0 [(0, .ref (ad 0)), (1, .int (Ii p1))] [] M
  unfold w_X12_isLinkStatic at hF
  refine j_iload_n hJ dX12_isLinkStatic_0 rfl 1 rfl ?_
  refine j_bipush hJ dX12_isLinkStatic_1 (by decide) ?_
  refine j_irem hJ gp1 rk_6 (by decide) dX12_isLinkStatic_3 ?_
  have g1 := hF.1; have hF := hF.2
  refine j_aload_n hJ dX12_isLinkStatic_4 rfl 0 rfl ?_
  refine j_gr (e := 9) hJ kR_0 fR_15_10 fl_X12_94 dX12_isLinkStatic_5 rfl ?_
  refine j_iload_n hJ dX12_isLinkStatic_8 rfl 1 rfl ?_
  refine j_bipush hJ dX12_isLinkStatic_9 (by decide) ?_
  refine j_idiv hJ gp1 rk_6 (by decide) dX12_isLinkStatic_11 ?_
  have g2 := hF.1; have hF := hF.2
  refine j_iald hJ g2 kR_9 hF.1 hF.2.1 dX12_isLinkStatic_12 (fun v3 ev3 gv3 => ?_)
  have hF := hF.2.2 v3 ev3 gv3
  refine j_icmp_ge hJ 39 g1 gv3 dX12_isLinkStatic_13 (by decide) (fun z4 => ?_) (fun z4 => ?_)
  · have hF := hF.1 z4
    refine j_iconst hJ dX12_isLinkStatic_39 ?_
    exact j_zret hJ rfl (by decide) dX12_isLinkStatic_40 hF
  · have hF := hF.2 z4
    refine j_aload_n hJ dX12_isLinkStatic_16 rfl 0 rfl ?_
    refine j_gr (e := 17) hJ kR_0 fR_15_18 fl_X12_119 dX12_isLinkStatic_17 rfl ?_
    refine j_iload_n hJ dX12_isLinkStatic_20 rfl 1 rfl ?_
    refine j_zald hJ gp1 kR_17 hF.1 hF.2.1 dX12_isLinkStatic_21 (fun v5 ev5 gv5 => ?_)
    have hF := hF.2.2 v5 ev5 gv5
    refine j_if_eq hJ 39 (jz_ri gv5) dX12_isLinkStatic_22 (by decide) (fun z6 => ?_) (fun z6 => ?_)
    · have hF := hF.1 z6
      refine j_iconst hJ dX12_isLinkStatic_39 ?_
      exact j_zret hJ rfl (by decide) dX12_isLinkStatic_40 hF
    · have hF := hF.2 z6
      refine j_aload_n hJ dX12_isLinkStatic_25 rfl 0 rfl ?_
      refine j_gr (e := 12) hJ kR_0 fR_15_13 fl_X12_103 dX12_isLinkStatic_26 rfl ?_
      refine j_iload_n hJ dX12_isLinkStatic_29 rfl 1 rfl ?_
      refine j_iald hJ gp1 kR_12 hF.1 hF.2.1 dX12_isLinkStatic_30 (fun v7 ev7 gv7 => ?_)
      have hF := hF.2.2 v7 ev7 gv7
      refine j_iconst hJ dX12_isLinkStatic_31 ?_
      refine j_icmp_ne hJ 39 gv7 rk_5 dX12_isLinkStatic_32 (by decide) (fun z8 => ?_) (fun z8 => ?_)
      · have hF := hF.1 z8
        refine j_iconst hJ dX12_isLinkStatic_39 ?_
        exact j_zret hJ rfl (by decide) dX12_isLinkStatic_40 hF
      · have hF := hF.2 z8
        refine j_iconst hJ dX12_isLinkStatic_35 ?_
        refine j_goto hJ 40 dX12_isLinkStatic_36 (by decide) ?_
        exact j_zret hJ rfl (by decide) dX12_isLinkStatic_40 hF
def W_X12_walkRoots (ad : Nat → Nat) (Q : Int → MM → Prop) (av : List Value) (M : MM) : Prop := av = [.ref (ad 0)] ∧ w_X12_walkRoots  Q  M
set_option maxHeartbeats 4000000 in
set_option maxRecDepth 100000 in
theorem k_X12_walkRoots_b70 {l : Launch} {D : va_G} {cy : Nat → ClassId} {ad : Nat → Nat} {Q : Int → MM → Prop} {J : Nat → List (Nat × Value) → List Value → MM → Prop} (hin : jIn ad ksR.length)   (hJ : jOk l D vwCl (tyR cy) cy ad ftR ksR (XtR ad) Om RX12 cX12_walkRoots 2 0 ({ frames := 4, cells := 0, slots := 0, locals := 94 } : Room) Q J)  : ∀ (x1 : Int) (M : MM), ri_ x1 → w_X12_walkRoots_b70  Q  x1 M → J 70 [(0, .ref (ad 0)), (1, .int (Ii x1))] [] M := by
  have H9 : ∀ (n : Nat) (x1 : Int) (M : MM), ri_ x1 → jit (fun _ _ => False) (wb_X12_walkRoots_b70  Q ) n x1 M → J 70 [(0, .ref (ad 0)), (1, .int (Ii x1))] [] M := by
    intro n
    induction n with
    | zero => intro x1 M gx1 hF; exact False.elim hF
    | succ n ih =>
    intro x1 M gx1 hF
    have hF : wb_X12_walkRoots_b70  Q  (jit (fun _ _ => False) (wb_X12_walkRoots_b70  Q ) n) x1 M := hF
    unfold wb_X12_walkRoots_b70 at hF
    refine j_iload_n hJ dX12_walkRoots_70 rfl 1 rfl ?_
    refine j_aload_n hJ dX12_walkRoots_71 rfl 0 rfl ?_
    refine j_gi hJ kR_0 fR_15_47 rfl fl_X12_522 dX12_walkRoots_72 (fun v1 ev1 gv1 => ?_)
    have hF := hF v1 ev1 gv1
    refine j_icmp_ge hJ 95 gx1 gv1 dX12_walkRoots_75 (by decide) (fun z2 => ?_) (fun z2 => ?_)
    · have hF := hF.1 z2
      exact j_vret hJ rfl dX12_walkRoots_95 hF
    · have hF := hF.2 z2
      refine j_aload_n hJ dX12_walkRoots_78 rfl 0 rfl ?_
      refine j_aload_n hJ dX12_walkRoots_79 rfl 0 rfl ?_
      refine j_gr (e := 36) hJ kR_0 fR_15_45 fl_X12_177 dX12_walkRoots_80 rfl ?_
      refine j_iload_n hJ dX12_walkRoots_83 rfl 1 rfl ?_
      refine j_iald hJ gx1 kR_36 hF.1 hF.2.1 dX12_walkRoots_84 (fun v3 ev3 gv3 => ?_)
      have hF := hF.2.2 v3 ev3 gv3
      refine j_iconst hJ dX12_walkRoots_85 ?_
      refine j_callVv hJ (c_X12_meetSlots (l := l) (D := D) (cy := cy) (ad := ad) hin) rfl om_1141 ⟨rfl, rfl, Nat.le_of_ble_eq_true rfl, Nat.le_of_ble_eq_true rfl⟩ [.int (Ii v3), .int (Ii 0)] mv_X12_535 hd_X12_meetSlotsv kR_0 rfl rfl rfl (Nat.le_of_ble_eq_true rfl) dX12_walkRoots_86 ⟨v3, 0, rfl, gv3, (by decide), hF⟩ (fun M5 qM5 => ?_)
      have hF := qM5
      refine j_iinc (lv' := [(1, .int (Ii (x1 + 1))), (0, .ref (ad 0))]) (k := 1) hJ dX12_walkRoots_89 rfl (by decide) rfl ?_
      have g6 := hF.1; have hF := hF.2
      refine j_goto hJ 70 dX12_walkRoots_92 (by decide) ?_
      exact j_sub hJ [1, 0] rfl (ih (x1 + 1) _ g6 hF)
  intro x1 M gx1 hF
  obtain ⟨n, hF⟩ := hF
  exact H9 n x1 M gx1 hF
set_option maxHeartbeats 4000000 in
set_option maxRecDepth 100000 in
theorem k_X12_walkRoots_b62 {l : Launch} {D : va_G} {cy : Nat → ClassId} {ad : Nat → Nat} {Q : Int → MM → Prop} {J : Nat → List (Nat × Value) → List Value → MM → Prop} (hin : jIn ad ksR.length)   (hJ : jOk l D vwCl (tyR cy) cy ad ftR ksR (XtR ad) Om RX12 cX12_walkRoots 2 0 ({ frames := 4, cells := 0, slots := 0, locals := 94 } : Room) Q J) {K33 : Int → MM → Prop} (hK33 : ∀ (x1 : Int) (M : MM), ri_ x1 → K33 x1 M → J 33 [(0, .ref (ad 0)), (1, .int (Ii x1))] [] M) : ∀ (x1 : Int) (M : MM), ri_ x1 → w_X12_walkRoots_b62  Q K33 x1 M → J 62 [(0, .ref (ad 0)), (1, .int (Ii x1))] [] M := by
  intro x1 M gx1 hF
  unfold w_X12_walkRoots_b62 at hF
  refine j_iinc (lv' := [(1, .int (Ii (x1 + 1))), (0, .ref (ad 0))]) (k := 1) hJ dX12_walkRoots_62 rfl (by decide) rfl ?_
  have g1 := hF.1; have hF := hF.2
  refine j_goto hJ 33 dX12_walkRoots_65 (by decide) ?_
  exact j_sub hJ [1, 0] rfl (hK33 (x1 + 1) _ g1 hF)
set_option maxHeartbeats 4000000 in
set_option maxRecDepth 100000 in
theorem k_X12_walkRoots_b33 {l : Launch} {D : va_G} {cy : Nat → ClassId} {ad : Nat → Nat} {Q : Int → MM → Prop} {J : Nat → List (Nat × Value) → List Value → MM → Prop} (hin : jIn ad ksR.length)   (hJ : jOk l D vwCl (tyR cy) cy ad ftR ksR (XtR ad) Om RX12 cX12_walkRoots 2 0 ({ frames := 4, cells := 0, slots := 0, locals := 94 } : Room) Q J)  : ∀ (x1 : Int) (M : MM), ri_ x1 → w_X12_walkRoots_b33  Q  x1 M → J 33 [(0, .ref (ad 0)), (1, .int (Ii x1))] [] M := by
  have H9 : ∀ (n : Nat) (x1 : Int) (M : MM), ri_ x1 → jit (fun _ _ => False) (wb_X12_walkRoots_b33  Q ) n x1 M → J 33 [(0, .ref (ad 0)), (1, .int (Ii x1))] [] M := by
    intro n
    induction n with
    | zero => intro x1 M gx1 hF; exact False.elim hF
    | succ n ih =>
    intro x1 M gx1 hF
    have hF : wb_X12_walkRoots_b33  Q  (jit (fun _ _ => False) (wb_X12_walkRoots_b33  Q ) n) x1 M := hF
    unfold wb_X12_walkRoots_b33 at hF
    refine j_iload_n hJ dX12_walkRoots_33 rfl 1 rfl ?_
    refine j_bipush hJ dX12_walkRoots_34 (by decide) ?_
    refine j_aload_n hJ dX12_walkRoots_36 rfl 0 rfl ?_
    refine j_gi hJ kR_0 fR_15_20 rfl fl_X12_413 dX12_walkRoots_37 (fun v1 ev1 gv1 => ?_)
    have hF := hF v1 ev1 gv1
    refine j_imul hJ dX12_walkRoots_40 ?_
    have g2 := hF.1; have hF := hF.2
    refine j_icmp_ge hJ 68 gx1 g2 dX12_walkRoots_41 (by decide) (fun z3 => ?_) (fun z3 => ?_)
    · have hF := hF.1 z3
      refine j_iconst hJ dX12_walkRoots_68 ?_
      refine j_istore_n (lv' := [(1, .int (Ii 0)), (0, .ref (ad 0))]) hJ dX12_walkRoots_69 rfl (by decide) rfl ?_
      exact j_sub hJ [1, 0] rfl (k_X12_walkRoots_b70 hin  hJ  0 _ rk_0 hF)
    · have hF := hF.2 z3
      refine j_aload_n hJ dX12_walkRoots_44 rfl 0 rfl ?_
      refine j_iload_n hJ dX12_walkRoots_45 rfl 1 rfl ?_
      refine j_callVz hJ (c_X12_isLinkStatic (l := l) (D := D) (cy := cy) (ad := ad) hin) rfl om_1145 ⟨rfl, rfl, Nat.le_of_ble_eq_true rfl, Nat.le_of_ble_eq_true rfl⟩ [.int (Ii x1)] mv_X12_519 hd_X12_isLinkStaticv kR_0 rfl rfl rfl (Nat.le_of_ble_eq_true rfl) dX12_walkRoots_46 ⟨x1, rfl, gx1, hF⟩ (fun r4 M5 gr4 qM5 => ?_)
      have hF := qM5 gr4
      refine j_if_eq hJ 62 (jz_ri gr4) dX12_walkRoots_49 (by decide) (fun z6 => ?_) (fun z6 => ?_)
      · have hF := hF.1 z6
        exact j_sub hJ [0, 1] rfl (k_X12_walkRoots_b62 hin  hJ ih x1 _ gx1 hF)
      · have hF := hF.2 z6
        refine j_aload_n hJ dX12_walkRoots_52 rfl 0 rfl ?_
        refine j_aload_n hJ dX12_walkRoots_53 rfl 0 rfl ?_
        refine j_gr (e := 6) hJ kR_0 fR_15_7 fl_X12_84 dX12_walkRoots_54 rfl ?_
        refine j_iload_n hJ dX12_walkRoots_57 rfl 1 rfl ?_
        refine j_lald hJ gx1 kR_6 hF.1 hF.2.1 dX12_walkRoots_58 (fun v7 ev7 gv7 => ?_)
        have hF := hF.2.2 v7 ev7 gv7
        refine j_callVv hJ (c_X12_meet (l := l) (D := D) (cy := cy) (ad := ad) hin) rfl om_1133 ⟨rfl, rfl, Nat.le_of_ble_eq_true rfl, Nat.le_of_ble_eq_true rfl⟩ [.long (Ll v7)] mv_X12_528 hd_X12_meetv kR_0 rfl rfl rfl (Nat.le_of_ble_eq_true rfl) dX12_walkRoots_59 ⟨v7, rfl, gv7, hF⟩ (fun M9 qM9 => ?_)
        have hF := qM9
        exact j_sub hJ [0, 1] rfl (k_X12_walkRoots_b62 hin  hJ ih x1 _ gx1 hF)
  intro x1 M gx1 hF
  obtain ⟨n, hF⟩ := hF
  exact H9 n x1 M gx1 hF
set_option maxHeartbeats 4000000 in
set_option maxRecDepth 100000 in
theorem k_X12_walkRoots_b6 {l : Launch} {D : va_G} {cy : Nat → ClassId} {ad : Nat → Nat} {Q : Int → MM → Prop} {J : Nat → List (Nat × Value) → List Value → MM → Prop} (hin : jIn ad ksR.length)   (hJ : jOk l D vwCl (tyR cy) cy ad ftR ksR (XtR ad) Om RX12 cX12_walkRoots 2 0 ({ frames := 4, cells := 0, slots := 0, locals := 94 } : Room) Q J)  : ∀ (x1 : Int) (M : MM), ri_ x1 → w_X12_walkRoots_b6  Q  x1 M → J 6 [(0, .ref (ad 0)), (1, .int (Ii x1))] [] M := by
  have H9 : ∀ (n : Nat) (x1 : Int) (M : MM), ri_ x1 → jit (fun _ _ => False) (wb_X12_walkRoots_b6  Q ) n x1 M → J 6 [(0, .ref (ad 0)), (1, .int (Ii x1))] [] M := by
    intro n
    induction n with
    | zero => intro x1 M gx1 hF; exact False.elim hF
    | succ n ih =>
    intro x1 M gx1 hF
    have hF : wb_X12_walkRoots_b6  Q  (jit (fun _ _ => False) (wb_X12_walkRoots_b6  Q ) n) x1 M := hF
    unfold wb_X12_walkRoots_b6 at hF
    refine j_iload_n hJ dX12_walkRoots_6 rfl 1 rfl ?_
    refine j_aload_n hJ dX12_walkRoots_7 rfl 0 rfl ?_
    refine j_gi hJ kR_0 fR_15_31 rfl fl_X12_470 dX12_walkRoots_8 (fun v1 ev1 gv1 => ?_)
    have hF := hF v1 ev1 gv1
    refine j_icmp_ge hJ 31 gx1 gv1 dX12_walkRoots_11 (by decide) (fun z2 => ?_) (fun z2 => ?_)
    · have hF := hF.1 z2
      refine j_iconst hJ dX12_walkRoots_31 ?_
      refine j_istore_n (lv' := [(1, .int (Ii 0)), (0, .ref (ad 0))]) hJ dX12_walkRoots_32 rfl (by decide) rfl ?_
      exact j_sub hJ [1, 0] rfl (k_X12_walkRoots_b33 hin  hJ  0 _ rk_0 hF)
    · have hF := hF.2 z2
      refine j_aload_n hJ dX12_walkRoots_14 rfl 0 rfl ?_
      refine j_aload_n hJ dX12_walkRoots_15 rfl 0 rfl ?_
      refine j_gr (e := 24) hJ kR_0 fR_15_30 fl_X12_141 dX12_walkRoots_16 rfl ?_
      refine j_iload_n hJ dX12_walkRoots_19 rfl 1 rfl ?_
      refine j_iald hJ gx1 kR_24 hF.1 hF.2.1 dX12_walkRoots_20 (fun v3 ev3 gv3 => ?_)
      have hF := hF.2.2 v3 ev3 gv3
      refine j_i2l hJ gv3 dX12_walkRoots_21 ?_
      refine j_callVv hJ (c_X12_meet (l := l) (D := D) (cy := cy) (ad := ad) hin) rfl om_1133 ⟨rfl, rfl, Nat.le_of_ble_eq_true rfl, Nat.le_of_ble_eq_true rfl⟩ [.long (Ll v3)] mv_X12_528 hd_X12_meetv kR_0 rfl rfl rfl (Nat.le_of_ble_eq_true rfl) dX12_walkRoots_22 ⟨v3, rfl, (rl_ri gv3), hF⟩ (fun M5 qM5 => ?_)
      have hF := qM5
      refine j_iinc (lv' := [(1, .int (Ii (x1 + 1))), (0, .ref (ad 0))]) (k := 1) hJ dX12_walkRoots_25 rfl (by decide) rfl ?_
      have g6 := hF.1; have hF := hF.2
      refine j_goto hJ 6 dX12_walkRoots_28 (by decide) ?_
      exact j_sub hJ [1, 0] rfl (ih (x1 + 1) _ g6 hF)
  intro x1 M gx1 hF
  obtain ⟨n, hF⟩ := hF
  exact H9 n x1 M gx1 hF
set_option maxHeartbeats 4000000 in
set_option maxRecDepth 100000 in
theorem c_X12_walkRoots {l : Launch} {D : va_G} {cy : Nat → ClassId} {ad : Nat → Nat} (hin : jIn ad ksR.length) : jCN l D vwCl (tyR cy) cy ad ftR ksR (XtR ad) yX12_walkRoots (.code yX12_walkRoots cX12_walkRoots 2 none :: Om) ({ frames := 4, cells := 0, slots := 0, locals := 94 } : Room) 0 (W_X12_walkRoots ad) := by
  refine jCN_of (y := yX12_walkRoots) (cc := cX12_walkRoots) (nL := 2) (rk := 0) (rm := ({ frames := 4, cells := 0, slots := 0, locals := 94 } : Room)) (own := RX12) (tyR_ok cy) hin (XtR_ok ad) Om_good (by decide) rfl ?_
  intro Q av M hF
  obtain ⟨rfl, hF⟩ := hF
  refine ⟨Nat.le_of_ble_eq_true rfl, fun J hJ => ?_⟩
  show J 0 [(0, .ref (ad 0))] [] M
  unfold w_X12_walkRoots at hF
  refine j_aload_n hJ dX12_walkRoots_0 rfl 0 rfl ?_
  refine j_callVv hJ (c_X12_beginWalk (l := l) (D := D) (cy := cy) (ad := ad) hin) rfl om_1125 ⟨rfl, rfl, Nat.le_of_ble_eq_true rfl, Nat.le_of_ble_eq_true rfl⟩ [] mv_X12_532 hd_X12_beginWalkv kR_0 rfl rfl rfl (Nat.le_of_ble_eq_true rfl) dX12_walkRoots_1 ⟨rfl, hF⟩ (fun M2 qM2 => ?_)
  have hF := qM2
  refine j_iconst hJ dX12_walkRoots_4 ?_
  refine j_istore_n (lv' := [(1, .int (Ii 0)), (0, .ref (ad 0))]) hJ dX12_walkRoots_5 rfl (by decide) rfl ?_
  exact j_sub hJ [1, 0] rfl (k_X12_walkRoots_b6 hin  hJ  0 _ rk_0 hF)
def W_X12_at (ad : Nat → Nat) (Q : Int → MM → Prop) (av : List Value) (M : MM) : Prop := ∃ (p1 : Int) (p2 : Int), av = [.ref (ad 0), .int (Ii p1), .int (Ii p2)] ∧ ri_ p1 ∧ ri_ p2 ∧ w_X12_at  Q p1 p2 M
set_option maxHeartbeats 4000000 in
set_option maxRecDepth 100000 in
theorem c_X12_at {l : Launch} {D : va_G} {cy : Nat → ClassId} {ad : Nat → Nat} (hin : jIn ad ksR.length) : jCN l D vwCl (tyR cy) cy ad ftR ksR (XtR ad) yX12_at (.code yX12_at cX12_at 3 (some .int) :: Om) ({ frames := 0, cells := 0, slots := 0, locals := 0 } : Room) 1 (W_X12_at ad) := by
  refine jCN_of (y := yX12_at) (cc := cX12_at) (nL := 3) (rk := 1) (rm := ({ frames := 0, cells := 0, slots := 0, locals := 0 } : Room)) (own := RX12) (tyR_ok cy) hin (XtR_ok ad) Om_good (by decide) rfl ?_
  intro Q av M hF
  obtain ⟨p1, p2, rfl, gp1, gp2, hF⟩ := hF
  refine ⟨Nat.le_of_ble_eq_true rfl, fun J hJ => ?_⟩
  show J 0 [(0, .ref (ad 0)), (1, .int (Ii p1)), (2, .int (Ii p2))] [] M
  unfold w_X12_at at hF
  refine j_sipush hJ dX12_at_0 (by decide) ?_
  refine j_iload_n hJ dX12_at_3 rfl 1 rfl ?_
  refine j_imul hJ dX12_at_4 ?_
  have g1 := hF.1; have hF := hF.2
  refine j_iload_n hJ dX12_at_5 rfl 2 rfl ?_
  refine j_iadd hJ dX12_at_6 ?_
  have g2 := hF.1; have hF := hF.2
  exact j_iret hJ rfl g2 dX12_at_7 hF
def W_X12_addRoot (ad : Nat → Nat) (Q : Int → MM → Prop) (av : List Value) (M : MM) : Prop := ∃ (p1 : Int) (p2 : Int) (p3 : Int), av = [.ref (ad 0), .int (Ii p1), .int (Ii p2), .int (Ii p3)] ∧ ri_ p1 ∧ ri_ p2 ∧ ri_ p3 ∧ w_X12_addRoot  Q p1 p2 p3 M
set_option maxHeartbeats 4000000 in
set_option maxRecDepth 100000 in
theorem c_X12_addRoot {l : Launch} {D : va_G} {cy : Nat → ClassId} {ad : Nat → Nat} (hin : jIn ad ksR.length) : jCN l D vwCl (tyR cy) cy ad ftR ksR (XtR ad) yX12_addRoot (.code yX12_addRoot cX12_addRoot 4 none :: Om) ({ frames := 0, cells := 0, slots := 0, locals := 0 } : Room) 0 (W_X12_addRoot ad) := by
  refine jCN_of (y := yX12_addRoot) (cc := cX12_addRoot) (nL := 4) (rk := 0) (rm := ({ frames := 0, cells := 0, slots := 0, locals := 0 } : Room)) (own := RX12) (tyR_ok cy) hin (XtR_ok ad) Om_good (by decide) rfl ?_
  intro Q av M hF
  obtain ⟨p1, p2, p3, rfl, gp1, gp2, gp3, hF⟩ := hF
  refine ⟨Nat.le_of_ble_eq_true rfl, fun J hJ => ?_⟩
  show J 0 [(0, .ref (ad 0)), (1, .int (Ii p1)), (2, .int (Ii p2)), (3, .int (Ii p3))] [] M
  unfold w_X12_addRoot at hF
  refine j_aload_n hJ dX12_addRoot_0 rfl 0 rfl ?_
  refine j_gr (e := 56) hJ kR_0 fR_15_66 fl_X12_237 dX12_addRoot_1 rfl ?_
  refine j_sipush hJ dX12_addRoot_4 (by decide) ?_
  refine j_iload_n hJ dX12_addRoot_7 rfl 1 rfl ?_
  refine j_imul hJ dX12_addRoot_8 ?_
  have g1 := hF.1; have hF := hF.2
  refine j_aload_n hJ dX12_addRoot_9 rfl 0 rfl ?_
  refine j_gr (e := 55) hJ kR_0 fR_15_65 fl_X12_234 dX12_addRoot_10 rfl ?_
  refine j_iload_n hJ dX12_addRoot_13 rfl 1 rfl ?_
  refine j_iald hJ gp1 kR_55 hF.1 hF.2.1 dX12_addRoot_14 (fun v2 ev2 gv2 => ?_)
  have hF := hF.2.2 v2 ev2 gv2
  refine j_iadd hJ dX12_addRoot_15 ?_
  have g3 := hF.1; have hF := hF.2
  refine j_iload_n hJ dX12_addRoot_16 rfl 2 rfl ?_
  refine j_iast hJ g3 gp2 kR_56 hF.1 hF.2.1 dX12_addRoot_17 (fun M4 eM4 => ?_)
  have hF := hF.2.2 M4 eM4
  refine j_aload_n hJ dX12_addRoot_18 rfl 0 rfl ?_
  refine j_gr (e := 57) hJ kR_0 fR_15_67 fl_X12_240 dX12_addRoot_19 rfl ?_
  refine j_sipush hJ dX12_addRoot_22 (by decide) ?_
  refine j_iload_n hJ dX12_addRoot_25 rfl 1 rfl ?_
  refine j_imul hJ dX12_addRoot_26 ?_
  have g5 := hF.1; have hF := hF.2
  refine j_aload_n hJ dX12_addRoot_27 rfl 0 rfl ?_
  refine j_gr (e := 55) hJ kR_0 fR_15_65 fl_X12_234 dX12_addRoot_28 rfl ?_
  refine j_iload_n hJ dX12_addRoot_31 rfl 1 rfl ?_
  refine j_iald hJ gp1 kR_55 hF.1 hF.2.1 dX12_addRoot_32 (fun v6 ev6 gv6 => ?_)
  have hF := hF.2.2 v6 ev6 gv6
  refine j_iadd hJ dX12_addRoot_33 ?_
  have g7 := hF.1; have hF := hF.2
  refine j_iload_n hJ dX12_addRoot_34 rfl 3 rfl ?_
  refine j_iast hJ g7 gp3 kR_57 hF.1 hF.2.1 dX12_addRoot_35 (fun M8 eM8 => ?_)
  have hF := hF.2.2 M8 eM8
  refine j_aload_n hJ dX12_addRoot_36 rfl 0 rfl ?_
  refine j_gr (e := 55) hJ kR_0 fR_15_65 fl_X12_234 dX12_addRoot_37 rfl ?_
  refine j_iload_n hJ dX12_addRoot_40 rfl 1 rfl ?_
  refine j_dup2_11 hJ dX12_addRoot_41 rfl rfl ?_
  refine j_iald hJ gp1 kR_55 hF.1 hF.2.1 dX12_addRoot_42 (fun v9 ev9 gv9 => ?_)
  have hF := hF.2.2 v9 ev9 gv9
  refine j_iconst hJ dX12_addRoot_43 ?_
  refine j_iadd hJ dX12_addRoot_44 ?_
  have g10 := hF.1; have hF := hF.2
  refine j_iast hJ gp1 g10 kR_55 hF.1 hF.2.1 dX12_addRoot_45 (fun M11 eM11 => ?_)
  have hF := hF.2.2 M11 eM11
  exact j_vret hJ rfl dX12_addRoot_46 hF
def W_X12_picture0 (ad : Nat → Nat) (Q : Int → MM → Prop) (av : List Value) (M : MM) : Prop := ∃ (p1 : Int), av = [.ref (ad 0), .int (Ii p1)] ∧ ri_ p1 ∧ w_X12_picture0  Q p1 M
set_option maxHeartbeats 4000000 in
set_option maxRecDepth 100000 in
theorem k_X12_picture0_b306 {l : Launch} {D : va_G} {cy : Nat → ClassId} {ad : Nat → Nat} {Q : Int → MM → Prop} {J : Nat → List (Nat × Value) → List Value → MM → Prop} (hin : jIn ad ksR.length)   (hJ : jOk l D vwCl (tyR cy) cy ad ftR ksR (XtR ad) Om RX12 cX12_picture0 10 0 ({ frames := 5, cells := 0, slots := 0, locals := 115 } : Room) Q J) {K128 : Int → Int → Int → MM → Prop} (hK128 : ∀ (x1 x3 x4 : Int) (M : MM), ri_ x1 → ri_ x3 → ri_ x4 → K128 x1 x3 x4 M → J 128 [(0, .ref (ad 0)), (1, .int (Ii x1)), (3, .int (Ii x3)), (4, .int (Ii x4))] [] M) {K234 : Int → Int → Int → Int → Int → Int → MM → Prop} (hK234 : ∀ (x1 x3 x4 x5 x6 x7 : Int) (M : MM), ri_ x1 → ri_ x3 → ri_ x4 → ri_ x5 → ri_ x6 → ri_ x7 → K234 x1 x3 x4 x5 x6 x7 M → J 234 [(0, .ref (ad 0)), (1, .int (Ii x1)), (3, .int (Ii x3)), (4, .int (Ii x4)), (5, .int (Ii x5)), (6, .int (Ii x6)), (7, .int (Ii x7))] [] M) : ∀ (x1 x3 x4 x5 x6 x7 s0 s1 : Int) (M : MM), ri_ x1 → ri_ x3 → ri_ x4 → ri_ x5 → ri_ x6 → ri_ x7 → rl_ s0 → ri_ s1 → w_X12_picture0_b306  Q K128 K234 x1 x3 x4 x5 x6 x7 s0 s1 M → J 306 [(0, .ref (ad 0)), (1, .int (Ii x1)), (3, .int (Ii x3)), (4, .int (Ii x4)), (5, .int (Ii x5)), (6, .int (Ii x6)), (7, .int (Ii x7))] [.long (Ll s0), .int (Ii s1), .ref (ad 58)] M := by
  intro x1 x3 x4 x5 x6 x7 s0 s1 M gx1 gx3 gx4 gx5 gx6 gx7 gs0 gs1 hF
  unfold w_X12_picture0_b306 at hF
  refine j_last hJ gs1 gs0 kR_58 hF.1 hF.2.1 dX12_picture0_306 (fun M1 eM1 => ?_)
  have hF := hF.2.2 M1 eM1
  refine j_iinc (lv' := [(7, .int (Ii (x7 + 1))), (0, .ref (ad 0)), (1, .int (Ii x1)), (3, .int (Ii x3)), (4, .int (Ii x4)), (5, .int (Ii x5)), (6, .int (Ii x6))]) (k := 6) hJ dX12_picture0_307 rfl (by decide) rfl ?_
  have g2 := hF.1; have hF := hF.2
  refine j_goto hJ 234 dX12_picture0_310 (by decide) ?_
  exact j_sub hJ [1, 2, 3, 4, 5, 6, 0] rfl (hK234 x1 x3 x4 x5 x6 (x7 + 1) _ gx1 gx3 gx4 gx5 gx6 g2 hF)
set_option maxHeartbeats 4000000 in
set_option maxRecDepth 100000 in
theorem k_X12_picture0_b304 {l : Launch} {D : va_G} {cy : Nat → ClassId} {ad : Nat → Nat} {Q : Int → MM → Prop} {J : Nat → List (Nat × Value) → List Value → MM → Prop} (hin : jIn ad ksR.length)   (hJ : jOk l D vwCl (tyR cy) cy ad ftR ksR (XtR ad) Om RX12 cX12_picture0 10 0 ({ frames := 5, cells := 0, slots := 0, locals := 115 } : Room) Q J) {K128 : Int → Int → Int → MM → Prop} (hK128 : ∀ (x1 x3 x4 : Int) (M : MM), ri_ x1 → ri_ x3 → ri_ x4 → K128 x1 x3 x4 M → J 128 [(0, .ref (ad 0)), (1, .int (Ii x1)), (3, .int (Ii x3)), (4, .int (Ii x4))] [] M) {K234 : Int → Int → Int → Int → Int → Int → MM → Prop} (hK234 : ∀ (x1 x3 x4 x5 x6 x7 : Int) (M : MM), ri_ x1 → ri_ x3 → ri_ x4 → ri_ x5 → ri_ x6 → ri_ x7 → K234 x1 x3 x4 x5 x6 x7 M → J 234 [(0, .ref (ad 0)), (1, .int (Ii x1)), (3, .int (Ii x3)), (4, .int (Ii x4)), (5, .int (Ii x5)), (6, .int (Ii x6)), (7, .int (Ii x7))] [] M) : ∀ (x1 x3 x4 x5 x6 x7 x8 s0 : Int) (M : MM), ri_ x1 → ri_ x3 → ri_ x4 → ri_ x5 → ri_ x6 → ri_ x7 → rl_ x8 → ri_ s0 → w_X12_picture0_b304  Q K128 K234 x1 x3 x4 x5 x6 x7 x8 s0 M → J 304 [(0, .ref (ad 0)), (1, .int (Ii x1)), (3, .int (Ii x3)), (4, .int (Ii x4)), (5, .int (Ii x5)), (6, .int (Ii x6)), (7, .int (Ii x7)), (8, .long (Ll x8))] [.int (Ii s0), .ref (ad 58)] M := by
  intro x1 x3 x4 x5 x6 x7 x8 s0 M gx1 gx3 gx4 gx5 gx6 gx7 gx8 gs0 hF
  unfold w_X12_picture0_b304 at hF
  refine j_lload hJ dX12_picture0_304 7 rfl ?_
  exact j_sub hJ [0, 1, 2, 3, 4, 5, 6] rfl (k_X12_picture0_b306 hin  hJ hK128 hK234 x1 x3 x4 x5 x6 x7 x8 s0 _ gx1 gx3 gx4 gx5 gx6 gx7 gx8 gs0 hF)
set_option maxHeartbeats 4000000 in
set_option maxRecDepth 100000 in
theorem k_X12_picture0_b234 {l : Launch} {D : va_G} {cy : Nat → ClassId} {ad : Nat → Nat} {Q : Int → MM → Prop} {J : Nat → List (Nat × Value) → List Value → MM → Prop} (hin : jIn ad ksR.length)   (hJ : jOk l D vwCl (tyR cy) cy ad ftR ksR (XtR ad) Om RX12 cX12_picture0 10 0 ({ frames := 5, cells := 0, slots := 0, locals := 115 } : Room) Q J) {K128 : Int → Int → Int → MM → Prop} (hK128 : ∀ (x1 x3 x4 : Int) (M : MM), ri_ x1 → ri_ x3 → ri_ x4 → K128 x1 x3 x4 M → J 128 [(0, .ref (ad 0)), (1, .int (Ii x1)), (3, .int (Ii x3)), (4, .int (Ii x4))] [] M) : ∀ (x1 x3 x4 x5 x6 x7 : Int) (M : MM), ri_ x1 → ri_ x3 → ri_ x4 → ri_ x5 → ri_ x6 → ri_ x7 → w_X12_picture0_b234  Q K128 x1 x3 x4 x5 x6 x7 M → J 234 [(0, .ref (ad 0)), (1, .int (Ii x1)), (3, .int (Ii x3)), (4, .int (Ii x4)), (5, .int (Ii x5)), (6, .int (Ii x6)), (7, .int (Ii x7))] [] M := by
  have H9 : ∀ (n : Nat) (x1 x3 x4 x5 x6 x7 : Int) (M : MM), ri_ x1 → ri_ x3 → ri_ x4 → ri_ x5 → ri_ x6 → ri_ x7 → jit (fun _ _ _ _ _ _ _ => False) (wb_X12_picture0_b234  Q K128) n x1 x3 x4 x5 x6 x7 M → J 234 [(0, .ref (ad 0)), (1, .int (Ii x1)), (3, .int (Ii x3)), (4, .int (Ii x4)), (5, .int (Ii x5)), (6, .int (Ii x6)), (7, .int (Ii x7))] [] M := by
    intro n
    induction n with
    | zero => intro x1 x3 x4 x5 x6 x7 M gx1 gx3 gx4 gx5 gx6 gx7 hF; exact False.elim hF
    | succ n ih =>
    intro x1 x3 x4 x5 x6 x7 M gx1 gx3 gx4 gx5 gx6 gx7 hF
    have hF : wb_X12_picture0_b234  Q K128 (jit (fun _ _ _ _ _ _ _ => False) (wb_X12_picture0_b234  Q K128) n) x1 x3 x4 x5 x6 x7 M := hF
    unfold wb_X12_picture0_b234 at hF
    refine j_iload hJ dX12_picture0_234 6 rfl ?_
    refine j_iload hJ dX12_picture0_236 5 rfl ?_
    refine j_icmp_ge hJ 313 gx7 gx6 dX12_picture0_238 (by decide) (fun z1 => ?_) (fun z1 => ?_)
    · have hF := hF.1 z1
      refine j_iload_n hJ dX12_picture0_313 rfl 2 rfl ?_
      refine j_iload hJ dX12_picture0_314 5 rfl ?_
      refine j_iadd hJ dX12_picture0_316 ?_
      have g2 := hF.1; have hF := hF.2
      refine j_istore_n (lv' := [(3, .int (Ii (x3 + x6))), (0, .ref (ad 0)), (1, .int (Ii x1)), (4, .int (Ii x4)), (5, .int (Ii x5)), (6, .int (Ii x6)), (7, .int (Ii x7))]) hJ dX12_picture0_317 rfl (by decide) rfl ?_
      refine j_iinc (lv' := [(4, .int (Ii (x4 + 1))), (3, .int (Ii (x3 + x6))), (0, .ref (ad 0)), (1, .int (Ii x1)), (5, .int (Ii x5)), (6, .int (Ii x6)), (7, .int (Ii x7))]) (k := 3) hJ dX12_picture0_318 rfl (by decide) rfl ?_
      have g3 := hF.1; have hF := hF.2
      refine j_goto hJ 128 dX12_picture0_321 (by decide) ?_
      exact j_sub hJ [2, 3, 1, 0] rfl (hK128 x1 (x3 + x6) (x4 + 1) _ gx1 g2 g3 hF)
    · have hF := hF.2 z1
      refine j_aload_n hJ dX12_picture0_241 rfl 0 rfl ?_
      refine j_gr (e := 23) hJ kR_0 fR_15_25 fl_X12_138 dX12_picture0_242 rfl ?_
      refine j_aload_n hJ dX12_picture0_245 rfl 0 rfl ?_
      refine j_gr (e := 21) hJ kR_0 fR_15_23 fl_X12_131 dX12_picture0_246 rfl ?_
      refine j_iload hJ dX12_picture0_249 4 rfl ?_
      refine j_iald hJ gx5 kR_21 hF.1 hF.2.1 dX12_picture0_251 (fun v4 ev4 gv4 => ?_)
      have hF := hF.2.2 v4 ev4 gv4
      refine j_iload hJ dX12_picture0_252 6 rfl ?_
      refine j_iadd hJ dX12_picture0_254 ?_
      have g5 := hF.1; have hF := hF.2
      refine j_lald hJ g5 kR_23 hF.1 hF.2.1 dX12_picture0_255 (fun v6 ev6 gv6 => ?_)
      have hF := hF.2.2 v6 ev6 gv6
      refine j_lstore (lv' := [(8, .long (Ll v6)), (0, .ref (ad 0)), (1, .int (Ii x1)), (3, .int (Ii x3)), (4, .int (Ii x4)), (5, .int (Ii x5)), (6, .int (Ii x6)), (7, .int (Ii x7))]) hJ dX12_picture0_256 (by decide) rfl ?_
      refine j_aload_n hJ dX12_picture0_258 rfl 1 rfl ?_
      refine j_gr (e := 58) hJ kR_0 fR_15_68 fl_X12_243 dX12_picture0_259 rfl ?_
      refine j_sipush hJ dX12_picture0_262 (by decide) ?_
      refine j_iload_n hJ dX12_picture0_265 rfl 2 rfl ?_
      refine j_imul hJ dX12_picture0_266 ?_
      have g7 := hF.1; have hF := hF.2
      refine j_iload_n hJ dX12_picture0_267 rfl 3 rfl ?_
      refine j_iadd hJ dX12_picture0_268 ?_
      have g8 := hF.1; have hF := hF.2
      refine j_iload hJ dX12_picture0_269 7 rfl ?_
      refine j_iadd hJ dX12_picture0_271 ?_
      have g9 := hF.1; have hF := hF.2
      refine j_aload_n hJ dX12_picture0_272 rfl 1 rfl ?_
      refine j_iload hJ dX12_picture0_273 5 rfl ?_
      refine j_iload hJ dX12_picture0_275 7 rfl ?_
      refine j_callVz hJ (c_X12_isLinkSlot (l := l) (D := D) (cy := cy) (ad := ad) hin) rfl om_1129 ⟨rfl, rfl, Nat.le_of_ble_eq_true rfl, Nat.le_of_ble_eq_true rfl⟩ [.int (Ii x5), .int (Ii x7)] mv_X12_512 hd_X12_isLinkSlotv kR_0 rfl rfl rfl (Nat.le_of_ble_eq_true rfl) dX12_picture0_277 ⟨x5, x7, rfl, gx5, gx7, hF⟩ (fun r10 M11 gr10 qM11 => ?_)
      have hF := qM11 gr10
      refine j_if_eq hJ 304 (jz_ri gr10) dX12_picture0_280 (by decide) (fun z12 => ?_) (fun z12 => ?_)
      · have hF := hF.1 z12
        exact j_sub hJ [1, 2, 3, 4, 5, 6, 7, 0] rfl (k_X12_picture0_b304 hin  hJ hK128 ih x1 x3 x4 x5 x6 x7 v6 (((4000 * x1) + x3) + x7) _ gx1 gx3 gx4 gx5 gx6 gx7 gv6 g9 hF)
      · have hF := hF.2 z12
        refine j_lload hJ dX12_picture0_283 0 rfl ?_
        refine j_ldc2 hJ (-1) om_1068 (by decide) dX12_picture0_285 ?_
        refine j_lcmp_eq hJ 304 gv6 lk_m1 dX12_picture0_288 dX12_picture0_289 (by decide) (fun z13 => ?_) (fun z13 => ?_)
        · have hF := hF.1 z13
          exact j_sub hJ [1, 2, 3, 4, 5, 6, 7, 0] rfl (k_X12_picture0_b304 hin  hJ hK128 ih x1 x3 x4 x5 x6 x7 v6 (((4000 * x1) + x3) + x7) _ gx1 gx3 gx4 gx5 gx6 gx7 gv6 g9 hF)
        · have hF := hF.2 z13
          refine j_aload_n hJ dX12_picture0_292 rfl 1 rfl ?_
          refine j_gr (e := 37) hJ kR_0 fR_15_46 fl_X12_180 dX12_picture0_293 rfl ?_
          refine j_lload hJ dX12_picture0_296 0 rfl ?_
          refine j_l2i hJ dX12_picture0_298 ?_
          have g14 := hF.1; have hF := hF.2
          refine j_iald hJ g14 kR_37 hF.1 hF.2.1 dX12_picture0_299 (fun v15 ev15 gv15 => ?_)
          have hF := hF.2.2 v15 ev15 gv15
          refine j_i2l hJ gv15 dX12_picture0_300 ?_
          refine j_goto hJ 306 dX12_picture0_301 (by decide) ?_
          exact j_sub hJ [1, 2, 3, 4, 5, 6, 7] rfl (k_X12_picture0_b306 hin  hJ hK128 ih x1 x3 x4 x5 x6 x7 v15 (((4000 * x1) + x3) + x7) _ gx1 gx3 gx4 gx5 gx6 gx7 (rl_ri gv15) g9 hF)
  intro x1 x3 x4 x5 x6 x7 M gx1 gx3 gx4 gx5 gx6 gx7 hF
  obtain ⟨n, hF⟩ := hF
  exact H9 n x1 x3 x4 x5 x6 x7 M gx1 gx3 gx4 gx5 gx6 gx7 hF
set_option maxHeartbeats 4000000 in
set_option maxRecDepth 100000 in
theorem k_X12_picture0_b128 {l : Launch} {D : va_G} {cy : Nat → ClassId} {ad : Nat → Nat} {Q : Int → MM → Prop} {J : Nat → List (Nat × Value) → List Value → MM → Prop} (hin : jIn ad ksR.length)   (hJ : jOk l D vwCl (tyR cy) cy ad ftR ksR (XtR ad) Om RX12 cX12_picture0 10 0 ({ frames := 5, cells := 0, slots := 0, locals := 115 } : Room) Q J)  : ∀ (x1 x3 x4 : Int) (M : MM), ri_ x1 → ri_ x3 → ri_ x4 → w_X12_picture0_b128  Q  x1 x3 x4 M → J 128 [(0, .ref (ad 0)), (1, .int (Ii x1)), (3, .int (Ii x3)), (4, .int (Ii x4))] [] M := by
  have H9 : ∀ (n : Nat) (x1 x3 x4 : Int) (M : MM), ri_ x1 → ri_ x3 → ri_ x4 → jit (fun _ _ _ _ => False) (wb_X12_picture0_b128  Q ) n x1 x3 x4 M → J 128 [(0, .ref (ad 0)), (1, .int (Ii x1)), (3, .int (Ii x3)), (4, .int (Ii x4))] [] M := by
    intro n
    induction n with
    | zero => intro x1 x3 x4 M gx1 gx3 gx4 hF; exact False.elim hF
    | succ n ih =>
    intro x1 x3 x4 M gx1 gx3 gx4 hF
    have hF : wb_X12_picture0_b128  Q  (jit (fun _ _ _ _ => False) (wb_X12_picture0_b128  Q ) n) x1 x3 x4 M := hF
    unfold wb_X12_picture0_b128 at hF
    refine j_iload hJ dX12_picture0_128 3 rfl ?_
    refine j_aload_n hJ dX12_picture0_130 rfl 0 rfl ?_
    refine j_gi hJ kR_0 fR_15_47 rfl fl_X12_522 dX12_picture0_131 (fun v1 ev1 gv1 => ?_)
    have hF := hF v1 ev1 gv1
    refine j_icmp_ge hJ 324 gx4 gv1 dX12_picture0_134 (by decide) (fun z2 => ?_) (fun z2 => ?_)
    · have hF := hF.1 z2
      exact j_vret hJ rfl dX12_picture0_324 hF
    · have hF := hF.2 z2
      refine j_aload_n hJ dX12_picture0_137 rfl 0 rfl ?_
      refine j_gr (e := 36) hJ kR_0 fR_15_45 fl_X12_177 dX12_picture0_138 rfl ?_
      refine j_iload hJ dX12_picture0_141 3 rfl ?_
      refine j_iald hJ gx4 kR_36 hF.1 hF.2.1 dX12_picture0_143 (fun v3 ev3 gv3 => ?_)
      have hF := hF.2.2 v3 ev3 gv3
      refine j_istore (lv' := [(5, .int (Ii v3)), (0, .ref (ad 0)), (1, .int (Ii x1)), (3, .int (Ii x3)), (4, .int (Ii x4))]) hJ dX12_picture0_144 (by decide) rfl ?_
      refine j_aload_n hJ dX12_picture0_146 rfl 1 rfl ?_
      refine j_gr (e := 39) hJ kR_0 fR_15_49 fl_X12_186 dX12_picture0_147 rfl ?_
      refine j_aload_n hJ dX12_picture0_150 rfl 1 rfl ?_
      refine j_iload_n hJ dX12_picture0_151 rfl 2 rfl ?_
      refine j_iload hJ dX12_picture0_152 4 rfl ?_
      refine j_callVi hJ (c_X12_at (l := l) (D := D) (cy := cy) (ad := ad) hin) rfl om_1153 ⟨rfl, rfl, Nat.le_of_ble_eq_true rfl, Nat.le_of_ble_eq_true rfl⟩ [.int (Ii x1), .int (Ii x4)] mv_X12_545 hd_X12_atv kR_0 rfl rfl rfl (Nat.le_of_ble_eq_true rfl) dX12_picture0_154 ⟨x1, x4, rfl, gx1, gx4, hF⟩ (fun r4 M5 gr4 qM5 => ?_)
      have hF := qM5 gr4
      refine j_iload hJ dX12_picture0_157 0 rfl ?_
      refine j_iast hJ gr4 gv3 kR_39 hF.1 hF.2.1 dX12_picture0_159 (fun M6 eM6 => ?_)
      have hF := hF.2.2 M6 eM6
      refine j_aload_n hJ dX12_picture0_160 rfl 1 rfl ?_
      refine j_gr (e := 40) hJ kR_0 fR_15_50 fl_X12_189 dX12_picture0_161 rfl ?_
      refine j_aload_n hJ dX12_picture0_164 rfl 1 rfl ?_
      refine j_iload_n hJ dX12_picture0_165 rfl 2 rfl ?_
      refine j_iload hJ dX12_picture0_166 4 rfl ?_
      refine j_callVi hJ (c_X12_at (l := l) (D := D) (cy := cy) (ad := ad) hin) rfl om_1153 ⟨rfl, rfl, Nat.le_of_ble_eq_true rfl, Nat.le_of_ble_eq_true rfl⟩ [.int (Ii x1), .int (Ii x4)] mv_X12_545 hd_X12_atv kR_0 rfl rfl rfl (Nat.le_of_ble_eq_true rfl) dX12_picture0_168 ⟨x1, x4, rfl, gx1, gx4, hF⟩ (fun r7 M8 gr7 qM8 => ?_)
      have hF := qM8 gr7
      refine j_aload_n hJ dX12_picture0_171 rfl 1 rfl ?_
      refine j_gr (e := 19) hJ kR_0 fR_15_21 fl_X12_125 dX12_picture0_172 rfl ?_
      refine j_iload hJ dX12_picture0_175 0 rfl ?_
      refine j_iald hJ gv3 kR_19 hF.1 hF.2.1 dX12_picture0_177 (fun v9 ev9 gv9 => ?_)
      have hF := hF.2.2 v9 ev9 gv9
      refine j_iast hJ gr7 gv9 kR_40 hF.1 hF.2.1 dX12_picture0_178 (fun M10 eM10 => ?_)
      have hF := hF.2.2 M10 eM10
      refine j_aload_n hJ dX12_picture0_179 rfl 1 rfl ?_
      refine j_gr (e := 41) hJ kR_0 fR_15_51 fl_X12_192 dX12_picture0_180 rfl ?_
      refine j_aload_n hJ dX12_picture0_183 rfl 1 rfl ?_
      refine j_iload_n hJ dX12_picture0_184 rfl 2 rfl ?_
      refine j_iload hJ dX12_picture0_185 4 rfl ?_
      refine j_callVi hJ (c_X12_at (l := l) (D := D) (cy := cy) (ad := ad) hin) rfl om_1153 ⟨rfl, rfl, Nat.le_of_ble_eq_true rfl, Nat.le_of_ble_eq_true rfl⟩ [.int (Ii x1), .int (Ii x4)] mv_X12_545 hd_X12_atv kR_0 rfl rfl rfl (Nat.le_of_ble_eq_true rfl) dX12_picture0_187 ⟨x1, x4, rfl, gx1, gx4, hF⟩ (fun r11 M12 gr11 qM12 => ?_)
      have hF := qM12 gr11
      refine j_aload_n hJ dX12_picture0_190 rfl 1 rfl ?_
      refine j_gr (e := 20) hJ kR_0 fR_15_22 fl_X12_128 dX12_picture0_191 rfl ?_
      refine j_iload hJ dX12_picture0_194 0 rfl ?_
      refine j_iald hJ gv3 kR_20 hF.1 hF.2.1 dX12_picture0_196 (fun v13 ev13 gv13 => ?_)
      have hF := hF.2.2 v13 ev13 gv13
      refine j_iast hJ gr11 gv13 kR_41 hF.1 hF.2.1 dX12_picture0_197 (fun M14 eM14 => ?_)
      have hF := hF.2.2 M14 eM14
      refine j_aload_n hJ dX12_picture0_198 rfl 1 rfl ?_
      refine j_gr (e := 42) hJ kR_0 fR_15_52 fl_X12_195 dX12_picture0_199 rfl ?_
      refine j_aload_n hJ dX12_picture0_202 rfl 1 rfl ?_
      refine j_iload_n hJ dX12_picture0_203 rfl 2 rfl ?_
      refine j_iload hJ dX12_picture0_204 4 rfl ?_
      refine j_callVi hJ (c_X12_at (l := l) (D := D) (cy := cy) (ad := ad) hin) rfl om_1153 ⟨rfl, rfl, Nat.le_of_ble_eq_true rfl, Nat.le_of_ble_eq_true rfl⟩ [.int (Ii x1), .int (Ii x4)] mv_X12_545 hd_X12_atv kR_0 rfl rfl rfl (Nat.le_of_ble_eq_true rfl) dX12_picture0_206 ⟨x1, x4, rfl, gx1, gx4, hF⟩ (fun r15 M16 gr15 qM16 => ?_)
      have hF := qM16 gr15
      refine j_iload_n hJ dX12_picture0_209 rfl 3 rfl ?_
      refine j_iast hJ gr15 gx3 kR_42 hF.1 hF.2.1 dX12_picture0_210 (fun M17 eM17 => ?_)
      have hF := hF.2.2 M17 eM17
      refine j_aload_n hJ dX12_picture0_211 rfl 1 rfl ?_
      refine j_aload_n hJ dX12_picture0_212 rfl 1 rfl ?_
      refine j_gr (e := 19) hJ kR_0 fR_15_21 fl_X12_125 dX12_picture0_213 rfl ?_
      refine j_iload hJ dX12_picture0_216 0 rfl ?_
      refine j_iald hJ gv3 kR_19 hF.1 hF.2.1 dX12_picture0_218 (fun v18 ev18 gv18 => ?_)
      have hF := hF.2.2 v18 ev18 gv18
      refine j_aload_n hJ dX12_picture0_219 rfl 1 rfl ?_
      refine j_gr (e := 20) hJ kR_0 fR_15_22 fl_X12_128 dX12_picture0_220 rfl ?_
      refine j_iload hJ dX12_picture0_223 0 rfl ?_
      refine j_iald hJ gv3 kR_20 hF.1 hF.2.1 dX12_picture0_225 (fun v19 ev19 gv19 => ?_)
      have hF := hF.2.2 v19 ev19 gv19
      refine j_callVi hJ (c_X12_slotCount (l := l) (D := D) (cy := cy) (ad := ad) hin) rfl om_1089 ⟨rfl, rfl, Nat.le_of_ble_eq_true rfl, Nat.le_of_ble_eq_true rfl⟩ [.int (Ii v18), .int (Ii v19)] mv_X12_455 hd_X12_slotCountv kR_0 rfl rfl rfl (Nat.le_of_ble_eq_true rfl) dX12_picture0_226 ⟨v18, v19, rfl, gv18, gv19, hF⟩ (fun r20 M21 gr20 qM21 => ?_)
      have hF := qM21 gr20
      refine j_istore (lv' := [(6, .int (Ii r20)), (5, .int (Ii v3)), (0, .ref (ad 0)), (1, .int (Ii x1)), (3, .int (Ii x3)), (4, .int (Ii x4))]) hJ dX12_picture0_229 (by decide) rfl ?_
      refine j_iconst hJ dX12_picture0_231 ?_
      refine j_istore (lv' := [(7, .int (Ii 0)), (6, .int (Ii r20)), (5, .int (Ii v3)), (0, .ref (ad 0)), (1, .int (Ii x1)), (3, .int (Ii x3)), (4, .int (Ii x4))]) hJ dX12_picture0_232 (by decide) rfl ?_
      exact j_sub hJ [3, 4, 5, 6, 2, 1, 0] rfl (k_X12_picture0_b234 hin  hJ ih x1 x3 x4 v3 r20 0 _ gx1 gx3 gx4 gv3 gr20 rk_0 hF)
  intro x1 x3 x4 M gx1 gx3 gx4 hF
  obtain ⟨n, hF⟩ := hF
  exact H9 n x1 x3 x4 M gx1 gx3 gx4 hF
set_option maxHeartbeats 4000000 in
set_option maxRecDepth 100000 in
theorem k_X12_picture0_b117 {l : Launch} {D : va_G} {cy : Nat → ClassId} {ad : Nat → Nat} {Q : Int → MM → Prop} {J : Nat → List (Nat × Value) → List Value → MM → Prop} (hin : jIn ad ksR.length)   (hJ : jOk l D vwCl (tyR cy) cy ad ftR ksR (XtR ad) Om RX12 cX12_picture0 10 0 ({ frames := 5, cells := 0, slots := 0, locals := 115 } : Room) Q J) {K61 : Int → Int → Int → MM → Prop} (hK61 : ∀ (x1 x2 x3 : Int) (M : MM), ri_ x1 → ri_ x2 → ri_ x3 → K61 x1 x2 x3 M → J 61 [(0, .ref (ad 0)), (1, .int (Ii x1)), (2, .int (Ii x2)), (3, .int (Ii x3))] [] M) : ∀ (x1 x2 x3 : Int) (M : MM), ri_ x1 → ri_ x2 → ri_ x3 → w_X12_picture0_b117  Q K61 x1 x2 x3 M → J 117 [(0, .ref (ad 0)), (1, .int (Ii x1)), (2, .int (Ii x2)), (3, .int (Ii x3))] [] M := by
  intro x1 x2 x3 M gx1 gx2 gx3 hF
  unfold w_X12_picture0_b117 at hF
  refine j_iinc (lv' := [(3, .int (Ii (x3 + 1))), (0, .ref (ad 0)), (1, .int (Ii x1)), (2, .int (Ii x2))]) (k := 3) hJ dX12_picture0_117 rfl (by decide) rfl ?_
  have g1 := hF.1; have hF := hF.2
  refine j_goto hJ 61 dX12_picture0_120 (by decide) ?_
  exact j_sub hJ [1, 2, 3, 0] rfl (hK61 x1 x2 (x3 + 1) _ gx1 gx2 g1 hF)
set_option maxHeartbeats 4000000 in
set_option maxRecDepth 100000 in
theorem k_X12_picture0_b114 {l : Launch} {D : va_G} {cy : Nat → ClassId} {ad : Nat → Nat} {Q : Int → MM → Prop} {J : Nat → List (Nat × Value) → List Value → MM → Prop} (hin : jIn ad ksR.length)   (hJ : jOk l D vwCl (tyR cy) cy ad ftR ksR (XtR ad) Om RX12 cX12_picture0 10 0 ({ frames := 5, cells := 0, slots := 0, locals := 115 } : Room) Q J) {K61 : Int → Int → Int → MM → Prop} (hK61 : ∀ (x1 x2 x3 : Int) (M : MM), ri_ x1 → ri_ x2 → ri_ x3 → K61 x1 x2 x3 M → J 61 [(0, .ref (ad 0)), (1, .int (Ii x1)), (2, .int (Ii x2)), (3, .int (Ii x3))] [] M) : ∀ (x1 x2 x3 : Int) (M : MM), ri_ x1 → ri_ x2 → ri_ x3 → w_X12_picture0_b114  Q K61 x1 x2 x3 M → J 114 [(0, .ref (ad 0)), (1, .int (Ii x1)), (2, .int (Ii x2)), (3, .int (Ii x3))] [] M := by
  intro x1 x2 x3 M gx1 gx2 gx3 hF
  unfold w_X12_picture0_b114 at hF
  refine j_iinc (lv' := [(2, .int (Ii (x2 + 1))), (0, .ref (ad 0)), (1, .int (Ii x1)), (3, .int (Ii x3))]) (k := 2) hJ dX12_picture0_114 rfl (by decide) rfl ?_
  have g1 := hF.1; have hF := hF.2
  exact j_sub hJ [1, 2, 0, 3] rfl (k_X12_picture0_b117 hin  hJ hK61 x1 (x2 + 1) x3 _ gx1 g1 gx3 hF)
set_option maxHeartbeats 4000000 in
set_option maxRecDepth 100000 in
theorem k_X12_picture0_b61 {l : Launch} {D : va_G} {cy : Nat → ClassId} {ad : Nat → Nat} {Q : Int → MM → Prop} {J : Nat → List (Nat × Value) → List Value → MM → Prop} (hin : jIn ad ksR.length)   (hJ : jOk l D vwCl (tyR cy) cy ad ftR ksR (XtR ad) Om RX12 cX12_picture0 10 0 ({ frames := 5, cells := 0, slots := 0, locals := 115 } : Room) Q J)  : ∀ (x1 x2 x3 : Int) (M : MM), ri_ x1 → ri_ x2 → ri_ x3 → w_X12_picture0_b61  Q  x1 x2 x3 M → J 61 [(0, .ref (ad 0)), (1, .int (Ii x1)), (2, .int (Ii x2)), (3, .int (Ii x3))] [] M := by
  have H9 : ∀ (n : Nat) (x1 x2 x3 : Int) (M : MM), ri_ x1 → ri_ x2 → ri_ x3 → jit (fun _ _ _ _ => False) (wb_X12_picture0_b61  Q ) n x1 x2 x3 M → J 61 [(0, .ref (ad 0)), (1, .int (Ii x1)), (2, .int (Ii x2)), (3, .int (Ii x3))] [] M := by
    intro n
    induction n with
    | zero => intro x1 x2 x3 M gx1 gx2 gx3 hF; exact False.elim hF
    | succ n ih =>
    intro x1 x2 x3 M gx1 gx2 gx3 hF
    have hF : wb_X12_picture0_b61  Q  (jit (fun _ _ _ _ => False) (wb_X12_picture0_b61  Q ) n) x1 x2 x3 M := hF
    unfold wb_X12_picture0_b61 at hF
    refine j_iload_n hJ dX12_picture0_61 rfl 3 rfl ?_
    refine j_bipush hJ dX12_picture0_62 (by decide) ?_
    refine j_aload_n hJ dX12_picture0_64 rfl 0 rfl ?_
    refine j_gi hJ kR_0 fR_15_20 rfl fl_X12_413 dX12_picture0_65 (fun v1 ev1 gv1 => ?_)
    have hF := hF v1 ev1 gv1
    refine j_imul hJ dX12_picture0_68 ?_
    have g2 := hF.1; have hF := hF.2
    refine j_icmp_ge hJ 123 gx3 g2 dX12_picture0_69 (by decide) (fun z3 => ?_) (fun z3 => ?_)
    · have hF := hF.1 z3
      refine j_iconst hJ dX12_picture0_123 ?_
      refine j_istore_n (lv' := [(3, .int (Ii 0)), (0, .ref (ad 0)), (1, .int (Ii x1)), (2, .int (Ii x2))]) hJ dX12_picture0_124 rfl (by decide) rfl ?_
      refine j_iconst hJ dX12_picture0_125 ?_
      refine j_istore (lv' := [(4, .int (Ii 0)), (3, .int (Ii 0)), (0, .ref (ad 0)), (1, .int (Ii x1)), (2, .int (Ii x2))]) hJ dX12_picture0_126 (by decide) rfl ?_
      exact j_sub hJ [2, 3, 1, 0] rfl (k_X12_picture0_b128 hin  hJ  x1 0 0 _ gx1 rk_0 rk_0 hF)
    · have hF := hF.2 z3
      refine j_aload_n hJ dX12_picture0_72 rfl 0 rfl ?_
      refine j_iload_n hJ dX12_picture0_73 rfl 3 rfl ?_
      refine j_callVz hJ (c_X12_isLinkStatic (l := l) (D := D) (cy := cy) (ad := ad) hin) rfl om_1145 ⟨rfl, rfl, Nat.le_of_ble_eq_true rfl, Nat.le_of_ble_eq_true rfl⟩ [.int (Ii x3)] mv_X12_519 hd_X12_isLinkStaticv kR_0 rfl rfl rfl (Nat.le_of_ble_eq_true rfl) dX12_picture0_74 ⟨x3, rfl, gx3, hF⟩ (fun r4 M5 gr4 qM5 => ?_)
      have hF := qM5 gr4
      refine j_if_ne hJ 83 (jz_ri gr4) dX12_picture0_77 (by decide) (fun z6 => ?_) (fun z6 => ?_)
      · have hF := hF.1 z6
        refine j_aload_n hJ dX12_picture0_83 rfl 0 rfl ?_
        refine j_gr (e := 6) hJ kR_0 fR_15_7 fl_X12_84 dX12_picture0_84 rfl ?_
        refine j_iload_n hJ dX12_picture0_87 rfl 3 rfl ?_
        refine j_lald hJ gx3 kR_6 hF.1 hF.2.1 dX12_picture0_88 (fun v7 ev7 gv7 => ?_)
        have hF := hF.2.2 v7 ev7 gv7
        refine j_ldc2 hJ (-1) om_1068 (by decide) dX12_picture0_89 ?_
        refine j_lcmp_eq hJ 114 gv7 lk_m1 dX12_picture0_92 dX12_picture0_93 (by decide) (fun z8 => ?_) (fun z8 => ?_)
        · have hF := hF.1 z8
          exact j_sub hJ [0, 1, 2, 3] rfl (k_X12_picture0_b114 hin  hJ ih x1 x2 x3 _ gx1 gx2 gx3 hF)
        · have hF := hF.2 z8
          refine j_aload_n hJ dX12_picture0_96 rfl 0 rfl ?_
          refine j_iload_n hJ dX12_picture0_97 rfl 1 rfl ?_
          refine j_iload_n hJ dX12_picture0_98 rfl 2 rfl ?_
          refine j_aload_n hJ dX12_picture0_99 rfl 0 rfl ?_
          refine j_gr (e := 37) hJ kR_0 fR_15_46 fl_X12_180 dX12_picture0_100 rfl ?_
          refine j_aload_n hJ dX12_picture0_103 rfl 0 rfl ?_
          refine j_gr (e := 6) hJ kR_0 fR_15_7 fl_X12_84 dX12_picture0_104 rfl ?_
          refine j_iload_n hJ dX12_picture0_107 rfl 3 rfl ?_
          refine j_lald hJ gx3 kR_6 hF.1 hF.2.1 dX12_picture0_108 (fun v9 ev9 gv9 => ?_)
          have hF := hF.2.2 v9 ev9 gv9
          refine j_l2i hJ dX12_picture0_109 ?_
          have g10 := hF.1; have hF := hF.2
          refine j_iald hJ g10 kR_37 hF.1 hF.2.1 dX12_picture0_110 (fun v11 ev11 gv11 => ?_)
          have hF := hF.2.2 v11 ev11 gv11
          refine j_callVv hJ (c_X12_addRoot (l := l) (D := D) (cy := cy) (ad := ad) hin) rfl om_1157 ⟨rfl, rfl, Nat.le_of_ble_eq_true rfl, Nat.le_of_ble_eq_true rfl⟩ [.int (Ii x1), .int (Ii x2), .int (Ii v11)] mv_X12_548 hd_X12_addRootv kR_0 rfl rfl rfl (Nat.le_of_ble_eq_true rfl) dX12_picture0_111 ⟨x1, x2, v11, rfl, gx1, gx2, gv11, hF⟩ (fun M13 qM13 => ?_)
          have hF := qM13
          exact j_sub hJ [0, 1, 2, 3] rfl (k_X12_picture0_b114 hin  hJ ih x1 x2 x3 _ gx1 gx2 gx3 hF)
      · have hF := hF.2 z6
        refine j_goto hJ 117 dX12_picture0_80 (by decide) ?_
        exact j_sub hJ [0, 1, 2, 3] rfl (k_X12_picture0_b117 hin  hJ ih x1 x2 x3 _ gx1 gx2 gx3 hF)
  intro x1 x2 x3 M gx1 gx2 gx3 hF
  obtain ⟨n, hF⟩ := hF
  exact H9 n x1 x2 x3 M gx1 gx2 gx3 hF
set_option maxHeartbeats 4000000 in
set_option maxRecDepth 100000 in
theorem k_X12_picture0_b28 {l : Launch} {D : va_G} {cy : Nat → ClassId} {ad : Nat → Nat} {Q : Int → MM → Prop} {J : Nat → List (Nat × Value) → List Value → MM → Prop} (hin : jIn ad ksR.length)   (hJ : jOk l D vwCl (tyR cy) cy ad ftR ksR (XtR ad) Om RX12 cX12_picture0 10 0 ({ frames := 5, cells := 0, slots := 0, locals := 115 } : Room) Q J)  : ∀ (x1 x2 x3 : Int) (M : MM), ri_ x1 → ri_ x2 → ri_ x3 → w_X12_picture0_b28  Q  x1 x2 x3 M → J 28 [(0, .ref (ad 0)), (1, .int (Ii x1)), (2, .int (Ii x2)), (3, .int (Ii x3))] [] M := by
  have H9 : ∀ (n : Nat) (x1 x2 x3 : Int) (M : MM), ri_ x1 → ri_ x2 → ri_ x3 → jit (fun _ _ _ _ => False) (wb_X12_picture0_b28  Q ) n x1 x2 x3 M → J 28 [(0, .ref (ad 0)), (1, .int (Ii x1)), (2, .int (Ii x2)), (3, .int (Ii x3))] [] M := by
    intro n
    induction n with
    | zero => intro x1 x2 x3 M gx1 gx2 gx3 hF; exact False.elim hF
    | succ n ih =>
    intro x1 x2 x3 M gx1 gx2 gx3 hF
    have hF : wb_X12_picture0_b28  Q  (jit (fun _ _ _ _ => False) (wb_X12_picture0_b28  Q ) n) x1 x2 x3 M := hF
    unfold wb_X12_picture0_b28 at hF
    refine j_iload_n hJ dX12_picture0_28 rfl 3 rfl ?_
    refine j_aload_n hJ dX12_picture0_29 rfl 0 rfl ?_
    refine j_gi hJ kR_0 fR_15_31 rfl fl_X12_470 dX12_picture0_30 (fun v1 ev1 gv1 => ?_)
    have hF := hF v1 ev1 gv1
    refine j_icmp_ge hJ 59 gx3 gv1 dX12_picture0_33 (by decide) (fun z2 => ?_) (fun z2 => ?_)
    · have hF := hF.1 z2
      refine j_iconst hJ dX12_picture0_59 ?_
      refine j_istore_n (lv' := [(3, .int (Ii 0)), (0, .ref (ad 0)), (1, .int (Ii x1)), (2, .int (Ii x2))]) hJ dX12_picture0_60 rfl (by decide) rfl ?_
      exact j_sub hJ [1, 2, 3, 0] rfl (k_X12_picture0_b61 hin  hJ  x1 x2 0 _ gx1 gx2 rk_0 hF)
    · have hF := hF.2 z2
      refine j_aload_n hJ dX12_picture0_36 rfl 0 rfl ?_
      refine j_iload_n hJ dX12_picture0_37 rfl 1 rfl ?_
      refine j_iload_n hJ dX12_picture0_38 rfl 3 rfl ?_
      refine j_aload_n hJ dX12_picture0_39 rfl 0 rfl ?_
      refine j_gr (e := 37) hJ kR_0 fR_15_46 fl_X12_180 dX12_picture0_40 rfl ?_
      refine j_aload_n hJ dX12_picture0_43 rfl 0 rfl ?_
      refine j_gr (e := 24) hJ kR_0 fR_15_30 fl_X12_141 dX12_picture0_44 rfl ?_
      refine j_iload_n hJ dX12_picture0_47 rfl 3 rfl ?_
      refine j_iald hJ gx3 kR_24 hF.1 hF.2.1 dX12_picture0_48 (fun v3 ev3 gv3 => ?_)
      have hF := hF.2.2 v3 ev3 gv3
      refine j_iald hJ gv3 kR_37 hF.1 hF.2.1 dX12_picture0_49 (fun v4 ev4 gv4 => ?_)
      have hF := hF.2.2 v4 ev4 gv4
      refine j_callVv hJ (c_X12_addRoot (l := l) (D := D) (cy := cy) (ad := ad) hin) rfl om_1157 ⟨rfl, rfl, Nat.le_of_ble_eq_true rfl, Nat.le_of_ble_eq_true rfl⟩ [.int (Ii x1), .int (Ii x3), .int (Ii v4)] mv_X12_548 hd_X12_addRootv kR_0 rfl rfl rfl (Nat.le_of_ble_eq_true rfl) dX12_picture0_50 ⟨x1, x3, v4, rfl, gx1, gx3, gv4, hF⟩ (fun M6 qM6 => ?_)
      have hF := qM6
      refine j_iinc (lv' := [(3, .int (Ii (x3 + 1))), (0, .ref (ad 0)), (1, .int (Ii x1)), (2, .int (Ii x2))]) (k := 3) hJ dX12_picture0_53 rfl (by decide) rfl ?_
      have g7 := hF.1; have hF := hF.2
      refine j_goto hJ 28 dX12_picture0_56 (by decide) ?_
      exact j_sub hJ [1, 2, 3, 0] rfl (ih x1 x2 (x3 + 1) _ gx1 gx2 g7 hF)
  intro x1 x2 x3 M gx1 gx2 gx3 hF
  obtain ⟨n, hF⟩ := hF
  exact H9 n x1 x2 x3 M gx1 gx2 gx3 hF
set_option maxHeartbeats 4000000 in
set_option maxRecDepth 100000 in
theorem c_X12_picture0 {l : Launch} {D : va_G} {cy : Nat → ClassId} {ad : Nat → Nat} (hin : jIn ad ksR.length) : jCN l D vwCl (tyR cy) cy ad ftR ksR (XtR ad) yX12_picture0 (.code yX12_picture0 cX12_picture0 10 none :: Om) ({ frames := 5, cells := 0, slots := 0, locals := 115 } : Room) 0 (W_X12_picture0 ad) := by
  refine jCN_of (y := yX12_picture0) (cc := cX12_picture0) (nL := 10) (rk := 0) (rm := ({ frames := 5, cells := 0, slots := 0, locals := 115 } : Room)) (own := RX12) (tyR_ok cy) hin (XtR_ok ad) Om_good (by decide) rfl ?_
  intro Q av M hF
  obtain ⟨p1, rfl, gp1, hF⟩ := hF
  refine ⟨Nat.le_of_ble_eq_true rfl, fun J hJ => ?_⟩
  show J 0 [(0, .ref (ad 0)), (1, .int (Ii p1))] [] M
  unfold w_X12_picture0 at hF
  refine j_aload_n hJ dX12_picture0_0 rfl 0 rfl ?_
  refine j_callVv hJ (c_X12_walkRoots (l := l) (D := D) (cy := cy) (ad := ad) hin) rfl om_1149 ⟨rfl, rfl, Nat.le_of_ble_eq_true rfl, Nat.le_of_ble_eq_true rfl⟩ [] mv_X12_539 hd_X12_walkRootsv kR_0 rfl rfl rfl (Nat.le_of_ble_eq_true rfl) dX12_picture0_1 ⟨rfl, hF⟩ (fun M2 qM2 => ?_)
  have hF := qM2
  refine j_aload_n hJ dX12_picture0_4 rfl 0 rfl ?_
  refine j_gr (e := 38) hJ kR_0 fR_15_48 fl_X12_183 dX12_picture0_5 rfl ?_
  refine j_iload_n hJ dX12_picture0_8 rfl 1 rfl ?_
  refine j_aload_n hJ dX12_picture0_9 rfl 0 rfl ?_
  refine j_gi hJ kR_0 fR_15_47 rfl fl_X12_522 dX12_picture0_10 (fun v3 ev3 gv3 => ?_)
  have hF := hF v3 ev3 gv3
  refine j_iast hJ gp1 gv3 kR_38 hF.1 hF.2.1 dX12_picture0_13 (fun M4 eM4 => ?_)
  have hF := hF.2.2 M4 eM4
  refine j_aload_n hJ dX12_picture0_14 rfl 0 rfl ?_
  refine j_gr (e := 55) hJ kR_0 fR_15_65 fl_X12_234 dX12_picture0_15 rfl ?_
  refine j_iload_n hJ dX12_picture0_18 rfl 1 rfl ?_
  refine j_iconst hJ dX12_picture0_19 ?_
  refine j_iast hJ gp1 rk_0 kR_55 hF.1 hF.2.1 dX12_picture0_20 (fun M5 eM5 => ?_)
  have hF := hF.2.2 M5 eM5
  refine j_aload_n hJ dX12_picture0_21 rfl 0 rfl ?_
  refine j_gi hJ kR_0 fR_15_31 rfl fl_X12_470 dX12_picture0_22 (fun v6 ev6 gv6 => ?_)
  have hF := hF v6 ev6 gv6
  refine j_istore_n (lv' := [(2, .int (Ii v6)), (0, .ref (ad 0)), (1, .int (Ii p1))]) hJ dX12_picture0_25 rfl (by decide) rfl ?_
  refine j_iconst hJ dX12_picture0_26 ?_
  refine j_istore_n (lv' := [(3, .int (Ii 0)), (2, .int (Ii v6)), (0, .ref (ad 0)), (1, .int (Ii p1))]) hJ dX12_picture0_27 rfl (by decide) rfl ?_
  exact j_sub hJ [2, 3, 1, 0] rfl (k_X12_picture0_b28 hin  hJ  p1 v6 0 _ gp1 gv6 rk_0 hF)
def W_X12_slotsIn (ad : Nat → Nat) (Q : Int → MM → Prop) (av : List Value) (M : MM) : Prop := ∃ (p1 : Int) (p2 : Int), av = [.ref (ad 0), .int (Ii p1), .int (Ii p2)] ∧ ri_ p1 ∧ ri_ p2 ∧ w_X12_slotsIn  Q p1 p2 M
set_option maxHeartbeats 4000000 in
set_option maxRecDepth 100000 in
theorem c_X12_slotsIn {l : Launch} {D : va_G} {cy : Nat → ClassId} {ad : Nat → Nat} (hin : jIn ad ksR.length) : jCN l D vwCl (tyR cy) cy ad ftR ksR (XtR ad) yX12_slotsIn (.code yX12_slotsIn cX12_slotsIn 3 (some .int) :: Om) ({ frames := 2, cells := 0, slots := 0, locals := 43 } : Room) 1 (W_X12_slotsIn ad) := by
  refine jCN_of (y := yX12_slotsIn) (cc := cX12_slotsIn) (nL := 3) (rk := 1) (rm := ({ frames := 2, cells := 0, slots := 0, locals := 43 } : Room)) (own := RX12) (tyR_ok cy) hin (XtR_ok ad) Om_good (by decide) rfl ?_
  intro Q av M hF
  obtain ⟨p1, p2, rfl, gp1, gp2, hF⟩ := hF
  refine ⟨Nat.le_of_ble_eq_true rfl, fun J hJ => ?_⟩
  show J 0 [(0, .ref (ad 0)), (1, .int (Ii p1)), (2, .int (Ii p2))] [] M
  unfold w_X12_slotsIn at hF
  refine j_aload_n hJ dX12_slotsIn_0 rfl 0 rfl ?_
  refine j_aload_n hJ dX12_slotsIn_1 rfl 0 rfl ?_
  refine j_gr (e := 40) hJ kR_0 fR_15_50 fl_X12_189 dX12_slotsIn_2 rfl ?_
  refine j_aload_n hJ dX12_slotsIn_5 rfl 0 rfl ?_
  refine j_iload_n hJ dX12_slotsIn_6 rfl 1 rfl ?_
  refine j_iload_n hJ dX12_slotsIn_7 rfl 2 rfl ?_
  refine j_callVi hJ (c_X12_at (l := l) (D := D) (cy := cy) (ad := ad) hin) rfl om_1153 ⟨rfl, rfl, Nat.le_of_ble_eq_true rfl, Nat.le_of_ble_eq_true rfl⟩ [.int (Ii p1), .int (Ii p2)] mv_X12_545 hd_X12_atv kR_0 rfl rfl rfl (Nat.le_of_ble_eq_true rfl) dX12_slotsIn_8 ⟨p1, p2, rfl, gp1, gp2, hF⟩ (fun r1 M2 gr1 qM2 => ?_)
  have hF := qM2 gr1
  refine j_iald hJ gr1 kR_40 hF.1 hF.2.1 dX12_slotsIn_11 (fun v3 ev3 gv3 => ?_)
  have hF := hF.2.2 v3 ev3 gv3
  refine j_aload_n hJ dX12_slotsIn_12 rfl 0 rfl ?_
  refine j_gr (e := 41) hJ kR_0 fR_15_51 fl_X12_192 dX12_slotsIn_13 rfl ?_
  refine j_aload_n hJ dX12_slotsIn_16 rfl 0 rfl ?_
  refine j_iload_n hJ dX12_slotsIn_17 rfl 1 rfl ?_
  refine j_iload_n hJ dX12_slotsIn_18 rfl 2 rfl ?_
  refine j_callVi hJ (c_X12_at (l := l) (D := D) (cy := cy) (ad := ad) hin) rfl om_1153 ⟨rfl, rfl, Nat.le_of_ble_eq_true rfl, Nat.le_of_ble_eq_true rfl⟩ [.int (Ii p1), .int (Ii p2)] mv_X12_545 hd_X12_atv kR_0 rfl rfl rfl (Nat.le_of_ble_eq_true rfl) dX12_slotsIn_19 ⟨p1, p2, rfl, gp1, gp2, hF⟩ (fun r4 M5 gr4 qM5 => ?_)
  have hF := qM5 gr4
  refine j_iald hJ gr4 kR_41 hF.1 hF.2.1 dX12_slotsIn_22 (fun v6 ev6 gv6 => ?_)
  have hF := hF.2.2 v6 ev6 gv6
  refine j_callVi hJ (c_X12_slotCount (l := l) (D := D) (cy := cy) (ad := ad) hin) rfl om_1089 ⟨rfl, rfl, Nat.le_of_ble_eq_true rfl, Nat.le_of_ble_eq_true rfl⟩ [.int (Ii v3), .int (Ii v6)] mv_X12_455 hd_X12_slotCountv kR_0 rfl rfl rfl (Nat.le_of_ble_eq_true rfl) dX12_slotsIn_23 ⟨v3, v6, rfl, gv3, gv6, hF⟩ (fun r7 M8 gr7 qM8 => ?_)
  have hF := qM8 gr7
  exact j_iret hJ rfl gr7 dX12_slotsIn_26 hF
def W_X12_linksIn (ad : Nat → Nat) (Q : Int → MM → Prop) (av : List Value) (M : MM) : Prop := ∃ (p1 : Int) (p2 : Int) (p3 : Int), av = [.ref (ad 0), .int (Ii p1), .int (Ii p2), .int (Ii p3)] ∧ ri_ p1 ∧ ri_ p2 ∧ ri_ p3 ∧ w_X12_linksIn  Q p1 p2 p3 M
set_option maxHeartbeats 4000000 in
set_option maxRecDepth 100000 in
theorem c_X12_linksIn {l : Launch} {D : va_G} {cy : Nat → ClassId} {ad : Nat → Nat} (hin : jIn ad ksR.length) : jCN l D vwCl (tyR cy) cy ad ftR ksR (XtR ad) yX12_linksIn (.code yX12_linksIn cX12_linksIn 4 (some .boolean) :: Om) ({ frames := 2, cells := 0, slots := 0, locals := 47 } : Room) 3 (W_X12_linksIn ad) := by
  refine jCN_of (y := yX12_linksIn) (cc := cX12_linksIn) (nL := 4) (rk := 3) (rm := ({ frames := 2, cells := 0, slots := 0, locals := 47 } : Room)) (own := RX12) (tyR_ok cy) hin (XtR_ok ad) Om_good (by decide) rfl ?_
  intro Q av M hF
  obtain ⟨p1, p2, p3, rfl, gp1, gp2, gp3, hF⟩ := hF
  refine ⟨Nat.le_of_ble_eq_true rfl, fun J hJ => ?_⟩
  show J 0 [(0, .ref (ad 0)), (1, .int (Ii p1)), (2, .int (Ii p2)), (3, .int (Ii p3))] [] M
  unfold w_X12_linksIn at hF
  refine j_aload_n hJ dX12_linksIn_0 rfl 0 rfl ?_
  refine j_aload_n hJ dX12_linksIn_1 rfl 0 rfl ?_
  refine j_gr (e := 40) hJ kR_0 fR_15_50 fl_X12_189 dX12_linksIn_2 rfl ?_
  refine j_aload_n hJ dX12_linksIn_5 rfl 0 rfl ?_
  refine j_iload_n hJ dX12_linksIn_6 rfl 1 rfl ?_
  refine j_iload_n hJ dX12_linksIn_7 rfl 2 rfl ?_
  refine j_callVi hJ (c_X12_at (l := l) (D := D) (cy := cy) (ad := ad) hin) rfl om_1153 ⟨rfl, rfl, Nat.le_of_ble_eq_true rfl, Nat.le_of_ble_eq_true rfl⟩ [.int (Ii p1), .int (Ii p2)] mv_X12_545 hd_X12_atv kR_0 rfl rfl rfl (Nat.le_of_ble_eq_true rfl) dX12_linksIn_8 ⟨p1, p2, rfl, gp1, gp2, hF⟩ (fun r1 M2 gr1 qM2 => ?_)
  have hF := qM2 gr1
  refine j_iald hJ gr1 kR_40 hF.1 hF.2.1 dX12_linksIn_11 (fun v3 ev3 gv3 => ?_)
  have hF := hF.2.2 v3 ev3 gv3
  refine j_iload_n hJ dX12_linksIn_12 rfl 3 rfl ?_
  refine j_callVi hJ (c_X12_kindOf (l := l) (D := D) (cy := cy) (ad := ad) hin) rfl om_1093 ⟨rfl, rfl, Nat.le_of_ble_eq_true rfl, Nat.le_of_ble_eq_true rfl⟩ [.int (Ii v3), .int (Ii p3)] mv_X12_458 hd_X12_kindOfv kR_0 rfl rfl rfl (Nat.le_of_ble_eq_true rfl) dX12_linksIn_13 ⟨v3, p3, rfl, gv3, gp3, hF⟩ (fun r4 M5 gr4 qM5 => ?_)
  have hF := qM5 gr4
  refine j_iconst hJ dX12_linksIn_16 ?_
  refine j_icmp_ne hJ 24 gr4 rk_5 dX12_linksIn_17 (by decide) (fun z6 => ?_) (fun z6 => ?_)
  · have hF := hF.1 z6
    refine j_iconst hJ dX12_linksIn_24 ?_
    exact j_zret hJ rfl (by decide) dX12_linksIn_25 hF
  · have hF := hF.2 z6
    refine j_iconst hJ dX12_linksIn_20 ?_
    refine j_goto hJ 25 dX12_linksIn_21 (by decide) ?_
    exact j_zret hJ rfl (by decide) dX12_linksIn_25 hF
def W_X12_valueIn (ad : Nat → Nat) (Q : Int → MM → Prop) (av : List Value) (M : MM) : Prop := ∃ (p1 : Int) (p2 : Int) (p3 : Int), av = [.ref (ad 0), .int (Ii p1), .int (Ii p2), .int (Ii p3)] ∧ ri_ p1 ∧ ri_ p2 ∧ ri_ p3 ∧ w_X12_valueIn  Q p1 p2 p3 M
set_option maxHeartbeats 4000000 in
set_option maxRecDepth 100000 in
theorem c_X12_valueIn {l : Launch} {D : va_G} {cy : Nat → ClassId} {ad : Nat → Nat} (hin : jIn ad ksR.length) : jCN l D vwCl (tyR cy) cy ad ftR ksR (XtR ad) yX12_valueIn (.code yX12_valueIn cX12_valueIn 4 (some .long) :: Om) ({ frames := 1, cells := 0, slots := 0, locals := 22 } : Room) 2 (W_X12_valueIn ad) := by
  refine jCN_of (y := yX12_valueIn) (cc := cX12_valueIn) (nL := 4) (rk := 2) (rm := ({ frames := 1, cells := 0, slots := 0, locals := 22 } : Room)) (own := RX12) (tyR_ok cy) hin (XtR_ok ad) Om_good (by decide) rfl ?_
  intro Q av M hF
  obtain ⟨p1, p2, p3, rfl, gp1, gp2, gp3, hF⟩ := hF
  refine ⟨Nat.le_of_ble_eq_true rfl, fun J hJ => ?_⟩
  show J 0 [(0, .ref (ad 0)), (1, .int (Ii p1)), (2, .int (Ii p2)), (3, .int (Ii p3))] [] M
  unfold w_X12_valueIn at hF
  refine j_aload_n hJ dX12_valueIn_0 rfl 0 rfl ?_
  refine j_gr (e := 58) hJ kR_0 fR_15_68 fl_X12_243 dX12_valueIn_1 rfl ?_
  refine j_sipush hJ dX12_valueIn_4 (by decide) ?_
  refine j_iload_n hJ dX12_valueIn_7 rfl 1 rfl ?_
  refine j_imul hJ dX12_valueIn_8 ?_
  have g1 := hF.1; have hF := hF.2
  refine j_aload_n hJ dX12_valueIn_9 rfl 0 rfl ?_
  refine j_gr (e := 42) hJ kR_0 fR_15_52 fl_X12_195 dX12_valueIn_10 rfl ?_
  refine j_aload_n hJ dX12_valueIn_13 rfl 0 rfl ?_
  refine j_iload_n hJ dX12_valueIn_14 rfl 1 rfl ?_
  refine j_iload_n hJ dX12_valueIn_15 rfl 2 rfl ?_
  refine j_callVi hJ (c_X12_at (l := l) (D := D) (cy := cy) (ad := ad) hin) rfl om_1153 ⟨rfl, rfl, Nat.le_of_ble_eq_true rfl, Nat.le_of_ble_eq_true rfl⟩ [.int (Ii p1), .int (Ii p2)] mv_X12_545 hd_X12_atv kR_0 rfl rfl rfl (Nat.le_of_ble_eq_true rfl) dX12_valueIn_16 ⟨p1, p2, rfl, gp1, gp2, hF⟩ (fun r2 M3 gr2 qM3 => ?_)
  have hF := qM3 gr2
  refine j_iald hJ gr2 kR_42 hF.1 hF.2.1 dX12_valueIn_19 (fun v4 ev4 gv4 => ?_)
  have hF := hF.2.2 v4 ev4 gv4
  refine j_iadd hJ dX12_valueIn_20 ?_
  have g5 := hF.1; have hF := hF.2
  refine j_iload_n hJ dX12_valueIn_21 rfl 3 rfl ?_
  refine j_iadd hJ dX12_valueIn_22 ?_
  have g6 := hF.1; have hF := hF.2
  refine j_lald hJ g6 kR_58 hF.1 hF.2.1 dX12_valueIn_23 (fun v7 ev7 gv7 => ?_)
  have hF := hF.2.2 v7 ev7 gv7
  exact j_lret hJ rfl gv7 dX12_valueIn_24 hF
def W_X12_findWays (ad : Nat → Nat) (Q : Int → MM → Prop) (av : List Value) (M : MM) : Prop := ∃ (p1 : Int), av = [.ref (ad 0), .int (Ii p1)] ∧ ri_ p1 ∧ w_X12_findWays  Q p1 M
set_option maxHeartbeats 4000000 in
set_option maxRecDepth 100000 in
theorem k_X12_findWays_b248 {l : Launch} {D : va_G} {cy : Nat → ClassId} {ad : Nat → Nat} {Q : Int → MM → Prop} {J : Nat → List (Nat × Value) → List Value → MM → Prop} (hin : jIn ad ksR.length)   (hJ : jOk l D vwCl (tyR cy) cy ad ftR ksR (XtR ad) Om RX12 cX12_findWays 5 0 ({ frames := 3, cells := 0, slots := 0, locals := 70 } : Room) Q J) {K124 : Int → Int → MM → Prop} (hK124 : ∀ (x1 x2 : Int) (M : MM), ri_ x1 → ri_ x2 → K124 x1 x2 M → J 124 [(0, .ref (ad 0)), (1, .int (Ii x1)), (2, .int (Ii x2))] [] M) {K136 : Int → Int → Int → MM → Prop} (hK136 : ∀ (x1 x2 x3 : Int) (M : MM), ri_ x1 → ri_ x2 → ri_ x3 → K136 x1 x2 x3 M → J 136 [(0, .ref (ad 0)), (1, .int (Ii x1)), (2, .int (Ii x2)), (3, .int (Ii x3))] [] M) : ∀ (x1 x2 x3 : Int) (M : MM), ri_ x1 → ri_ x2 → ri_ x3 → w_X12_findWays_b248  Q K124 K136 x1 x2 x3 M → J 248 [(0, .ref (ad 0)), (1, .int (Ii x1)), (2, .int (Ii x2)), (3, .int (Ii x3))] [] M := by
  intro x1 x2 x3 M gx1 gx2 gx3 hF
  unfold w_X12_findWays_b248 at hF
  refine j_iinc (lv' := [(3, .int (Ii (x3 + 1))), (0, .ref (ad 0)), (1, .int (Ii x1)), (2, .int (Ii x2))]) (k := 3) hJ dX12_findWays_248 rfl (by decide) rfl ?_
  have g1 := hF.1; have hF := hF.2
  refine j_goto hJ 136 dX12_findWays_251 (by decide) ?_
  exact j_sub hJ [1, 2, 3, 0] rfl (hK136 x1 x2 (x3 + 1) _ gx1 gx2 g1 hF)
set_option maxHeartbeats 4000000 in
set_option maxRecDepth 100000 in
theorem k_X12_findWays_b168 {l : Launch} {D : va_G} {cy : Nat → ClassId} {ad : Nat → Nat} {Q : Int → MM → Prop} {J : Nat → List (Nat × Value) → List Value → MM → Prop} (hin : jIn ad ksR.length)   (hJ : jOk l D vwCl (tyR cy) cy ad ftR ksR (XtR ad) Om RX12 cX12_findWays 5 0 ({ frames := 3, cells := 0, slots := 0, locals := 70 } : Room) Q J) {K124 : Int → Int → MM → Prop} (hK124 : ∀ (x1 x2 : Int) (M : MM), ri_ x1 → ri_ x2 → K124 x1 x2 M → J 124 [(0, .ref (ad 0)), (1, .int (Ii x1)), (2, .int (Ii x2))] [] M) {K136 : Int → Int → Int → MM → Prop} (hK136 : ∀ (x1 x2 x3 : Int) (M : MM), ri_ x1 → ri_ x2 → ri_ x3 → K136 x1 x2 x3 M → J 136 [(0, .ref (ad 0)), (1, .int (Ii x1)), (2, .int (Ii x2)), (3, .int (Ii x3))] [] M) : ∀ (x1 x2 x3 s0 : Int) (M : MM), ri_ x1 → ri_ x2 → ri_ x3 → ri_ s0 → w_X12_findWays_b168  Q K124 K136 x1 x2 x3 s0 M → J 168 [(0, .ref (ad 0)), (1, .int (Ii x1)), (2, .int (Ii x2)), (3, .int (Ii x3))] [.int (Ii s0)] M := by
  intro x1 x2 x3 s0 M gx1 gx2 gx3 gs0 hF
  unfold w_X12_findWays_b168 at hF
  refine j_istore (lv' := [(4, .int (Ii s0)), (0, .ref (ad 0)), (1, .int (Ii x1)), (2, .int (Ii x2)), (3, .int (Ii x3))]) hJ dX12_findWays_168 (by decide) rfl ?_
  refine j_iload hJ dX12_findWays_170 0 rfl ?_
  refine j_iconst hJ dX12_findWays_172 ?_
  refine j_icmp_eq hJ 248 gs0 rk_m1 dX12_findWays_173 (by decide) (fun z1 => ?_) (fun z1 => ?_)
  · have hF := hF.1 z1
    exact j_sub hJ [1, 2, 3, 4] rfl (k_X12_findWays_b248 hin  hJ hK124 hK136 x1 x2 x3 _ gx1 gx2 gx3 hF)
  · have hF := hF.2 z1
    refine j_aload_n hJ dX12_findWays_176 rfl 1 rfl ?_
    refine j_gr (e := 60) hJ kR_0 fR_15_70 fl_X12_249 dX12_findWays_177 rfl ?_
    refine j_iload hJ dX12_findWays_180 0 rfl ?_
    refine j_zald hJ gs0 kR_60 hF.1 hF.2.1 dX12_findWays_182 (fun v2 ev2 gv2 => ?_)
    have hF := hF.2.2 v2 ev2 gv2
    refine j_if_eq hJ 189 (jz_ri gv2) dX12_findWays_183 (by decide) (fun z3 => ?_) (fun z3 => ?_)
    · have hF := hF.1 z3
      refine j_aload_n hJ dX12_findWays_189 rfl 1 rfl ?_
      refine j_gr (e := 60) hJ kR_0 fR_15_70 fl_X12_249 dX12_findWays_190 rfl ?_
      refine j_iload hJ dX12_findWays_193 0 rfl ?_
      refine j_iconst hJ dX12_findWays_195 ?_
      refine j_zast hJ gs0 (by decide) kR_60 hF.1 hF.2.1 dX12_findWays_196 (fun M4 eM4 => ?_)
      have hF := hF.2.2 M4 eM4
      refine j_aload_n hJ dX12_findWays_197 rfl 1 rfl ?_
      refine j_gr (e := 43) hJ kR_0 fR_15_53 fl_X12_198 dX12_findWays_198 rfl ?_
      refine j_aload_n hJ dX12_findWays_201 rfl 1 rfl ?_
      refine j_iload_n hJ dX12_findWays_202 rfl 2 rfl ?_
      refine j_iload hJ dX12_findWays_203 0 rfl ?_
      refine j_callVi hJ (c_X12_at (l := l) (D := D) (cy := cy) (ad := ad) hin) rfl om_1153 ⟨rfl, rfl, Nat.le_of_ble_eq_true rfl, Nat.le_of_ble_eq_true rfl⟩ [.int (Ii x1), .int (Ii s0)] mv_X12_545 hd_X12_atv kR_0 rfl rfl rfl (Nat.le_of_ble_eq_true rfl) dX12_findWays_205 ⟨x1, s0, rfl, gx1, gs0, hF⟩ (fun r5 M6 gr5 qM6 => ?_)
      have hF := qM6 gr5
      refine j_aload_n hJ dX12_findWays_208 rfl 1 rfl ?_
      refine j_gr (e := 43) hJ kR_0 fR_15_53 fl_X12_198 dX12_findWays_209 rfl ?_
      refine j_aload_n hJ dX12_findWays_212 rfl 1 rfl ?_
      refine j_iload_n hJ dX12_findWays_213 rfl 2 rfl ?_
      refine j_iload_n hJ dX12_findWays_214 rfl 3 rfl ?_
      refine j_callVi hJ (c_X12_at (l := l) (D := D) (cy := cy) (ad := ad) hin) rfl om_1153 ⟨rfl, rfl, Nat.le_of_ble_eq_true rfl, Nat.le_of_ble_eq_true rfl⟩ [.int (Ii x1), .int (Ii x2)] mv_X12_545 hd_X12_atv kR_0 rfl rfl rfl (Nat.le_of_ble_eq_true rfl) dX12_findWays_215 ⟨x1, x2, rfl, gx1, gx2, hF⟩ (fun r7 M8 gr7 qM8 => ?_)
      have hF := qM8 gr7
      refine j_iald hJ gr7 kR_43 hF.1 hF.2.1 dX12_findWays_218 (fun v9 ev9 gv9 => ?_)
      have hF := hF.2.2 v9 ev9 gv9
      refine j_iconst hJ dX12_findWays_219 ?_
      refine j_iadd hJ dX12_findWays_220 ?_
      have g10 := hF.1; have hF := hF.2
      refine j_iast hJ gr5 g10 kR_43 hF.1 hF.2.1 dX12_findWays_221 (fun M11 eM11 => ?_)
      have hF := hF.2.2 M11 eM11
      refine j_aload_n hJ dX12_findWays_222 rfl 1 rfl ?_
      refine j_gr (e := 44) hJ kR_0 fR_15_54 fl_X12_201 dX12_findWays_223 rfl ?_
      refine j_aload_n hJ dX12_findWays_226 rfl 1 rfl ?_
      refine j_iload_n hJ dX12_findWays_227 rfl 2 rfl ?_
      refine j_iload hJ dX12_findWays_228 0 rfl ?_
      refine j_callVi hJ (c_X12_at (l := l) (D := D) (cy := cy) (ad := ad) hin) rfl om_1153 ⟨rfl, rfl, Nat.le_of_ble_eq_true rfl, Nat.le_of_ble_eq_true rfl⟩ [.int (Ii x1), .int (Ii s0)] mv_X12_545 hd_X12_atv kR_0 rfl rfl rfl (Nat.le_of_ble_eq_true rfl) dX12_findWays_230 ⟨x1, s0, rfl, gx1, gs0, hF⟩ (fun r12 M13 gr12 qM13 => ?_)
      have hF := qM13 gr12
      refine j_iload_n hJ dX12_findWays_233 rfl 3 rfl ?_
      refine j_iast hJ gr12 gx2 kR_44 hF.1 hF.2.1 dX12_findWays_234 (fun M14 eM14 => ?_)
      have hF := hF.2.2 M14 eM14
      refine j_aload_n hJ dX12_findWays_235 rfl 1 rfl ?_
      refine j_gr (e := 45) hJ kR_0 fR_15_55 fl_X12_204 dX12_findWays_236 rfl ?_
      refine j_aload_n hJ dX12_findWays_239 rfl 1 rfl ?_
      refine j_iload_n hJ dX12_findWays_240 rfl 2 rfl ?_
      refine j_iload hJ dX12_findWays_241 0 rfl ?_
      refine j_callVi hJ (c_X12_at (l := l) (D := D) (cy := cy) (ad := ad) hin) rfl om_1153 ⟨rfl, rfl, Nat.le_of_ble_eq_true rfl, Nat.le_of_ble_eq_true rfl⟩ [.int (Ii x1), .int (Ii s0)] mv_X12_545 hd_X12_atv kR_0 rfl rfl rfl (Nat.le_of_ble_eq_true rfl) dX12_findWays_243 ⟨x1, s0, rfl, gx1, gs0, hF⟩ (fun r15 M16 gr15 qM16 => ?_)
      have hF := qM16 gr15
      refine j_iload_n hJ dX12_findWays_246 rfl 4 rfl ?_
      refine j_iast hJ gr15 gx3 kR_45 hF.1 hF.2.1 dX12_findWays_247 (fun M17 eM17 => ?_)
      have hF := hF.2.2 M17 eM17
      exact j_sub hJ [1, 2, 3, 4] rfl (k_X12_findWays_b248 hin  hJ hK124 hK136 x1 x2 x3 _ gx1 gx2 gx3 hF)
    · have hF := hF.2 z3
      refine j_goto hJ 248 dX12_findWays_186 (by decide) ?_
      exact j_sub hJ [1, 2, 3, 4] rfl (k_X12_findWays_b248 hin  hJ hK124 hK136 x1 x2 x3 _ gx1 gx2 gx3 hF)
set_option maxHeartbeats 4000000 in
set_option maxRecDepth 100000 in
theorem k_X12_findWays_b136 {l : Launch} {D : va_G} {cy : Nat → ClassId} {ad : Nat → Nat} {Q : Int → MM → Prop} {J : Nat → List (Nat × Value) → List Value → MM → Prop} (hin : jIn ad ksR.length)   (hJ : jOk l D vwCl (tyR cy) cy ad ftR ksR (XtR ad) Om RX12 cX12_findWays 5 0 ({ frames := 3, cells := 0, slots := 0, locals := 70 } : Room) Q J) {K124 : Int → Int → MM → Prop} (hK124 : ∀ (x1 x2 : Int) (M : MM), ri_ x1 → ri_ x2 → K124 x1 x2 M → J 124 [(0, .ref (ad 0)), (1, .int (Ii x1)), (2, .int (Ii x2))] [] M) : ∀ (x1 x2 x3 : Int) (M : MM), ri_ x1 → ri_ x2 → ri_ x3 → w_X12_findWays_b136  Q K124 x1 x2 x3 M → J 136 [(0, .ref (ad 0)), (1, .int (Ii x1)), (2, .int (Ii x2)), (3, .int (Ii x3))] [] M := by
  have H9 : ∀ (n : Nat) (x1 x2 x3 : Int) (M : MM), ri_ x1 → ri_ x2 → ri_ x3 → jit (fun _ _ _ _ => False) (wb_X12_findWays_b136  Q K124) n x1 x2 x3 M → J 136 [(0, .ref (ad 0)), (1, .int (Ii x1)), (2, .int (Ii x2)), (3, .int (Ii x3))] [] M := by
    intro n
    induction n with
    | zero => intro x1 x2 x3 M gx1 gx2 gx3 hF; exact False.elim hF
    | succ n ih =>
    intro x1 x2 x3 M gx1 gx2 gx3 hF
    have hF : wb_X12_findWays_b136  Q K124 (jit (fun _ _ _ _ => False) (wb_X12_findWays_b136  Q K124) n) x1 x2 x3 M := hF
    unfold wb_X12_findWays_b136 at hF
    refine j_iload_n hJ dX12_findWays_136 rfl 3 rfl ?_
    refine j_aload_n hJ dX12_findWays_137 rfl 0 rfl ?_
    refine j_iload_n hJ dX12_findWays_138 rfl 1 rfl ?_
    refine j_iload_n hJ dX12_findWays_139 rfl 2 rfl ?_
    refine j_callVi hJ (c_X12_slotsIn (l := l) (D := D) (cy := cy) (ad := ad) hin) rfl om_1165 ⟨rfl, rfl, Nat.le_of_ble_eq_true rfl, Nat.le_of_ble_eq_true rfl⟩ [.int (Ii x1), .int (Ii x2)] mv_X12_570 hd_X12_slotsInv kR_0 rfl rfl rfl (Nat.le_of_ble_eq_true rfl) dX12_findWays_140 ⟨x1, x2, rfl, gx1, gx2, hF⟩ (fun r1 M2 gr1 qM2 => ?_)
    have hF := qM2 gr1
    refine j_icmp_ge hJ 254 gx3 gr1 dX12_findWays_143 (by decide) (fun z3 => ?_) (fun z3 => ?_)
    · have hF := hF.1 z3
      refine j_iinc (lv' := [(2, .int (Ii (x2 + 1))), (0, .ref (ad 0)), (1, .int (Ii x1)), (3, .int (Ii x3))]) (k := 2) hJ dX12_findWays_254 rfl (by decide) rfl ?_
      have g4 := hF.1; have hF := hF.2
      refine j_goto hJ 124 dX12_findWays_257 (by decide) ?_
      exact j_sub hJ [1, 2, 0] rfl (hK124 x1 (x2 + 1) _ gx1 g4 hF)
    · have hF := hF.2 z3
      refine j_aload_n hJ dX12_findWays_146 rfl 0 rfl ?_
      refine j_iload_n hJ dX12_findWays_147 rfl 1 rfl ?_
      refine j_iload_n hJ dX12_findWays_148 rfl 2 rfl ?_
      refine j_iload_n hJ dX12_findWays_149 rfl 3 rfl ?_
      refine j_callVz hJ (c_X12_linksIn (l := l) (D := D) (cy := cy) (ad := ad) hin) rfl om_1169 ⟨rfl, rfl, Nat.le_of_ble_eq_true rfl, Nat.le_of_ble_eq_true rfl⟩ [.int (Ii x1), .int (Ii x2), .int (Ii x3)] mv_X12_573 hd_X12_linksInv kR_0 rfl rfl rfl (Nat.le_of_ble_eq_true rfl) dX12_findWays_150 ⟨x1, x2, x3, rfl, gx1, gx2, gx3, hF⟩ (fun r5 M6 gr5 qM6 => ?_)
      have hF := qM6 gr5
      refine j_if_eq hJ 167 (jz_ri gr5) dX12_findWays_153 (by decide) (fun z7 => ?_) (fun z7 => ?_)
      · have hF := hF.1 z7
        refine j_iconst hJ dX12_findWays_167 ?_
        exact j_sub hJ [0, 1, 2, 3] rfl (k_X12_findWays_b168 hin  hJ hK124 ih x1 x2 x3 (-1) _ gx1 gx2 gx3 rk_m1 hF)
      · have hF := hF.2 z7
        refine j_aload_n hJ dX12_findWays_156 rfl 0 rfl ?_
        refine j_iload_n hJ dX12_findWays_157 rfl 1 rfl ?_
        refine j_iload_n hJ dX12_findWays_158 rfl 2 rfl ?_
        refine j_iload_n hJ dX12_findWays_159 rfl 3 rfl ?_
        refine j_callVl hJ (c_X12_valueIn (l := l) (D := D) (cy := cy) (ad := ad) hin) rfl om_1173 ⟨rfl, rfl, Nat.le_of_ble_eq_true rfl, Nat.le_of_ble_eq_true rfl⟩ [.int (Ii x1), .int (Ii x2), .int (Ii x3)] mv_X12_577 hd_X12_valueInv kR_0 rfl rfl rfl (Nat.le_of_ble_eq_true rfl) dX12_findWays_160 ⟨x1, x2, x3, rfl, gx1, gx2, gx3, hF⟩ (fun r8 M9 gr8 qM9 => ?_)
        have hF := qM9 gr8
        refine j_l2i hJ dX12_findWays_163 ?_
        have g10 := hF.1; have hF := hF.2
        refine j_goto hJ 168 dX12_findWays_164 (by decide) ?_
        exact j_sub hJ [0, 1, 2, 3] rfl (k_X12_findWays_b168 hin  hJ hK124 ih x1 x2 x3 r8 _ gx1 gx2 gx3 g10 hF)
  intro x1 x2 x3 M gx1 gx2 gx3 hF
  obtain ⟨n, hF⟩ := hF
  exact H9 n x1 x2 x3 M gx1 gx2 gx3 hF
set_option maxHeartbeats 4000000 in
set_option maxRecDepth 100000 in
theorem k_X12_findWays_b124 {l : Launch} {D : va_G} {cy : Nat → ClassId} {ad : Nat → Nat} {Q : Int → MM → Prop} {J : Nat → List (Nat × Value) → List Value → MM → Prop} (hin : jIn ad ksR.length)   (hJ : jOk l D vwCl (tyR cy) cy ad ftR ksR (XtR ad) Om RX12 cX12_findWays 5 0 ({ frames := 3, cells := 0, slots := 0, locals := 70 } : Room) Q J)  : ∀ (x1 x2 : Int) (M : MM), ri_ x1 → ri_ x2 → w_X12_findWays_b124  Q  x1 x2 M → J 124 [(0, .ref (ad 0)), (1, .int (Ii x1)), (2, .int (Ii x2))] [] M := by
  have H9 : ∀ (n : Nat) (x1 x2 : Int) (M : MM), ri_ x1 → ri_ x2 → jit (fun _ _ _ => False) (wb_X12_findWays_b124  Q ) n x1 x2 M → J 124 [(0, .ref (ad 0)), (1, .int (Ii x1)), (2, .int (Ii x2))] [] M := by
    intro n
    induction n with
    | zero => intro x1 x2 M gx1 gx2 hF; exact False.elim hF
    | succ n ih =>
    intro x1 x2 M gx1 gx2 hF
    have hF : wb_X12_findWays_b124  Q  (jit (fun _ _ _ => False) (wb_X12_findWays_b124  Q ) n) x1 x2 M := hF
    unfold wb_X12_findWays_b124 at hF
    refine j_iload_n hJ dX12_findWays_124 rfl 2 rfl ?_
    refine j_aload_n hJ dX12_findWays_125 rfl 0 rfl ?_
    refine j_gr (e := 38) hJ kR_0 fR_15_48 fl_X12_183 dX12_findWays_126 rfl ?_
    refine j_iload_n hJ dX12_findWays_129 rfl 1 rfl ?_
    refine j_iald hJ gx1 kR_38 hF.1 hF.2.1 dX12_findWays_130 (fun v1 ev1 gv1 => ?_)
    have hF := hF.2.2 v1 ev1 gv1
    refine j_icmp_ge hJ 260 gx2 gv1 dX12_findWays_131 (by decide) (fun z2 => ?_) (fun z2 => ?_)
    · have hF := hF.1 z2
      exact j_vret hJ rfl dX12_findWays_260 hF
    · have hF := hF.2 z2
      refine j_iconst hJ dX12_findWays_134 ?_
      refine j_istore_n (lv' := [(3, .int (Ii 0)), (0, .ref (ad 0)), (1, .int (Ii x1)), (2, .int (Ii x2))]) hJ dX12_findWays_135 rfl (by decide) rfl ?_
      exact j_sub hJ [1, 2, 3, 0] rfl (k_X12_findWays_b136 hin  hJ ih x1 x2 0 _ gx1 gx2 rk_0 hF)
  intro x1 x2 M gx1 gx2 hF
  obtain ⟨n, hF⟩ := hF
  exact H9 n x1 x2 M gx1 gx2 hF
set_option maxHeartbeats 4000000 in
set_option maxRecDepth 100000 in
theorem k_X12_findWays_b116 {l : Launch} {D : va_G} {cy : Nat → ClassId} {ad : Nat → Nat} {Q : Int → MM → Prop} {J : Nat → List (Nat × Value) → List Value → MM → Prop} (hin : jIn ad ksR.length)   (hJ : jOk l D vwCl (tyR cy) cy ad ftR ksR (XtR ad) Om RX12 cX12_findWays 5 0 ({ frames := 3, cells := 0, slots := 0, locals := 70 } : Room) Q J) {K27 : Int → Int → MM → Prop} (hK27 : ∀ (x1 x2 : Int) (M : MM), ri_ x1 → ri_ x2 → K27 x1 x2 M → J 27 [(0, .ref (ad 0)), (1, .int (Ii x1)), (2, .int (Ii x2))] [] M) : ∀ (x1 x2 : Int) (M : MM), ri_ x1 → ri_ x2 → w_X12_findWays_b116  Q K27 x1 x2 M → J 116 [(0, .ref (ad 0)), (1, .int (Ii x1)), (2, .int (Ii x2))] [] M := by
  intro x1 x2 M gx1 gx2 hF
  unfold w_X12_findWays_b116 at hF
  refine j_iinc (lv' := [(2, .int (Ii (x2 + 1))), (0, .ref (ad 0)), (1, .int (Ii x1))]) (k := 2) hJ dX12_findWays_116 rfl (by decide) rfl ?_
  have g1 := hF.1; have hF := hF.2
  refine j_goto hJ 27 dX12_findWays_119 (by decide) ?_
  exact j_sub hJ [1, 2, 0] rfl (hK27 x1 (x2 + 1) _ gx1 g1 hF)
set_option maxHeartbeats 4000000 in
set_option maxRecDepth 100000 in
theorem k_X12_findWays_b27 {l : Launch} {D : va_G} {cy : Nat → ClassId} {ad : Nat → Nat} {Q : Int → MM → Prop} {J : Nat → List (Nat × Value) → List Value → MM → Prop} (hin : jIn ad ksR.length)   (hJ : jOk l D vwCl (tyR cy) cy ad ftR ksR (XtR ad) Om RX12 cX12_findWays 5 0 ({ frames := 3, cells := 0, slots := 0, locals := 70 } : Room) Q J)  : ∀ (x1 x2 : Int) (M : MM), ri_ x1 → ri_ x2 → w_X12_findWays_b27  Q  x1 x2 M → J 27 [(0, .ref (ad 0)), (1, .int (Ii x1)), (2, .int (Ii x2))] [] M := by
  have H9 : ∀ (n : Nat) (x1 x2 : Int) (M : MM), ri_ x1 → ri_ x2 → jit (fun _ _ _ => False) (wb_X12_findWays_b27  Q ) n x1 x2 M → J 27 [(0, .ref (ad 0)), (1, .int (Ii x1)), (2, .int (Ii x2))] [] M := by
    intro n
    induction n with
    | zero => intro x1 x2 M gx1 gx2 hF; exact False.elim hF
    | succ n ih =>
    intro x1 x2 M gx1 gx2 hF
    have hF : wb_X12_findWays_b27  Q  (jit (fun _ _ _ => False) (wb_X12_findWays_b27  Q ) n) x1 x2 M := hF
    unfold wb_X12_findWays_b27 at hF
    refine j_iload_n hJ dX12_findWays_27 rfl 2 rfl ?_
    refine j_aload_n hJ dX12_findWays_28 rfl 0 rfl ?_
    refine j_gr (e := 55) hJ kR_0 fR_15_65 fl_X12_234 dX12_findWays_29 rfl ?_
    refine j_iload_n hJ dX12_findWays_32 rfl 1 rfl ?_
    refine j_iald hJ gx1 kR_55 hF.1 hF.2.1 dX12_findWays_33 (fun v1 ev1 gv1 => ?_)
    have hF := hF.2.2 v1 ev1 gv1
    refine j_icmp_ge hJ 122 gx2 gv1 dX12_findWays_34 (by decide) (fun z2 => ?_) (fun z2 => ?_)
    · have hF := hF.1 z2
      refine j_iconst hJ dX12_findWays_122 ?_
      refine j_istore_n (lv' := [(2, .int (Ii 0)), (0, .ref (ad 0)), (1, .int (Ii x1))]) hJ dX12_findWays_123 rfl (by decide) rfl ?_
      exact j_sub hJ [1, 2, 0] rfl (k_X12_findWays_b124 hin  hJ  x1 0 _ gx1 rk_0 hF)
    · have hF := hF.2 z2
      refine j_aload_n hJ dX12_findWays_37 rfl 0 rfl ?_
      refine j_gr (e := 57) hJ kR_0 fR_15_67 fl_X12_240 dX12_findWays_38 rfl ?_
      refine j_sipush hJ dX12_findWays_41 (by decide) ?_
      refine j_iload_n hJ dX12_findWays_44 rfl 1 rfl ?_
      refine j_imul hJ dX12_findWays_45 ?_
      have g3 := hF.1; have hF := hF.2
      refine j_iload_n hJ dX12_findWays_46 rfl 2 rfl ?_
      refine j_iadd hJ dX12_findWays_47 ?_
      have g4 := hF.1; have hF := hF.2
      refine j_iald hJ g4 kR_57 hF.1 hF.2.1 dX12_findWays_48 (fun v5 ev5 gv5 => ?_)
      have hF := hF.2.2 v5 ev5 gv5
      refine j_istore_n (lv' := [(3, .int (Ii v5)), (0, .ref (ad 0)), (1, .int (Ii x1)), (2, .int (Ii x2))]) hJ dX12_findWays_49 rfl (by decide) rfl ?_
      refine j_aload_n hJ dX12_findWays_50 rfl 1 rfl ?_
      refine j_gr (e := 60) hJ kR_0 fR_15_70 fl_X12_249 dX12_findWays_51 rfl ?_
      refine j_iload_n hJ dX12_findWays_54 rfl 0 rfl ?_
      refine j_zald hJ gv5 kR_60 hF.1 hF.2.1 dX12_findWays_55 (fun v6 ev6 gv6 => ?_)
      have hF := hF.2.2 v6 ev6 gv6
      refine j_if_eq hJ 62 (jz_ri gv6) dX12_findWays_56 (by decide) (fun z7 => ?_) (fun z7 => ?_)
      · have hF := hF.1 z7
        refine j_aload_n hJ dX12_findWays_62 rfl 1 rfl ?_
        refine j_gr (e := 60) hJ kR_0 fR_15_70 fl_X12_249 dX12_findWays_63 rfl ?_
        refine j_iload_n hJ dX12_findWays_66 rfl 0 rfl ?_
        refine j_iconst hJ dX12_findWays_67 ?_
        refine j_zast hJ gv5 (by decide) kR_60 hF.1 hF.2.1 dX12_findWays_68 (fun M8 eM8 => ?_)
        have hF := hF.2.2 M8 eM8
        refine j_aload_n hJ dX12_findWays_69 rfl 1 rfl ?_
        refine j_gr (e := 43) hJ kR_0 fR_15_53 fl_X12_198 dX12_findWays_70 rfl ?_
        refine j_aload_n hJ dX12_findWays_73 rfl 1 rfl ?_
        refine j_iload_n hJ dX12_findWays_74 rfl 2 rfl ?_
        refine j_iload_n hJ dX12_findWays_75 rfl 0 rfl ?_
        refine j_callVi hJ (c_X12_at (l := l) (D := D) (cy := cy) (ad := ad) hin) rfl om_1153 ⟨rfl, rfl, Nat.le_of_ble_eq_true rfl, Nat.le_of_ble_eq_true rfl⟩ [.int (Ii x1), .int (Ii v5)] mv_X12_545 hd_X12_atv kR_0 rfl rfl rfl (Nat.le_of_ble_eq_true rfl) dX12_findWays_76 ⟨x1, v5, rfl, gx1, gv5, hF⟩ (fun r9 M10 gr9 qM10 => ?_)
        have hF := qM10 gr9
        refine j_iconst hJ dX12_findWays_79 ?_
        refine j_iast hJ gr9 rk_0 kR_43 hF.1 hF.2.1 dX12_findWays_80 (fun M11 eM11 => ?_)
        have hF := hF.2.2 M11 eM11
        refine j_aload_n hJ dX12_findWays_81 rfl 1 rfl ?_
        refine j_gr (e := 44) hJ kR_0 fR_15_54 fl_X12_201 dX12_findWays_82 rfl ?_
        refine j_aload_n hJ dX12_findWays_85 rfl 1 rfl ?_
        refine j_iload_n hJ dX12_findWays_86 rfl 2 rfl ?_
        refine j_iload_n hJ dX12_findWays_87 rfl 0 rfl ?_
        refine j_callVi hJ (c_X12_at (l := l) (D := D) (cy := cy) (ad := ad) hin) rfl om_1153 ⟨rfl, rfl, Nat.le_of_ble_eq_true rfl, Nat.le_of_ble_eq_true rfl⟩ [.int (Ii x1), .int (Ii v5)] mv_X12_545 hd_X12_atv kR_0 rfl rfl rfl (Nat.le_of_ble_eq_true rfl) dX12_findWays_88 ⟨x1, v5, rfl, gx1, gv5, hF⟩ (fun r12 M13 gr12 qM13 => ?_)
        have hF := qM13 gr12
        refine j_iconst hJ dX12_findWays_91 ?_
        refine j_iast hJ gr12 rk_m1 kR_44 hF.1 hF.2.1 dX12_findWays_92 (fun M14 eM14 => ?_)
        have hF := hF.2.2 M14 eM14
        refine j_aload_n hJ dX12_findWays_93 rfl 1 rfl ?_
        refine j_gr (e := 45) hJ kR_0 fR_15_55 fl_X12_204 dX12_findWays_94 rfl ?_
        refine j_aload_n hJ dX12_findWays_97 rfl 1 rfl ?_
        refine j_iload_n hJ dX12_findWays_98 rfl 2 rfl ?_
        refine j_iload_n hJ dX12_findWays_99 rfl 0 rfl ?_
        refine j_callVi hJ (c_X12_at (l := l) (D := D) (cy := cy) (ad := ad) hin) rfl om_1153 ⟨rfl, rfl, Nat.le_of_ble_eq_true rfl, Nat.le_of_ble_eq_true rfl⟩ [.int (Ii x1), .int (Ii v5)] mv_X12_545 hd_X12_atv kR_0 rfl rfl rfl (Nat.le_of_ble_eq_true rfl) dX12_findWays_100 ⟨x1, v5, rfl, gx1, gv5, hF⟩ (fun r15 M16 gr15 qM16 => ?_)
        have hF := qM16 gr15
        refine j_aload_n hJ dX12_findWays_103 rfl 1 rfl ?_
        refine j_gr (e := 56) hJ kR_0 fR_15_66 fl_X12_237 dX12_findWays_104 rfl ?_
        refine j_sipush hJ dX12_findWays_107 (by decide) ?_
        refine j_iload_n hJ dX12_findWays_110 rfl 2 rfl ?_
        refine j_imul hJ dX12_findWays_111 ?_
        have g17 := hF.1; have hF := hF.2
        refine j_iload_n hJ dX12_findWays_112 rfl 3 rfl ?_
        refine j_iadd hJ dX12_findWays_113 ?_
        have g18 := hF.1; have hF := hF.2
        refine j_iald hJ g18 kR_56 hF.1 hF.2.1 dX12_findWays_114 (fun v19 ev19 gv19 => ?_)
        have hF := hF.2.2 v19 ev19 gv19
        refine j_iast hJ gr15 gv19 kR_45 hF.1 hF.2.1 dX12_findWays_115 (fun M20 eM20 => ?_)
        have hF := hF.2.2 M20 eM20
        exact j_sub hJ [1, 2, 3] rfl (k_X12_findWays_b116 hin  hJ ih x1 x2 _ gx1 gx2 hF)
      · have hF := hF.2 z7
        refine j_goto hJ 116 dX12_findWays_59 (by decide) ?_
        exact j_sub hJ [1, 2, 3] rfl (k_X12_findWays_b116 hin  hJ ih x1 x2 _ gx1 gx2 hF)
  intro x1 x2 M gx1 gx2 hF
  obtain ⟨n, hF⟩ := hF
  exact H9 n x1 x2 M gx1 gx2 hF
set_option maxHeartbeats 4000000 in
set_option maxRecDepth 100000 in
theorem k_X12_findWays_b2 {l : Launch} {D : va_G} {cy : Nat → ClassId} {ad : Nat → Nat} {Q : Int → MM → Prop} {J : Nat → List (Nat × Value) → List Value → MM → Prop} (hin : jIn ad ksR.length)   (hJ : jOk l D vwCl (tyR cy) cy ad ftR ksR (XtR ad) Om RX12 cX12_findWays 5 0 ({ frames := 3, cells := 0, slots := 0, locals := 70 } : Room) Q J)  : ∀ (x1 x2 : Int) (M : MM), ri_ x1 → ri_ x2 → w_X12_findWays_b2  Q  x1 x2 M → J 2 [(0, .ref (ad 0)), (1, .int (Ii x1)), (2, .int (Ii x2))] [] M := by
  have H9 : ∀ (n : Nat) (x1 x2 : Int) (M : MM), ri_ x1 → ri_ x2 → jit (fun _ _ _ => False) (wb_X12_findWays_b2  Q ) n x1 x2 M → J 2 [(0, .ref (ad 0)), (1, .int (Ii x1)), (2, .int (Ii x2))] [] M := by
    intro n
    induction n with
    | zero => intro x1 x2 M gx1 gx2 hF; exact False.elim hF
    | succ n ih =>
    intro x1 x2 M gx1 gx2 hF
    have hF : wb_X12_findWays_b2  Q  (jit (fun _ _ _ => False) (wb_X12_findWays_b2  Q ) n) x1 x2 M := hF
    unfold wb_X12_findWays_b2 at hF
    refine j_iload_n hJ dX12_findWays_2 rfl 2 rfl ?_
    refine j_aload_n hJ dX12_findWays_3 rfl 0 rfl ?_
    refine j_gr (e := 38) hJ kR_0 fR_15_48 fl_X12_183 dX12_findWays_4 rfl ?_
    refine j_iload_n hJ dX12_findWays_7 rfl 1 rfl ?_
    refine j_iald hJ gx1 kR_38 hF.1 hF.2.1 dX12_findWays_8 (fun v1 ev1 gv1 => ?_)
    have hF := hF.2.2 v1 ev1 gv1
    refine j_icmp_ge hJ 25 gx2 gv1 dX12_findWays_9 (by decide) (fun z2 => ?_) (fun z2 => ?_)
    · have hF := hF.1 z2
      refine j_iconst hJ dX12_findWays_25 ?_
      refine j_istore_n (lv' := [(2, .int (Ii 0)), (0, .ref (ad 0)), (1, .int (Ii x1))]) hJ dX12_findWays_26 rfl (by decide) rfl ?_
      exact j_sub hJ [1, 2, 0] rfl (k_X12_findWays_b27 hin  hJ  x1 0 _ gx1 rk_0 hF)
    · have hF := hF.2 z2
      refine j_aload_n hJ dX12_findWays_12 rfl 0 rfl ?_
      refine j_gr (e := 60) hJ kR_0 fR_15_70 fl_X12_249 dX12_findWays_13 rfl ?_
      refine j_iload_n hJ dX12_findWays_16 rfl 2 rfl ?_
      refine j_iconst hJ dX12_findWays_17 ?_
      refine j_zast hJ gx2 (by decide) kR_60 hF.1 hF.2.1 dX12_findWays_18 (fun M3 eM3 => ?_)
      have hF := hF.2.2 M3 eM3
      refine j_iinc (lv' := [(2, .int (Ii (x2 + 1))), (0, .ref (ad 0)), (1, .int (Ii x1))]) (k := 2) hJ dX12_findWays_19 rfl (by decide) rfl ?_
      have g4 := hF.1; have hF := hF.2
      refine j_goto hJ 2 dX12_findWays_22 (by decide) ?_
      exact j_sub hJ [1, 2, 0] rfl (ih x1 (x2 + 1) _ gx1 g4 hF)
  intro x1 x2 M gx1 gx2 hF
  obtain ⟨n, hF⟩ := hF
  exact H9 n x1 x2 M gx1 gx2 hF
set_option maxHeartbeats 4000000 in
set_option maxRecDepth 100000 in
theorem c_X12_findWays {l : Launch} {D : va_G} {cy : Nat → ClassId} {ad : Nat → Nat} (hin : jIn ad ksR.length) : jCN l D vwCl (tyR cy) cy ad ftR ksR (XtR ad) yX12_findWays (.code yX12_findWays cX12_findWays 5 none :: Om) ({ frames := 3, cells := 0, slots := 0, locals := 70 } : Room) 0 (W_X12_findWays ad) := by
  refine jCN_of (y := yX12_findWays) (cc := cX12_findWays) (nL := 5) (rk := 0) (rm := ({ frames := 3, cells := 0, slots := 0, locals := 70 } : Room)) (own := RX12) (tyR_ok cy) hin (XtR_ok ad) Om_good (by decide) rfl ?_
  intro Q av M hF
  obtain ⟨p1, rfl, gp1, hF⟩ := hF
  refine ⟨Nat.le_of_ble_eq_true rfl, fun J hJ => ?_⟩
  show J 0 [(0, .ref (ad 0)), (1, .int (Ii p1))] [] M
  unfold w_X12_findWays at hF
  refine j_iconst hJ dX12_findWays_0 ?_
  refine j_istore_n (lv' := [(2, .int (Ii 0)), (0, .ref (ad 0)), (1, .int (Ii p1))]) hJ dX12_findWays_1 rfl (by decide) rfl ?_
  exact j_sub hJ [1, 2, 0] rfl (k_X12_findWays_b2 hin  hJ  p1 0 _ gp1 rk_0 hF)
def W_X12_visit (ad : Nat → Nat) (Q : Int → MM → Prop) (av : List Value) (M : MM) : Prop := ∃ (p1 : Int) (p2 : Int) (p3 : Int) (p4 : Int), av = [.ref (ad 0), .int (Ii p1), .int (Ii p2), .int (Ii p3), .int (Ii p4)] ∧ ri_ p1 ∧ ri_ p2 ∧ ri_ p3 ∧ (p4 = 0 ∨ p4 = 1) ∧ w_X12_visit  Q p1 p2 p3 p4 M
set_option maxHeartbeats 4000000 in
set_option maxRecDepth 100000 in
theorem k_X12_visit_b34 {l : Launch} {D : va_G} {cy : Nat → ClassId} {ad : Nat → Nat} {Q : Int → MM → Prop} {J : Nat → List (Nat × Value) → List Value → MM → Prop} (hin : jIn ad ksR.length)   (hJ : jOk l D vwCl (tyR cy) cy ad ftR ksR (XtR ad) Om RX12 cX12_visit 5 0 ({ frames := 1, cells := 0, slots := 0, locals := 22 } : Room) Q J)  : ∀ (x2 : Int) (M : MM), ri_ x2 → w_X12_visit_b34  Q  x2 M → J 34 [(0, .ref (ad 0)), (2, .int (Ii x2))] [] M := by
  intro x2 M gx2 hF
  unfold w_X12_visit_b34 at hF
  refine j_aload_n hJ dX12_visit_34 rfl 0 rfl ?_
  refine j_gr (e := 60) hJ kR_0 fR_15_70 fl_X12_249 dX12_visit_35 rfl ?_
  refine j_iload_n hJ dX12_visit_38 rfl 1 rfl ?_
  refine j_iconst hJ dX12_visit_39 ?_
  refine j_zast hJ gx2 (by decide) kR_60 hF.1 hF.2.1 dX12_visit_40 (fun M1 eM1 => ?_)
  have hF := hF.2.2 M1 eM1
  refine j_aload_n hJ dX12_visit_41 rfl 0 rfl ?_
  refine j_gr (e := 62) hJ kR_0 fR_15_72 fl_X12_256 dX12_visit_42 rfl ?_
  refine j_aload_n hJ dX12_visit_45 rfl 0 rfl ?_
  refine j_gi hJ kR_0 fR_15_73 rfl fl_X12_581 dX12_visit_46 (fun v2 ev2 gv2 => ?_)
  have hF := hF v2 ev2 gv2
  refine j_iload_n hJ dX12_visit_49 rfl 1 rfl ?_
  refine j_iast hJ gv2 gx2 kR_62 hF.1 hF.2.1 dX12_visit_50 (fun M3 eM3 => ?_)
  have hF := hF.2.2 M3 eM3
  refine j_aload_n hJ dX12_visit_51 rfl 0 rfl ?_
  refine j_dup hJ dX12_visit_52 rfl ?_
  refine j_gi hJ kR_0 fR_15_73 rfl fl_X12_581 dX12_visit_53 (fun v4 ev4 gv4 => ?_)
  have hF := hF v4 ev4 gv4
  refine j_iconst hJ dX12_visit_56 ?_
  refine j_iadd hJ dX12_visit_57 ?_
  have g5 := hF.1; have hF := hF.2
  refine j_pi hJ g5 kR_0 fR_15_73 rfl fp_X12_581 dX12_visit_58 (fun M6 eM6 => ?_)
  have hF := hF M6 eM6
  exact j_vret hJ rfl dX12_visit_61 hF
set_option maxHeartbeats 4000000 in
set_option maxRecDepth 100000 in
theorem c_X12_visit {l : Launch} {D : va_G} {cy : Nat → ClassId} {ad : Nat → Nat} (hin : jIn ad ksR.length) : jCN l D vwCl (tyR cy) cy ad ftR ksR (XtR ad) yX12_visit (.code yX12_visit cX12_visit 5 none :: Om) ({ frames := 1, cells := 0, slots := 0, locals := 22 } : Room) 0 (W_X12_visit ad) := by
  refine jCN_of (y := yX12_visit) (cc := cX12_visit) (nL := 5) (rk := 0) (rm := ({ frames := 1, cells := 0, slots := 0, locals := 22 } : Room)) (own := RX12) (tyR_ok cy) hin (XtR_ok ad) Om_good (by decide) rfl ?_
  intro Q av M hF
  obtain ⟨p1, p2, p3, p4, rfl, gp1, gp2, gp3, gp4, hF⟩ := hF
  refine ⟨Nat.le_of_ble_eq_true rfl, fun J hJ => ?_⟩
  show J 0 [(0, .ref (ad 0)), (1, .int (Ii p1)), (2, .int (Ii p2)), (3, .int (Ii p3)), (4, .int (Ii p4))] [] M
  unfold w_X12_visit at hF
  refine j_aload_n hJ dX12_visit_0 rfl 0 rfl ?_
  refine j_gr (e := 60) hJ kR_0 fR_15_70 fl_X12_249 dX12_visit_1 rfl ?_
  refine j_iload_n hJ dX12_visit_4 rfl 2 rfl ?_
  refine j_zald hJ gp2 kR_60 hF.1 hF.2.1 dX12_visit_5 (fun v1 ev1 gv1 => ?_)
  have hF := hF.2.2 v1 ev1 gv1
  refine j_if_ne hJ 33 (jz_ri gv1) dX12_visit_6 (by decide) (fun z2 => ?_) (fun z2 => ?_)
  · have hF := hF.1 z2
    exact j_vret hJ rfl dX12_visit_33 hF
  · have hF := hF.2 z2
    refine j_iload_n hJ dX12_visit_9 rfl 2 rfl ?_
    refine j_iload_n hJ dX12_visit_10 rfl 3 rfl ?_
    refine j_icmp_eq hJ 33 gp2 gp3 dX12_visit_11 (by decide) (fun z3 => ?_) (fun z3 => ?_)
    · have hF := hF.1 z3
      exact j_vret hJ rfl dX12_visit_33 hF
    · have hF := hF.2 z3
      refine j_iload hJ dX12_visit_14 4 rfl ?_
      refine j_if_eq hJ 34 (jz_ri gp4) dX12_visit_16 (by decide) (fun z4 => ?_) (fun z4 => ?_)
      · have hF := hF.1 z4
        exact j_sub hJ [0, 2] rfl (k_X12_visit_b34 hin  hJ  p2 _ gp2 hF)
      · have hF := hF.2 z4
        refine j_aload_n hJ dX12_visit_19 rfl 0 rfl ?_
        refine j_gr (e := 59) hJ kR_0 fR_15_69 fl_X12_246 dX12_visit_20 rfl ?_
        refine j_aload_n hJ dX12_visit_23 rfl 0 rfl ?_
        refine j_iload_n hJ dX12_visit_24 rfl 1 rfl ?_
        refine j_iload_n hJ dX12_visit_25 rfl 2 rfl ?_
        refine j_callVi hJ (c_X12_at (l := l) (D := D) (cy := cy) (ad := ad) hin) rfl om_1153 ⟨rfl, rfl, Nat.le_of_ble_eq_true rfl, Nat.le_of_ble_eq_true rfl⟩ [.int (Ii p1), .int (Ii p2)] mv_X12_545 hd_X12_atv kR_0 rfl rfl rfl (Nat.le_of_ble_eq_true rfl) dX12_visit_26 ⟨p1, p2, rfl, gp1, gp2, hF⟩ (fun r5 M6 gr5 qM6 => ?_)
        have hF := qM6 gr5
        refine j_zald hJ gr5 kR_59 hF.1 hF.2.1 dX12_visit_29 (fun v7 ev7 gv7 => ?_)
        have hF := hF.2.2 v7 ev7 gv7
        refine j_if_eq hJ 34 (jz_ri gv7) dX12_visit_30 (by decide) (fun z8 => ?_) (fun z8 => ?_)
        · have hF := hF.1 z8
          exact j_sub hJ [0, 2] rfl (k_X12_visit_b34 hin  hJ  p2 _ gp2 hF)
        · have hF := hF.2 z8
          exact j_vret hJ rfl dX12_visit_33 hF
def W_X12_visitSlots (ad : Nat → Nat) (Q : Int → MM → Prop) (av : List Value) (M : MM) : Prop := ∃ (p1 : Int) (p2 : Int) (p3 : Int) (p4 : Int), av = [.ref (ad 0), .int (Ii p1), .int (Ii p2), .int (Ii p3), .int (Ii p4)] ∧ ri_ p1 ∧ ri_ p2 ∧ ri_ p3 ∧ (p4 = 0 ∨ p4 = 1) ∧ w_X12_visitSlots  Q p1 p2 p3 p4 M
set_option maxHeartbeats 4000000 in
set_option maxRecDepth 100000 in
theorem k_X12_visitSlots_b56 {l : Launch} {D : va_G} {cy : Nat → ClassId} {ad : Nat → Nat} {Q : Int → MM → Prop} {J : Nat → List (Nat × Value) → List Value → MM → Prop} (hin : jIn ad ksR.length)   (hJ : jOk l D vwCl (tyR cy) cy ad ftR ksR (XtR ad) Om RX12 cX12_visitSlots 7 0 ({ frames := 3, cells := 0, slots := 0, locals := 70 } : Room) Q J) {K3 : Int → Int → Int → Int → Int → MM → Prop} (hK3 : ∀ (x1 x2 x3 x4 x5 : Int) (M : MM), ri_ x1 → ri_ x2 → ri_ x3 → ri_ x4 → ri_ x5 → K3 x1 x2 x3 x4 x5 M → J 3 [(0, .ref (ad 0)), (1, .int (Ii x1)), (2, .int (Ii x2)), (3, .int (Ii x3)), (4, .int (Ii x4)), (5, .int (Ii x5))] [] M) : ∀ (x1 x2 x3 x4 x5 : Int) (M : MM), ri_ x1 → ri_ x2 → ri_ x3 → ri_ x4 → ri_ x5 → w_X12_visitSlots_b56  Q K3 x1 x2 x3 x4 x5 M → J 56 [(0, .ref (ad 0)), (1, .int (Ii x1)), (2, .int (Ii x2)), (3, .int (Ii x3)), (4, .int (Ii x4)), (5, .int (Ii x5))] [] M := by
  intro x1 x2 x3 x4 x5 M gx1 gx2 gx3 gx4 gx5 hF
  unfold w_X12_visitSlots_b56 at hF
  refine j_iinc (lv' := [(5, .int (Ii (x5 + 1))), (0, .ref (ad 0)), (1, .int (Ii x1)), (2, .int (Ii x2)), (3, .int (Ii x3)), (4, .int (Ii x4))]) (k := 5) hJ dX12_visitSlots_56 rfl (by decide) rfl ?_
  have g1 := hF.1; have hF := hF.2
  refine j_goto hJ 3 dX12_visitSlots_59 (by decide) ?_
  exact j_sub hJ [1, 2, 3, 4, 5, 0] rfl (hK3 x1 x2 x3 x4 (x5 + 1) _ gx1 gx2 gx3 gx4 g1 hF)
set_option maxHeartbeats 4000000 in
set_option maxRecDepth 100000 in
theorem k_X12_visitSlots_b38 {l : Launch} {D : va_G} {cy : Nat → ClassId} {ad : Nat → Nat} {Q : Int → MM → Prop} {J : Nat → List (Nat × Value) → List Value → MM → Prop} (hin : jIn ad ksR.length)   (hJ : jOk l D vwCl (tyR cy) cy ad ftR ksR (XtR ad) Om RX12 cX12_visitSlots 7 0 ({ frames := 3, cells := 0, slots := 0, locals := 70 } : Room) Q J) {K3 : Int → Int → Int → Int → Int → MM → Prop} (hK3 : ∀ (x1 x2 x3 x4 x5 : Int) (M : MM), ri_ x1 → ri_ x2 → ri_ x3 → ri_ x4 → ri_ x5 → K3 x1 x2 x3 x4 x5 M → J 3 [(0, .ref (ad 0)), (1, .int (Ii x1)), (2, .int (Ii x2)), (3, .int (Ii x3)), (4, .int (Ii x4)), (5, .int (Ii x5))] [] M) : ∀ (x1 x2 x3 x4 x5 s0 : Int) (M : MM), ri_ x1 → ri_ x2 → ri_ x3 → ri_ x4 → ri_ x5 → ri_ s0 → w_X12_visitSlots_b38  Q K3 x1 x2 x3 x4 x5 s0 M → J 38 [(0, .ref (ad 0)), (1, .int (Ii x1)), (2, .int (Ii x2)), (3, .int (Ii x3)), (4, .int (Ii x4)), (5, .int (Ii x5))] [.int (Ii s0)] M := by
  intro x1 x2 x3 x4 x5 s0 M gx1 gx2 gx3 gx4 gx5 gs0 hF
  unfold w_X12_visitSlots_b38 at hF
  refine j_istore (lv' := [(6, .int (Ii s0)), (0, .ref (ad 0)), (1, .int (Ii x1)), (2, .int (Ii x2)), (3, .int (Ii x3)), (4, .int (Ii x4)), (5, .int (Ii x5))]) hJ dX12_visitSlots_38 (by decide) rfl ?_
  refine j_iload hJ dX12_visitSlots_40 0 rfl ?_
  refine j_iconst hJ dX12_visitSlots_42 ?_
  refine j_icmp_eq hJ 56 gs0 rk_m1 dX12_visitSlots_43 (by decide) (fun z1 => ?_) (fun z1 => ?_)
  · have hF := hF.1 z1
    exact j_sub hJ [1, 2, 3, 4, 5, 6] rfl (k_X12_visitSlots_b56 hin  hJ hK3 x1 x2 x3 x4 x5 _ gx1 gx2 gx3 gx4 gx5 hF)
  · have hF := hF.2 z1
    refine j_aload_n hJ dX12_visitSlots_46 rfl 1 rfl ?_
    refine j_iload_n hJ dX12_visitSlots_47 rfl 2 rfl ?_
    refine j_iload hJ dX12_visitSlots_48 0 rfl ?_
    refine j_iload_n hJ dX12_visitSlots_50 rfl 4 rfl ?_
    refine j_iload hJ dX12_visitSlots_51 5 rfl ?_
    refine j_callVv hJ (c_X12_visit (l := l) (D := D) (cy := cy) (ad := ad) hin) rfl om_1181 ⟨rfl, rfl, Nat.le_of_ble_eq_true rfl, Nat.le_of_ble_eq_true rfl⟩ [.int (Ii x1), .int (Ii s0), .int (Ii x3), .int (Ii x4)] mv_X12_584 hd_X12_visitv kR_0 rfl rfl rfl (Nat.le_of_ble_eq_true rfl) dX12_visitSlots_53 ⟨x1, s0, x3, x4, rfl, gx1, gs0, gx3, hF.1, hF.2⟩ (fun M3 qM3 => ?_)
    have hF := qM3
    exact j_sub hJ [1, 2, 3, 4, 5, 6] rfl (k_X12_visitSlots_b56 hin  hJ hK3 x1 x2 x3 x4 x5 _ gx1 gx2 gx3 gx4 gx5 hF)
set_option maxHeartbeats 4000000 in
set_option maxRecDepth 100000 in
theorem k_X12_visitSlots_b3 {l : Launch} {D : va_G} {cy : Nat → ClassId} {ad : Nat → Nat} {Q : Int → MM → Prop} {J : Nat → List (Nat × Value) → List Value → MM → Prop} (hin : jIn ad ksR.length)   (hJ : jOk l D vwCl (tyR cy) cy ad ftR ksR (XtR ad) Om RX12 cX12_visitSlots 7 0 ({ frames := 3, cells := 0, slots := 0, locals := 70 } : Room) Q J)  : ∀ (x1 x2 x3 x4 x5 : Int) (M : MM), ri_ x1 → ri_ x2 → ri_ x3 → ri_ x4 → ri_ x5 → w_X12_visitSlots_b3  Q  x1 x2 x3 x4 x5 M → J 3 [(0, .ref (ad 0)), (1, .int (Ii x1)), (2, .int (Ii x2)), (3, .int (Ii x3)), (4, .int (Ii x4)), (5, .int (Ii x5))] [] M := by
  have H9 : ∀ (n : Nat) (x1 x2 x3 x4 x5 : Int) (M : MM), ri_ x1 → ri_ x2 → ri_ x3 → ri_ x4 → ri_ x5 → jit (fun _ _ _ _ _ _ => False) (wb_X12_visitSlots_b3  Q ) n x1 x2 x3 x4 x5 M → J 3 [(0, .ref (ad 0)), (1, .int (Ii x1)), (2, .int (Ii x2)), (3, .int (Ii x3)), (4, .int (Ii x4)), (5, .int (Ii x5))] [] M := by
    intro n
    induction n with
    | zero => intro x1 x2 x3 x4 x5 M gx1 gx2 gx3 gx4 gx5 hF; exact False.elim hF
    | succ n ih =>
    intro x1 x2 x3 x4 x5 M gx1 gx2 gx3 gx4 gx5 hF
    have hF : wb_X12_visitSlots_b3  Q  (jit (fun _ _ _ _ _ _ => False) (wb_X12_visitSlots_b3  Q ) n) x1 x2 x3 x4 x5 M := hF
    unfold wb_X12_visitSlots_b3 at hF
    refine j_iload hJ dX12_visitSlots_3 5 rfl ?_
    refine j_aload_n hJ dX12_visitSlots_5 rfl 0 rfl ?_
    refine j_iload_n hJ dX12_visitSlots_6 rfl 1 rfl ?_
    refine j_iload_n hJ dX12_visitSlots_7 rfl 2 rfl ?_
    refine j_callVi hJ (c_X12_slotsIn (l := l) (D := D) (cy := cy) (ad := ad) hin) rfl om_1165 ⟨rfl, rfl, Nat.le_of_ble_eq_true rfl, Nat.le_of_ble_eq_true rfl⟩ [.int (Ii x1), .int (Ii x2)] mv_X12_570 hd_X12_slotsInv kR_0 rfl rfl rfl (Nat.le_of_ble_eq_true rfl) dX12_visitSlots_8 ⟨x1, x2, rfl, gx1, gx2, hF⟩ (fun r1 M2 gr1 qM2 => ?_)
    have hF := qM2 gr1
    refine j_icmp_ge hJ 62 gx5 gr1 dX12_visitSlots_11 (by decide) (fun z3 => ?_) (fun z3 => ?_)
    · have hF := hF.1 z3
      exact j_vret hJ rfl dX12_visitSlots_62 hF
    · have hF := hF.2 z3
      refine j_aload_n hJ dX12_visitSlots_14 rfl 0 rfl ?_
      refine j_iload_n hJ dX12_visitSlots_15 rfl 1 rfl ?_
      refine j_iload_n hJ dX12_visitSlots_16 rfl 2 rfl ?_
      refine j_iload hJ dX12_visitSlots_17 5 rfl ?_
      refine j_callVz hJ (c_X12_linksIn (l := l) (D := D) (cy := cy) (ad := ad) hin) rfl om_1169 ⟨rfl, rfl, Nat.le_of_ble_eq_true rfl, Nat.le_of_ble_eq_true rfl⟩ [.int (Ii x1), .int (Ii x2), .int (Ii x5)] mv_X12_573 hd_X12_linksInv kR_0 rfl rfl rfl (Nat.le_of_ble_eq_true rfl) dX12_visitSlots_19 ⟨x1, x2, x5, rfl, gx1, gx2, gx5, hF⟩ (fun r4 M5 gr4 qM5 => ?_)
      have hF := qM5 gr4
      refine j_if_eq hJ 37 (jz_ri gr4) dX12_visitSlots_22 (by decide) (fun z6 => ?_) (fun z6 => ?_)
      · have hF := hF.1 z6
        refine j_iconst hJ dX12_visitSlots_37 ?_
        exact j_sub hJ [0, 1, 2, 3, 4, 5] rfl (k_X12_visitSlots_b38 hin  hJ ih x1 x2 x3 x4 x5 (-1) _ gx1 gx2 gx3 gx4 gx5 rk_m1 hF)
      · have hF := hF.2 z6
        refine j_aload_n hJ dX12_visitSlots_25 rfl 0 rfl ?_
        refine j_iload_n hJ dX12_visitSlots_26 rfl 1 rfl ?_
        refine j_iload_n hJ dX12_visitSlots_27 rfl 2 rfl ?_
        refine j_iload hJ dX12_visitSlots_28 5 rfl ?_
        refine j_callVl hJ (c_X12_valueIn (l := l) (D := D) (cy := cy) (ad := ad) hin) rfl om_1173 ⟨rfl, rfl, Nat.le_of_ble_eq_true rfl, Nat.le_of_ble_eq_true rfl⟩ [.int (Ii x1), .int (Ii x2), .int (Ii x5)] mv_X12_577 hd_X12_valueInv kR_0 rfl rfl rfl (Nat.le_of_ble_eq_true rfl) dX12_visitSlots_30 ⟨x1, x2, x5, rfl, gx1, gx2, gx5, hF⟩ (fun r7 M8 gr7 qM8 => ?_)
        have hF := qM8 gr7
        refine j_l2i hJ dX12_visitSlots_33 ?_
        have g9 := hF.1; have hF := hF.2
        refine j_goto hJ 38 dX12_visitSlots_34 (by decide) ?_
        exact j_sub hJ [0, 1, 2, 3, 4, 5] rfl (k_X12_visitSlots_b38 hin  hJ ih x1 x2 x3 x4 x5 r7 _ gx1 gx2 gx3 gx4 gx5 g9 hF)
  intro x1 x2 x3 x4 x5 M gx1 gx2 gx3 gx4 gx5 hF
  obtain ⟨n, hF⟩ := hF
  exact H9 n x1 x2 x3 x4 x5 M gx1 gx2 gx3 gx4 gx5 hF
set_option maxHeartbeats 4000000 in
set_option maxRecDepth 100000 in
theorem c_X12_visitSlots {l : Launch} {D : va_G} {cy : Nat → ClassId} {ad : Nat → Nat} (hin : jIn ad ksR.length) : jCN l D vwCl (tyR cy) cy ad ftR ksR (XtR ad) yX12_visitSlots (.code yX12_visitSlots cX12_visitSlots 7 none :: Om) ({ frames := 3, cells := 0, slots := 0, locals := 70 } : Room) 0 (W_X12_visitSlots ad) := by
  refine jCN_of (y := yX12_visitSlots) (cc := cX12_visitSlots) (nL := 7) (rk := 0) (rm := ({ frames := 3, cells := 0, slots := 0, locals := 70 } : Room)) (own := RX12) (tyR_ok cy) hin (XtR_ok ad) Om_good (by decide) rfl ?_
  intro Q av M hF
  obtain ⟨p1, p2, p3, p4, rfl, gp1, gp2, gp3, gp4, hF⟩ := hF
  refine ⟨Nat.le_of_ble_eq_true rfl, fun J hJ => ?_⟩
  show J 0 [(0, .ref (ad 0)), (1, .int (Ii p1)), (2, .int (Ii p2)), (3, .int (Ii p3)), (4, .int (Ii p4))] [] M
  unfold w_X12_visitSlots at hF
  refine j_iconst hJ dX12_visitSlots_0 ?_
  refine j_istore (lv' := [(5, .int (Ii 0)), (0, .ref (ad 0)), (1, .int (Ii p1)), (2, .int (Ii p2)), (3, .int (Ii p3)), (4, .int (Ii p4))]) hJ dX12_visitSlots_1 (by decide) rfl ?_
  exact j_sub hJ [1, 2, 3, 4, 5, 0] rfl (k_X12_visitSlots_b3 hin  hJ  p1 p2 p3 p4 0 _ gp1 gp2 gp3 (jz_ri gp4) rk_0 hF)
def W_X12_reach (ad : Nat → Nat) (Q : Int → MM → Prop) (av : List Value) (M : MM) : Prop := ∃ (p1 : Int) (p2 : Int) (p3 : Int) (p4 : Int), av = [.ref (ad 0), .int (Ii p1), .int (Ii p2), .int (Ii p3), .int (Ii p4)] ∧ ri_ p1 ∧ ri_ p2 ∧ ri_ p3 ∧ (p4 = 0 ∨ p4 = 1) ∧ w_X12_reach  Q p1 p2 p3 p4 M
set_option maxHeartbeats 4000000 in
set_option maxRecDepth 100000 in
theorem k_X12_reach_b94 {l : Launch} {D : va_G} {cy : Nat → ClassId} {ad : Nat → Nat} {Q : Int → MM → Prop} {J : Nat → List (Nat × Value) → List Value → MM → Prop} (hin : jIn ad ksR.length)   (hJ : jOk l D vwCl (tyR cy) cy ad ftR ksR (XtR ad) Om RX12 cX12_reach 6 0 ({ frames := 4, cells := 0, slots := 0, locals := 96 } : Room) Q J)  : ∀ (x1 x3 x4 x5 : Int) (M : MM), ri_ x1 → ri_ x3 → ri_ x4 → ri_ x5 → w_X12_reach_b94  Q  x1 x3 x4 x5 M → J 94 [(0, .ref (ad 0)), (1, .int (Ii x1)), (3, .int (Ii x3)), (4, .int (Ii x4)), (5, .int (Ii x5))] [] M := by
  have H9 : ∀ (n : Nat) (x1 x3 x4 x5 : Int) (M : MM), ri_ x1 → ri_ x3 → ri_ x4 → ri_ x5 → jit (fun _ _ _ _ _ => False) (wb_X12_reach_b94  Q ) n x1 x3 x4 x5 M → J 94 [(0, .ref (ad 0)), (1, .int (Ii x1)), (3, .int (Ii x3)), (4, .int (Ii x4)), (5, .int (Ii x5))] [] M := by
    intro n
    induction n with
    | zero => intro x1 x3 x4 x5 M gx1 gx3 gx4 gx5 hF; exact False.elim hF
    | succ n ih =>
    intro x1 x3 x4 x5 M gx1 gx3 gx4 gx5 hF
    have hF : wb_X12_reach_b94  Q  (jit (fun _ _ _ _ _ => False) (wb_X12_reach_b94  Q ) n) x1 x3 x4 x5 M := hF
    unfold wb_X12_reach_b94 at hF
    refine j_iload hJ dX12_reach_94 4 rfl ?_
    refine j_aload_n hJ dX12_reach_96 rfl 0 rfl ?_
    refine j_gi hJ kR_0 fR_15_73 rfl fl_X12_581 dX12_reach_97 (fun v1 ev1 gv1 => ?_)
    have hF := hF v1 ev1 gv1
    refine j_icmp_ge hJ 124 gx5 gv1 dX12_reach_100 (by decide) (fun z2 => ?_) (fun z2 => ?_)
    · have hF := hF.1 z2
      exact j_vret hJ rfl dX12_reach_124 hF
    · have hF := hF.2 z2
      refine j_aload_n hJ dX12_reach_103 rfl 0 rfl ?_
      refine j_iload_n hJ dX12_reach_104 rfl 1 rfl ?_
      refine j_aload_n hJ dX12_reach_105 rfl 0 rfl ?_
      refine j_gr (e := 62) hJ kR_0 fR_15_72 fl_X12_256 dX12_reach_106 rfl ?_
      refine j_iload hJ dX12_reach_109 4 rfl ?_
      refine j_iald hJ gx5 kR_62 hF.1 hF.2.1 dX12_reach_111 (fun v3 ev3 gv3 => ?_)
      have hF := hF.2.2 v3 ev3 gv3
      refine j_iload_n hJ dX12_reach_112 rfl 2 rfl ?_
      refine j_iload hJ dX12_reach_113 3 rfl ?_
      refine j_callVv hJ (c_X12_visitSlots (l := l) (D := D) (cy := cy) (ad := ad) hin) rfl om_1185 ⟨rfl, rfl, Nat.le_of_ble_eq_true rfl, Nat.le_of_ble_eq_true rfl⟩ [.int (Ii x1), .int (Ii v3), .int (Ii x3), .int (Ii x4)] mv_X12_588 hd_X12_visitSlotsv kR_0 rfl rfl rfl (Nat.le_of_ble_eq_true rfl) dX12_reach_115 ⟨x1, v3, x3, x4, rfl, gx1, gv3, gx3, hF.1, hF.2⟩ (fun M5 qM5 => ?_)
      have hF := qM5
      refine j_iinc (lv' := [(5, .int (Ii (x5 + 1))), (0, .ref (ad 0)), (1, .int (Ii x1)), (3, .int (Ii x3)), (4, .int (Ii x4))]) (k := 4) hJ dX12_reach_118 rfl (by decide) rfl ?_
      have g6 := hF.1; have hF := hF.2
      refine j_goto hJ 94 dX12_reach_121 (by decide) ?_
      exact j_sub hJ [1, 2, 3, 4, 0] rfl (ih x1 x3 x4 (x5 + 1) _ gx1 gx3 gx4 g6 hF)
  intro x1 x3 x4 x5 M gx1 gx3 gx4 gx5 hF
  obtain ⟨n, hF⟩ := hF
  exact H9 n x1 x3 x4 x5 M gx1 gx3 gx4 gx5 hF
set_option maxHeartbeats 4000000 in
set_option maxRecDepth 100000 in
theorem k_X12_reach_b91 {l : Launch} {D : va_G} {cy : Nat → ClassId} {ad : Nat → Nat} {Q : Int → MM → Prop} {J : Nat → List (Nat × Value) → List Value → MM → Prop} (hin : jIn ad ksR.length)   (hJ : jOk l D vwCl (tyR cy) cy ad ftR ksR (XtR ad) Om RX12 cX12_reach 6 0 ({ frames := 4, cells := 0, slots := 0, locals := 96 } : Room) Q J)  : ∀ (x1 x3 x4 : Int) (M : MM), ri_ x1 → ri_ x3 → ri_ x4 → w_X12_reach_b91  Q  x1 x3 x4 M → J 91 [(0, .ref (ad 0)), (1, .int (Ii x1)), (3, .int (Ii x3)), (4, .int (Ii x4))] [] M := by
  intro x1 x3 x4 M gx1 gx3 gx4 hF
  unfold w_X12_reach_b91 at hF
  refine j_iconst hJ dX12_reach_91 ?_
  refine j_istore (lv' := [(5, .int (Ii 0)), (0, .ref (ad 0)), (1, .int (Ii x1)), (3, .int (Ii x3)), (4, .int (Ii x4))]) hJ dX12_reach_92 (by decide) rfl ?_
  exact j_sub hJ [1, 2, 3, 4, 0] rfl (k_X12_reach_b94 hin  hJ  x1 x3 x4 0 _ gx1 gx3 gx4 rk_0 hF)
set_option maxHeartbeats 4000000 in
set_option maxRecDepth 100000 in
theorem k_X12_reach_b41 {l : Launch} {D : va_G} {cy : Nat → ClassId} {ad : Nat → Nat} {Q : Int → MM → Prop} {J : Nat → List (Nat × Value) → List Value → MM → Prop} (hin : jIn ad ksR.length)   (hJ : jOk l D vwCl (tyR cy) cy ad ftR ksR (XtR ad) Om RX12 cX12_reach 6 0 ({ frames := 4, cells := 0, slots := 0, locals := 96 } : Room) Q J)  : ∀ (x1 x3 x4 x5 : Int) (M : MM), ri_ x1 → ri_ x3 → ri_ x4 → ri_ x5 → w_X12_reach_b41  Q  x1 x3 x4 x5 M → J 41 [(0, .ref (ad 0)), (1, .int (Ii x1)), (3, .int (Ii x3)), (4, .int (Ii x4)), (5, .int (Ii x5))] [] M := by
  have H9 : ∀ (n : Nat) (x1 x3 x4 x5 : Int) (M : MM), ri_ x1 → ri_ x3 → ri_ x4 → ri_ x5 → jit (fun _ _ _ _ _ => False) (wb_X12_reach_b41  Q ) n x1 x3 x4 x5 M → J 41 [(0, .ref (ad 0)), (1, .int (Ii x1)), (3, .int (Ii x3)), (4, .int (Ii x4)), (5, .int (Ii x5))] [] M := by
    intro n
    induction n with
    | zero => intro x1 x3 x4 x5 M gx1 gx3 gx4 gx5 hF; exact False.elim hF
    | succ n ih =>
    intro x1 x3 x4 x5 M gx1 gx3 gx4 gx5 hF
    have hF : wb_X12_reach_b41  Q  (jit (fun _ _ _ _ _ => False) (wb_X12_reach_b41  Q ) n) x1 x3 x4 x5 M := hF
    unfold wb_X12_reach_b41 at hF
    refine j_iload hJ dX12_reach_41 4 rfl ?_
    refine j_aload_n hJ dX12_reach_43 rfl 0 rfl ?_
    refine j_gr (e := 55) hJ kR_0 fR_15_65 fl_X12_234 dX12_reach_44 rfl ?_
    refine j_iload_n hJ dX12_reach_47 rfl 1 rfl ?_
    refine j_iald hJ gx1 kR_55 hF.1 hF.2.1 dX12_reach_48 (fun v1 ev1 gv1 => ?_)
    have hF := hF.2.2 v1 ev1 gv1
    refine j_icmp_ge hJ 79 gx5 gv1 dX12_reach_49 (by decide) (fun z2 => ?_) (fun z2 => ?_)
    · have hF := hF.1 z2
      refine j_goto hJ 91 dX12_reach_79 (by decide) ?_
      exact j_sub hJ [0, 1, 2, 3] rfl (k_X12_reach_b91 hin  hJ  x1 x3 x4 _ gx1 gx3 gx4 hF)
    · have hF := hF.2 z2
      refine j_aload_n hJ dX12_reach_52 rfl 0 rfl ?_
      refine j_iload_n hJ dX12_reach_53 rfl 1 rfl ?_
      refine j_aload_n hJ dX12_reach_54 rfl 0 rfl ?_
      refine j_gr (e := 57) hJ kR_0 fR_15_67 fl_X12_240 dX12_reach_55 rfl ?_
      refine j_sipush hJ dX12_reach_58 (by decide) ?_
      refine j_iload_n hJ dX12_reach_61 rfl 1 rfl ?_
      refine j_imul hJ dX12_reach_62 ?_
      have g3 := hF.1; have hF := hF.2
      refine j_iload hJ dX12_reach_63 4 rfl ?_
      refine j_iadd hJ dX12_reach_65 ?_
      have g4 := hF.1; have hF := hF.2
      refine j_iald hJ g4 kR_57 hF.1 hF.2.1 dX12_reach_66 (fun v5 ev5 gv5 => ?_)
      have hF := hF.2.2 v5 ev5 gv5
      refine j_iload_n hJ dX12_reach_67 rfl 2 rfl ?_
      refine j_iload hJ dX12_reach_68 3 rfl ?_
      refine j_callVv hJ (c_X12_visit (l := l) (D := D) (cy := cy) (ad := ad) hin) rfl om_1181 ⟨rfl, rfl, Nat.le_of_ble_eq_true rfl, Nat.le_of_ble_eq_true rfl⟩ [.int (Ii x1), .int (Ii v5), .int (Ii x3), .int (Ii x4)] mv_X12_584 hd_X12_visitv kR_0 rfl rfl rfl (Nat.le_of_ble_eq_true rfl) dX12_reach_70 ⟨x1, v5, x3, x4, rfl, gx1, gv5, gx3, hF.1, hF.2⟩ (fun M7 qM7 => ?_)
      have hF := qM7
      refine j_iinc (lv' := [(5, .int (Ii (x5 + 1))), (0, .ref (ad 0)), (1, .int (Ii x1)), (3, .int (Ii x3)), (4, .int (Ii x4))]) (k := 4) hJ dX12_reach_73 rfl (by decide) rfl ?_
      have g8 := hF.1; have hF := hF.2
      refine j_goto hJ 41 dX12_reach_76 (by decide) ?_
      exact j_sub hJ [1, 2, 3, 4, 0] rfl (ih x1 x3 x4 (x5 + 1) _ gx1 gx3 gx4 g8 hF)
  intro x1 x3 x4 x5 M gx1 gx3 gx4 gx5 hF
  obtain ⟨n, hF⟩ := hF
  exact H9 n x1 x3 x4 x5 M gx1 gx3 gx4 gx5 hF
set_option maxHeartbeats 4000000 in
set_option maxRecDepth 100000 in
theorem k_X12_reach_b3 {l : Launch} {D : va_G} {cy : Nat → ClassId} {ad : Nat → Nat} {Q : Int → MM → Prop} {J : Nat → List (Nat × Value) → List Value → MM → Prop} (hin : jIn ad ksR.length)   (hJ : jOk l D vwCl (tyR cy) cy ad ftR ksR (XtR ad) Om RX12 cX12_reach 6 0 ({ frames := 4, cells := 0, slots := 0, locals := 96 } : Room) Q J)  : ∀ (x1 x2 x3 x4 x5 : Int) (M : MM), ri_ x1 → ri_ x2 → ri_ x3 → ri_ x4 → ri_ x5 → w_X12_reach_b3  Q  x1 x2 x3 x4 x5 M → J 3 [(0, .ref (ad 0)), (1, .int (Ii x1)), (2, .int (Ii x2)), (3, .int (Ii x3)), (4, .int (Ii x4)), (5, .int (Ii x5))] [] M := by
  have H9 : ∀ (n : Nat) (x1 x2 x3 x4 x5 : Int) (M : MM), ri_ x1 → ri_ x2 → ri_ x3 → ri_ x4 → ri_ x5 → jit (fun _ _ _ _ _ _ => False) (wb_X12_reach_b3  Q ) n x1 x2 x3 x4 x5 M → J 3 [(0, .ref (ad 0)), (1, .int (Ii x1)), (2, .int (Ii x2)), (3, .int (Ii x3)), (4, .int (Ii x4)), (5, .int (Ii x5))] [] M := by
    intro n
    induction n with
    | zero => intro x1 x2 x3 x4 x5 M gx1 gx2 gx3 gx4 gx5 hF; exact False.elim hF
    | succ n ih =>
    intro x1 x2 x3 x4 x5 M gx1 gx2 gx3 gx4 gx5 hF
    have hF : wb_X12_reach_b3  Q  (jit (fun _ _ _ _ _ _ => False) (wb_X12_reach_b3  Q ) n) x1 x2 x3 x4 x5 M := hF
    unfold wb_X12_reach_b3 at hF
    refine j_iload hJ dX12_reach_3 5 rfl ?_
    refine j_aload_n hJ dX12_reach_5 rfl 0 rfl ?_
    refine j_gr (e := 38) hJ kR_0 fR_15_48 fl_X12_183 dX12_reach_6 rfl ?_
    refine j_iload_n hJ dX12_reach_9 rfl 1 rfl ?_
    refine j_iald hJ gx1 kR_38 hF.1 hF.2.1 dX12_reach_10 (fun v1 ev1 gv1 => ?_)
    have hF := hF.2.2 v1 ev1 gv1
    refine j_icmp_ge hJ 28 gx5 gv1 dX12_reach_11 (by decide) (fun z2 => ?_) (fun z2 => ?_)
    · have hF := hF.1 z2
      refine j_aload_n hJ dX12_reach_28 rfl 0 rfl ?_
      refine j_iconst hJ dX12_reach_29 ?_
      refine j_pi hJ rk_0 kR_0 fR_15_73 rfl fp_X12_581 dX12_reach_30 (fun M3 eM3 => ?_)
      have hF := hF M3 eM3
      refine j_iload_n hJ dX12_reach_33 rfl 2 rfl ?_
      refine j_iconst hJ dX12_reach_34 ?_
      refine j_icmp_ne hJ 82 gx2 rk_m1 dX12_reach_35 (by decide) (fun z4 => ?_) (fun z4 => ?_)
      · have hF := hF.1 z4
        refine j_aload_n hJ dX12_reach_82 rfl 0 rfl ?_
        refine j_iload_n hJ dX12_reach_83 rfl 1 rfl ?_
        refine j_iload_n hJ dX12_reach_84 rfl 2 rfl ?_
        refine j_iload_n hJ dX12_reach_85 rfl 3 rfl ?_
        refine j_iload hJ dX12_reach_86 4 rfl ?_
        refine j_callVv hJ (c_X12_visitSlots (l := l) (D := D) (cy := cy) (ad := ad) hin) rfl om_1185 ⟨rfl, rfl, Nat.le_of_ble_eq_true rfl, Nat.le_of_ble_eq_true rfl⟩ [.int (Ii x1), .int (Ii x2), .int (Ii x3), .int (Ii x4)] mv_X12_588 hd_X12_visitSlotsv kR_0 rfl rfl rfl (Nat.le_of_ble_eq_true rfl) dX12_reach_88 ⟨x1, x2, x3, x4, rfl, gx1, gx2, gx3, hF.1, hF.2⟩ (fun M6 qM6 => ?_)
        have hF := qM6
        exact j_sub hJ [0, 1, 3, 4] rfl (k_X12_reach_b91 hin  hJ  x1 x3 x4 _ gx1 gx3 gx4 hF)
      · have hF := hF.2 z4
        refine j_iconst hJ dX12_reach_38 ?_
        refine j_istore (lv' := [(5, .int (Ii 0)), (0, .ref (ad 0)), (1, .int (Ii x1)), (2, .int (Ii x2)), (3, .int (Ii x3)), (4, .int (Ii x4))]) hJ dX12_reach_39 (by decide) rfl ?_
        exact j_sub hJ [1, 2, 4, 5, 0] rfl (k_X12_reach_b41 hin  hJ  x1 x3 x4 0 _ gx1 gx3 gx4 rk_0 hF)
    · have hF := hF.2 z2
      refine j_aload_n hJ dX12_reach_14 rfl 0 rfl ?_
      refine j_gr (e := 60) hJ kR_0 fR_15_70 fl_X12_249 dX12_reach_15 rfl ?_
      refine j_iload hJ dX12_reach_18 5 rfl ?_
      refine j_iconst hJ dX12_reach_20 ?_
      refine j_zast hJ gx5 (by decide) kR_60 hF.1 hF.2.1 dX12_reach_21 (fun M7 eM7 => ?_)
      have hF := hF.2.2 M7 eM7
      refine j_iinc (lv' := [(5, .int (Ii (x5 + 1))), (0, .ref (ad 0)), (1, .int (Ii x1)), (2, .int (Ii x2)), (3, .int (Ii x3)), (4, .int (Ii x4))]) (k := 5) hJ dX12_reach_22 rfl (by decide) rfl ?_
      have g8 := hF.1; have hF := hF.2
      refine j_goto hJ 3 dX12_reach_25 (by decide) ?_
      exact j_sub hJ [1, 2, 3, 4, 5, 0] rfl (ih x1 x2 x3 x4 (x5 + 1) _ gx1 gx2 gx3 gx4 g8 hF)
  intro x1 x2 x3 x4 x5 M gx1 gx2 gx3 gx4 gx5 hF
  obtain ⟨n, hF⟩ := hF
  exact H9 n x1 x2 x3 x4 x5 M gx1 gx2 gx3 gx4 gx5 hF
set_option maxHeartbeats 4000000 in
set_option maxRecDepth 100000 in
theorem c_X12_reach {l : Launch} {D : va_G} {cy : Nat → ClassId} {ad : Nat → Nat} (hin : jIn ad ksR.length) : jCN l D vwCl (tyR cy) cy ad ftR ksR (XtR ad) yX12_reach (.code yX12_reach cX12_reach 6 none :: Om) ({ frames := 4, cells := 0, slots := 0, locals := 96 } : Room) 0 (W_X12_reach ad) := by
  refine jCN_of (y := yX12_reach) (cc := cX12_reach) (nL := 6) (rk := 0) (rm := ({ frames := 4, cells := 0, slots := 0, locals := 96 } : Room)) (own := RX12) (tyR_ok cy) hin (XtR_ok ad) Om_good (by decide) rfl ?_
  intro Q av M hF
  obtain ⟨p1, p2, p3, p4, rfl, gp1, gp2, gp3, gp4, hF⟩ := hF
  refine ⟨Nat.le_of_ble_eq_true rfl, fun J hJ => ?_⟩
  show J 0 [(0, .ref (ad 0)), (1, .int (Ii p1)), (2, .int (Ii p2)), (3, .int (Ii p3)), (4, .int (Ii p4))] [] M
  unfold w_X12_reach at hF
  refine j_iconst hJ dX12_reach_0 ?_
  refine j_istore (lv' := [(5, .int (Ii 0)), (0, .ref (ad 0)), (1, .int (Ii p1)), (2, .int (Ii p2)), (3, .int (Ii p3)), (4, .int (Ii p4))]) hJ dX12_reach_1 (by decide) rfl ?_
  exact j_sub hJ [1, 2, 3, 4, 5, 0] rfl (k_X12_reach_b3 hin  hJ  p1 p2 p3 p4 0 _ gp1 gp2 gp3 (jz_ri gp4) rk_0 hF)
def W_X12_sizeIn (ad : Nat → Nat) (Q : Int → MM → Prop) (av : List Value) (M : MM) : Prop := ∃ (p1 : Int) (p2 : Int), av = [.ref (ad 0), .int (Ii p1), .int (Ii p2)] ∧ ri_ p1 ∧ ri_ p2 ∧ w_X12_sizeIn  Q p1 p2 M
set_option maxHeartbeats 4000000 in
set_option maxRecDepth 100000 in
theorem c_X12_sizeIn {l : Launch} {D : va_G} {cy : Nat → ClassId} {ad : Nat → Nat} (hin : jIn ad ksR.length) : jCN l D vwCl (tyR cy) cy ad ftR ksR (XtR ad) yX12_sizeIn (.code yX12_sizeIn cX12_sizeIn 3 (some .int) :: Om) ({ frames := 2, cells := 0, slots := 0, locals := 44 } : Room) 1 (W_X12_sizeIn ad) := by
  refine jCN_of (y := yX12_sizeIn) (cc := cX12_sizeIn) (nL := 3) (rk := 1) (rm := ({ frames := 2, cells := 0, slots := 0, locals := 44 } : Room)) (own := RX12) (tyR_ok cy) hin (XtR_ok ad) Om_good (by decide) rfl ?_
  intro Q av M hF
  obtain ⟨p1, p2, rfl, gp1, gp2, hF⟩ := hF
  refine ⟨Nat.le_of_ble_eq_true rfl, fun J hJ => ?_⟩
  show J 0 [(0, .ref (ad 0)), (1, .int (Ii p1)), (2, .int (Ii p2))] [] M
  unfold w_X12_sizeIn at hF
  refine j_aload_n hJ dX12_sizeIn_0 rfl 0 rfl ?_
  refine j_aload_n hJ dX12_sizeIn_1 rfl 0 rfl ?_
  refine j_gr (e := 40) hJ kR_0 fR_15_50 fl_X12_189 dX12_sizeIn_2 rfl ?_
  refine j_aload_n hJ dX12_sizeIn_5 rfl 0 rfl ?_
  refine j_iload_n hJ dX12_sizeIn_6 rfl 1 rfl ?_
  refine j_iload_n hJ dX12_sizeIn_7 rfl 2 rfl ?_
  refine j_callVi hJ (c_X12_at (l := l) (D := D) (cy := cy) (ad := ad) hin) rfl om_1153 ⟨rfl, rfl, Nat.le_of_ble_eq_true rfl, Nat.le_of_ble_eq_true rfl⟩ [.int (Ii p1), .int (Ii p2)] mv_X12_545 hd_X12_atv kR_0 rfl rfl rfl (Nat.le_of_ble_eq_true rfl) dX12_sizeIn_8 ⟨p1, p2, rfl, gp1, gp2, hF⟩ (fun r1 M2 gr1 qM2 => ?_)
  have hF := qM2 gr1
  refine j_iald hJ gr1 kR_40 hF.1 hF.2.1 dX12_sizeIn_11 (fun v3 ev3 gv3 => ?_)
  have hF := hF.2.2 v3 ev3 gv3
  refine j_aload_n hJ dX12_sizeIn_12 rfl 0 rfl ?_
  refine j_gr (e := 41) hJ kR_0 fR_15_51 fl_X12_192 dX12_sizeIn_13 rfl ?_
  refine j_aload_n hJ dX12_sizeIn_16 rfl 0 rfl ?_
  refine j_iload_n hJ dX12_sizeIn_17 rfl 1 rfl ?_
  refine j_iload_n hJ dX12_sizeIn_18 rfl 2 rfl ?_
  refine j_callVi hJ (c_X12_at (l := l) (D := D) (cy := cy) (ad := ad) hin) rfl om_1153 ⟨rfl, rfl, Nat.le_of_ble_eq_true rfl, Nat.le_of_ble_eq_true rfl⟩ [.int (Ii p1), .int (Ii p2)] mv_X12_545 hd_X12_atv kR_0 rfl rfl rfl (Nat.le_of_ble_eq_true rfl) dX12_sizeIn_19 ⟨p1, p2, rfl, gp1, gp2, hF⟩ (fun r4 M5 gr4 qM5 => ?_)
  have hF := qM5 gr4
  refine j_iald hJ gr4 kR_41 hF.1 hF.2.1 dX12_sizeIn_22 (fun v6 ev6 gv6 => ?_)
  have hF := hF.2.2 v6 ev6 gv6
  refine j_callVi hJ (c_X12_objectSize (l := l) (D := D) (cy := cy) (ad := ad) hin) rfl om_1193 ⟨rfl, rfl, Nat.le_of_ble_eq_true rfl, Nat.le_of_ble_eq_true rfl⟩ [.int (Ii v3), .int (Ii v6)] mv_X12_509 hd_X12_objectSizev kR_0 rfl rfl rfl (Nat.le_of_ble_eq_true rfl) dX12_sizeIn_23 ⟨v3, v6, rfl, gv3, gv6, hF⟩ (fun r7 M8 gr7 qM8 => ?_)
  have hF := qM8 gr7
  exact j_iret hJ rfl gr7 dX12_sizeIn_26 hF
def W_X12_findDominators (ad : Nat → Nat) (Q : Int → MM → Prop) (av : List Value) (M : MM) : Prop := ∃ (p1 : Int), av = [.ref (ad 0), .int (Ii p1)] ∧ ri_ p1 ∧ w_X12_findDominators  Q p1 M
set_option maxHeartbeats 4000000 in
set_option maxRecDepth 100000 in
theorem k_X12_findDominators_b226 {l : Launch} {D : va_G} {cy : Nat → ClassId} {ad : Nat → Nat} {Q : Int → MM → Prop} {J : Nat → List (Nat × Value) → List Value → MM → Prop} (hin : jIn ad ksR.length)   (hJ : jOk l D vwCl (tyR cy) cy ad ftR ksR (XtR ad) Om RX12 cX12_findDominators 7 0 ({ frames := 5, cells := 0, slots := 0, locals := 121 } : Room) Q J) {K32 : Int → Int → MM → Prop} (hK32 : ∀ (x1 x2 : Int) (M : MM), ri_ x1 → ri_ x2 → K32 x1 x2 M → J 32 [(0, .ref (ad 0)), (1, .int (Ii x1)), (2, .int (Ii x2))] [] M) {K147 : Int → Int → Int → Int → MM → Prop} (hK147 : ∀ (x1 x2 x3 x5 : Int) (M : MM), ri_ x1 → ri_ x2 → ri_ x3 → ri_ x5 → K147 x1 x2 x3 x5 M → J 147 [(0, .ref (ad 0)), (1, .int (Ii x1)), (2, .int (Ii x2)), (3, .int (Ii x3)), (5, .int (Ii x5))] [] M) : ∀ (x1 x2 x3 x5 : Int) (M : MM), ri_ x1 → ri_ x2 → ri_ x3 → ri_ x5 → w_X12_findDominators_b226  Q K32 K147 x1 x2 x3 x5 M → J 226 [(0, .ref (ad 0)), (1, .int (Ii x1)), (2, .int (Ii x2)), (3, .int (Ii x3)), (5, .int (Ii x5))] [] M := by
  intro x1 x2 x3 x5 M gx1 gx2 gx3 gx5 hF
  unfold w_X12_findDominators_b226 at hF
  refine j_iinc (lv' := [(5, .int (Ii (x5 + 1))), (0, .ref (ad 0)), (1, .int (Ii x1)), (2, .int (Ii x2)), (3, .int (Ii x3))]) (k := 4) hJ dX12_findDominators_226 rfl (by decide) rfl ?_
  have g1 := hF.1; have hF := hF.2
  refine j_goto hJ 147 dX12_findDominators_229 (by decide) ?_
  exact j_sub hJ [1, 2, 3, 4, 0] rfl (hK147 x1 x2 x3 (x5 + 1) _ gx1 gx2 gx3 g1 hF)
set_option maxHeartbeats 4000000 in
set_option maxRecDepth 100000 in
theorem k_X12_findDominators_b213 {l : Launch} {D : va_G} {cy : Nat → ClassId} {ad : Nat → Nat} {Q : Int → MM → Prop} {J : Nat → List (Nat × Value) → List Value → MM → Prop} (hin : jIn ad ksR.length)   (hJ : jOk l D vwCl (tyR cy) cy ad ftR ksR (XtR ad) Om RX12 cX12_findDominators 7 0 ({ frames := 5, cells := 0, slots := 0, locals := 121 } : Room) Q J) {K32 : Int → Int → MM → Prop} (hK32 : ∀ (x1 x2 : Int) (M : MM), ri_ x1 → ri_ x2 → K32 x1 x2 M → J 32 [(0, .ref (ad 0)), (1, .int (Ii x1)), (2, .int (Ii x2))] [] M) {K147 : Int → Int → Int → Int → MM → Prop} (hK147 : ∀ (x1 x2 x3 x5 : Int) (M : MM), ri_ x1 → ri_ x2 → ri_ x3 → ri_ x5 → K147 x1 x2 x3 x5 M → J 147 [(0, .ref (ad 0)), (1, .int (Ii x1)), (2, .int (Ii x2)), (3, .int (Ii x3)), (5, .int (Ii x5))] [] M) : ∀ (x1 x2 x3 x5 : Int) (M : MM), ri_ x1 → ri_ x2 → ri_ x3 → ri_ x5 → w_X12_findDominators_b213  Q K32 K147 x1 x2 x3 x5 M → J 213 [(0, .ref (ad 0)), (1, .int (Ii x1)), (2, .int (Ii x2)), (3, .int (Ii x3)), (5, .int (Ii x5))] [] M := by
  intro x1 x2 x3 x5 M gx1 gx2 gx3 gx5 hF
  unfold w_X12_findDominators_b213 at hF
  refine j_aload_n hJ dX12_findDominators_213 rfl 0 rfl ?_
  refine j_gr (e := 46) hJ kR_0 fR_15_56 fl_X12_207 dX12_findDominators_214 rfl ?_
  refine j_aload_n hJ dX12_findDominators_217 rfl 0 rfl ?_
  refine j_iload_n hJ dX12_findDominators_218 rfl 1 rfl ?_
  refine j_iload hJ dX12_findDominators_219 4 rfl ?_
  refine j_callVi hJ (c_X12_at (l := l) (D := D) (cy := cy) (ad := ad) hin) rfl om_1153 ⟨rfl, rfl, Nat.le_of_ble_eq_true rfl, Nat.le_of_ble_eq_true rfl⟩ [.int (Ii x1), .int (Ii x5)] mv_X12_545 hd_X12_atv kR_0 rfl rfl rfl (Nat.le_of_ble_eq_true rfl) dX12_findDominators_221 ⟨x1, x5, rfl, gx1, gx5, hF⟩ (fun r1 M2 gr1 qM2 => ?_)
  have hF := qM2 gr1
  refine j_iload_n hJ dX12_findDominators_224 rfl 2 rfl ?_
  refine j_iast hJ gr1 gx2 kR_46 hF.1 hF.2.1 dX12_findDominators_225 (fun M3 eM3 => ?_)
  have hF := hF.2.2 M3 eM3
  exact j_sub hJ [0, 1, 2, 3, 4] rfl (k_X12_findDominators_b226 hin  hJ hK32 hK147 x1 x2 x3 x5 _ gx1 gx2 gx3 gx5 hF)
set_option maxHeartbeats 4000000 in
set_option maxRecDepth 100000 in
theorem k_X12_findDominators_b147 {l : Launch} {D : va_G} {cy : Nat → ClassId} {ad : Nat → Nat} {Q : Int → MM → Prop} {J : Nat → List (Nat × Value) → List Value → MM → Prop} (hin : jIn ad ksR.length)   (hJ : jOk l D vwCl (tyR cy) cy ad ftR ksR (XtR ad) Om RX12 cX12_findDominators 7 0 ({ frames := 5, cells := 0, slots := 0, locals := 121 } : Room) Q J) {K32 : Int → Int → MM → Prop} (hK32 : ∀ (x1 x2 : Int) (M : MM), ri_ x1 → ri_ x2 → K32 x1 x2 M → J 32 [(0, .ref (ad 0)), (1, .int (Ii x1)), (2, .int (Ii x2))] [] M) : ∀ (x1 x2 x3 x5 : Int) (M : MM), ri_ x1 → ri_ x2 → ri_ x3 → ri_ x5 → w_X12_findDominators_b147  Q K32 x1 x2 x3 x5 M → J 147 [(0, .ref (ad 0)), (1, .int (Ii x1)), (2, .int (Ii x2)), (3, .int (Ii x3)), (5, .int (Ii x5))] [] M := by
  have H9 : ∀ (n : Nat) (x1 x2 x3 x5 : Int) (M : MM), ri_ x1 → ri_ x2 → ri_ x3 → ri_ x5 → jit (fun _ _ _ _ _ => False) (wb_X12_findDominators_b147  Q K32) n x1 x2 x3 x5 M → J 147 [(0, .ref (ad 0)), (1, .int (Ii x1)), (2, .int (Ii x2)), (3, .int (Ii x3)), (5, .int (Ii x5))] [] M := by
    intro n
    induction n with
    | zero => intro x1 x2 x3 x5 M gx1 gx2 gx3 gx5 hF; exact False.elim hF
    | succ n ih =>
    intro x1 x2 x3 x5 M gx1 gx2 gx3 gx5 hF
    have hF : wb_X12_findDominators_b147  Q K32 (jit (fun _ _ _ _ _ => False) (wb_X12_findDominators_b147  Q K32) n) x1 x2 x3 x5 M := hF
    unfold wb_X12_findDominators_b147 at hF
    refine j_iload hJ dX12_findDominators_147 4 rfl ?_
    refine j_aload_n hJ dX12_findDominators_149 rfl 0 rfl ?_
    refine j_gr (e := 38) hJ kR_0 fR_15_48 fl_X12_183 dX12_findDominators_150 rfl ?_
    refine j_iload_n hJ dX12_findDominators_153 rfl 1 rfl ?_
    refine j_iald hJ gx1 kR_38 hF.1 hF.2.1 dX12_findDominators_154 (fun v1 ev1 gv1 => ?_)
    have hF := hF.2.2 v1 ev1 gv1
    refine j_icmp_ge hJ 232 gx5 gv1 dX12_findDominators_155 (by decide) (fun z2 => ?_) (fun z2 => ?_)
    · have hF := hF.1 z2
      refine j_iinc (lv' := [(2, .int (Ii (x2 + 1))), (0, .ref (ad 0)), (1, .int (Ii x1)), (3, .int (Ii x3)), (5, .int (Ii x5))]) (k := 2) hJ dX12_findDominators_232 rfl (by decide) rfl ?_
      have g3 := hF.1; have hF := hF.2
      refine j_goto hJ 32 dX12_findDominators_235 (by decide) ?_
      exact j_sub hJ [1, 2, 0] rfl (hK32 x1 (x2 + 1) _ gx1 g3 hF)
    · have hF := hF.2 z2
      refine j_aload_n hJ dX12_findDominators_158 rfl 0 rfl ?_
      refine j_gr (e := 60) hJ kR_0 fR_15_70 fl_X12_249 dX12_findDominators_159 rfl ?_
      refine j_iload hJ dX12_findDominators_162 4 rfl ?_
      refine j_zald hJ gx5 kR_60 hF.1 hF.2.1 dX12_findDominators_164 (fun v4 ev4 gv4 => ?_)
      have hF := hF.2.2 v4 ev4 gv4
      refine j_if_ne hJ 226 (jz_ri gv4) dX12_findDominators_165 (by decide) (fun z5 => ?_) (fun z5 => ?_)
      · have hF := hF.1 z5
        exact j_sub hJ [0, 1, 2, 3, 4] rfl (k_X12_findDominators_b226 hin  hJ hK32 ih x1 x2 x3 x5 _ gx1 gx2 gx3 gx5 hF)
      · have hF := hF.2 z5
        refine j_iload hJ dX12_findDominators_168 4 rfl ?_
        refine j_iload_n hJ dX12_findDominators_170 rfl 2 rfl ?_
        refine j_icmp_ne hJ 177 gx5 gx2 dX12_findDominators_171 (by decide) (fun z6 => ?_) (fun z6 => ?_)
        · have hF := hF.1 z6
          refine j_aload_n hJ dX12_findDominators_177 rfl 0 rfl ?_
          refine j_gr (e := 46) hJ kR_0 fR_15_56 fl_X12_207 dX12_findDominators_178 rfl ?_
          refine j_aload_n hJ dX12_findDominators_181 rfl 0 rfl ?_
          refine j_iload_n hJ dX12_findDominators_182 rfl 1 rfl ?_
          refine j_iload hJ dX12_findDominators_183 4 rfl ?_
          refine j_callVi hJ (c_X12_at (l := l) (D := D) (cy := cy) (ad := ad) hin) rfl om_1153 ⟨rfl, rfl, Nat.le_of_ble_eq_true rfl, Nat.le_of_ble_eq_true rfl⟩ [.int (Ii x1), .int (Ii x5)] mv_X12_545 hd_X12_atv kR_0 rfl rfl rfl (Nat.le_of_ble_eq_true rfl) dX12_findDominators_185 ⟨x1, x5, rfl, gx1, gx5, hF⟩ (fun r7 M8 gr7 qM8 => ?_)
          have hF := qM8 gr7
          refine j_iald hJ gr7 kR_46 hF.1 hF.2.1 dX12_findDominators_188 (fun v9 ev9 gv9 => ?_)
          have hF := hF.2.2 v9 ev9 gv9
          refine j_istore (lv' := [(6, .int (Ii v9)), (0, .ref (ad 0)), (1, .int (Ii x1)), (2, .int (Ii x2)), (3, .int (Ii x3)), (5, .int (Ii x5))]) hJ dX12_findDominators_189 (by decide) rfl ?_
          refine j_iload hJ dX12_findDominators_191 0 rfl ?_
          refine j_iconst hJ dX12_findDominators_193 ?_
          refine j_icmp_eq hJ 213 gv9 rk_m1 dX12_findDominators_194 (by decide) (fun z10 => ?_) (fun z10 => ?_)
          · have hF := hF.1 z10
            exact j_sub hJ [1, 2, 3, 4, 5] rfl (k_X12_findDominators_b213 hin  hJ hK32 ih x1 x2 x3 x5 _ gx1 gx2 gx3 gx5 hF)
          · have hF := hF.2 z10
            refine j_iload_n hJ dX12_findDominators_197 rfl 4 rfl ?_
            refine j_aload_n hJ dX12_findDominators_198 rfl 1 rfl ?_
            refine j_gr (e := 48) hJ kR_0 fR_15_58 fl_X12_213 dX12_findDominators_199 rfl ?_
            refine j_aload_n hJ dX12_findDominators_202 rfl 1 rfl ?_
            refine j_iload_n hJ dX12_findDominators_203 rfl 2 rfl ?_
            refine j_iload hJ dX12_findDominators_204 0 rfl ?_
            refine j_callVi hJ (c_X12_at (l := l) (D := D) (cy := cy) (ad := ad) hin) rfl om_1153 ⟨rfl, rfl, Nat.le_of_ble_eq_true rfl, Nat.le_of_ble_eq_true rfl⟩ [.int (Ii x1), .int (Ii v9)] mv_X12_545 hd_X12_atv kR_0 rfl rfl rfl (Nat.le_of_ble_eq_true rfl) dX12_findDominators_206 ⟨x1, v9, rfl, gx1, gv9, hF⟩ (fun r11 M12 gr11 qM12 => ?_)
            have hF := qM12 gr11
            refine j_iald hJ gr11 kR_48 hF.1 hF.2.1 dX12_findDominators_209 (fun v13 ev13 gv13 => ?_)
            have hF := hF.2.2 v13 ev13 gv13
            refine j_icmp_ge hJ 226 gx3 gv13 dX12_findDominators_210 (by decide) (fun z14 => ?_) (fun z14 => ?_)
            · have hF := hF.1 z14
              exact j_sub hJ [1, 2, 3, 4, 5] rfl (k_X12_findDominators_b226 hin  hJ hK32 ih x1 x2 x3 x5 _ gx1 gx2 gx3 gx5 hF)
            · have hF := hF.2 z14
              exact j_sub hJ [1, 2, 3, 4, 5] rfl (k_X12_findDominators_b213 hin  hJ hK32 ih x1 x2 x3 x5 _ gx1 gx2 gx3 gx5 hF)
        · have hF := hF.2 z6
          refine j_goto hJ 226 dX12_findDominators_174 (by decide) ?_
          exact j_sub hJ [0, 1, 2, 3, 4] rfl (k_X12_findDominators_b226 hin  hJ hK32 ih x1 x2 x3 x5 _ gx1 gx2 gx3 gx5 hF)
  intro x1 x2 x3 x5 M gx1 gx2 gx3 gx5 hF
  obtain ⟨n, hF⟩ := hF
  exact H9 n x1 x2 x3 x5 M gx1 gx2 gx3 gx5 hF
set_option maxHeartbeats 4000000 in
set_option maxRecDepth 100000 in
theorem k_X12_findDominators_b110 {l : Launch} {D : va_G} {cy : Nat → ClassId} {ad : Nat → Nat} {Q : Int → MM → Prop} {J : Nat → List (Nat × Value) → List Value → MM → Prop} (hin : jIn ad ksR.length)   (hJ : jOk l D vwCl (tyR cy) cy ad ftR ksR (XtR ad) Om RX12 cX12_findDominators 7 0 ({ frames := 5, cells := 0, slots := 0, locals := 121 } : Room) Q J) {K32 : Int → Int → MM → Prop} (hK32 : ∀ (x1 x2 : Int) (M : MM), ri_ x1 → ri_ x2 → K32 x1 x2 M → J 32 [(0, .ref (ad 0)), (1, .int (Ii x1)), (2, .int (Ii x2))] [] M) {K58 : Int → Int → Int → Int → Int → MM → Prop} (hK58 : ∀ (x1 x2 x3 x4 x5 : Int) (M : MM), ri_ x1 → ri_ x2 → ri_ x3 → ri_ x4 → ri_ x5 → K58 x1 x2 x3 x4 x5 M → J 58 [(0, .ref (ad 0)), (1, .int (Ii x1)), (2, .int (Ii x2)), (3, .int (Ii x3)), (4, .int (Ii x4)), (5, .int (Ii x5))] [] M) : ∀ (x1 x2 x3 x5 s0 s1 : Int) (M : MM), ri_ x1 → ri_ x2 → ri_ x3 → ri_ x5 → ri_ s0 → ri_ s1 → w_X12_findDominators_b110  Q K32 K58 x1 x2 x3 x5 s0 s1 M → J 110 [(0, .ref (ad 0)), (1, .int (Ii x1)), (2, .int (Ii x2)), (3, .int (Ii x3)), (5, .int (Ii x5))] [.int (Ii s0), .int (Ii s1)] M := by
  intro x1 x2 x3 x5 s0 s1 M gx1 gx2 gx3 gx5 gs0 gs1 hF
  unfold w_X12_findDominators_b110 at hF
  refine j_iadd hJ dX12_findDominators_110 ?_
  have g1 := hF.1; have hF := hF.2
  refine j_istore (lv' := [(4, .int (Ii (s1 + s0))), (0, .ref (ad 0)), (1, .int (Ii x1)), (2, .int (Ii x2)), (3, .int (Ii x3)), (5, .int (Ii x5))]) hJ dX12_findDominators_111 (by decide) rfl ?_
  refine j_iinc (lv' := [(5, .int (Ii (x5 + 1))), (4, .int (Ii (s1 + s0))), (0, .ref (ad 0)), (1, .int (Ii x1)), (2, .int (Ii x2)), (3, .int (Ii x3))]) (k := 5) hJ dX12_findDominators_113 rfl (by decide) rfl ?_
  have g2 := hF.1; have hF := hF.2
  refine j_goto hJ 58 dX12_findDominators_116 (by decide) ?_
  exact j_sub hJ [2, 3, 4, 5, 1, 0] rfl (hK58 x1 x2 x3 (s1 + s0) (x5 + 1) _ gx1 gx2 gx3 g1 g2 hF)
set_option maxHeartbeats 4000000 in
set_option maxRecDepth 100000 in
theorem k_X12_findDominators_b85 {l : Launch} {D : va_G} {cy : Nat → ClassId} {ad : Nat → Nat} {Q : Int → MM → Prop} {J : Nat → List (Nat × Value) → List Value → MM → Prop} (hin : jIn ad ksR.length)   (hJ : jOk l D vwCl (tyR cy) cy ad ftR ksR (XtR ad) Om RX12 cX12_findDominators 7 0 ({ frames := 5, cells := 0, slots := 0, locals := 121 } : Room) Q J) {K32 : Int → Int → MM → Prop} (hK32 : ∀ (x1 x2 : Int) (M : MM), ri_ x1 → ri_ x2 → K32 x1 x2 M → J 32 [(0, .ref (ad 0)), (1, .int (Ii x1)), (2, .int (Ii x2))] [] M) {K58 : Int → Int → Int → Int → Int → MM → Prop} (hK58 : ∀ (x1 x2 x3 x4 x5 : Int) (M : MM), ri_ x1 → ri_ x2 → ri_ x3 → ri_ x4 → ri_ x5 → K58 x1 x2 x3 x4 x5 M → J 58 [(0, .ref (ad 0)), (1, .int (Ii x1)), (2, .int (Ii x2)), (3, .int (Ii x3)), (4, .int (Ii x4)), (5, .int (Ii x5))] [] M) : ∀ (x1 x2 x4 x5 s0 s1 : Int) (M : MM), ri_ x1 → ri_ x2 → ri_ x4 → ri_ x5 → ri_ s0 → ri_ s1 → w_X12_findDominators_b85  Q K32 K58 x1 x2 x4 x5 s0 s1 M → J 85 [(0, .ref (ad 0)), (1, .int (Ii x1)), (2, .int (Ii x2)), (4, .int (Ii x4)), (5, .int (Ii x5))] [.int (Ii s0), .int (Ii s1)] M := by
  intro x1 x2 x4 x5 s0 s1 M gx1 gx2 gx4 gx5 gs0 gs1 hF
  unfold w_X12_findDominators_b85 at hF
  refine j_iadd hJ dX12_findDominators_85 ?_
  have g1 := hF.1; have hF := hF.2
  refine j_istore_n (lv' := [(3, .int (Ii (s1 + s0))), (0, .ref (ad 0)), (1, .int (Ii x1)), (2, .int (Ii x2)), (4, .int (Ii x4)), (5, .int (Ii x5))]) hJ dX12_findDominators_86 rfl (by decide) rfl ?_
  refine j_iload hJ dX12_findDominators_87 4 rfl ?_
  refine j_aload_n hJ dX12_findDominators_89 rfl 1 rfl ?_
  refine j_gr (e := 60) hJ kR_0 fR_15_70 fl_X12_249 dX12_findDominators_90 rfl ?_
  refine j_iload hJ dX12_findDominators_93 5 rfl ?_
  refine j_zald hJ gx5 kR_60 hF.1 hF.2.1 dX12_findDominators_95 (fun v2 ev2 gv2 => ?_)
  have hF := hF.2.2 v2 ev2 gv2
  refine j_if_eq hJ 103 (jz_ri gv2) dX12_findDominators_96 (by decide) (fun z3 => ?_) (fun z3 => ?_)
  · have hF := hF.1 z3
    refine j_aload_n hJ dX12_findDominators_103 rfl 1 rfl ?_
    refine j_iload_n hJ dX12_findDominators_104 rfl 2 rfl ?_
    refine j_iload hJ dX12_findDominators_105 5 rfl ?_
    refine j_callVi hJ (c_X12_sizeIn (l := l) (D := D) (cy := cy) (ad := ad) hin) rfl om_1197 ⟨rfl, rfl, Nat.le_of_ble_eq_true rfl, Nat.le_of_ble_eq_true rfl⟩ [.int (Ii x1), .int (Ii x5)] mv_X12_594 hd_X12_sizeInv kR_0 rfl rfl rfl (Nat.le_of_ble_eq_true rfl) dX12_findDominators_107 ⟨x1, x5, rfl, gx1, gx5, hF⟩ (fun r4 M5 gr4 qM5 => ?_)
    have hF := qM5 gr4
    exact j_sub hJ [1, 2, 3, 0, 5] rfl (k_X12_findDominators_b110 hin  hJ hK32 hK58 x1 x2 (s1 + s0) x5 r4 x4 _ gx1 gx2 g1 gx5 gr4 gx4 hF)
  · have hF := hF.2 z3
    refine j_iconst hJ dX12_findDominators_99 ?_
    refine j_goto hJ 110 dX12_findDominators_100 (by decide) ?_
    exact j_sub hJ [1, 2, 3, 0, 5] rfl (k_X12_findDominators_b110 hin  hJ hK32 hK58 x1 x2 (s1 + s0) x5 0 x4 _ gx1 gx2 g1 gx5 rk_0 gx4 hF)
set_option maxHeartbeats 4000000 in
set_option maxRecDepth 100000 in
theorem k_X12_findDominators_b58 {l : Launch} {D : va_G} {cy : Nat → ClassId} {ad : Nat → Nat} {Q : Int → MM → Prop} {J : Nat → List (Nat × Value) → List Value → MM → Prop} (hin : jIn ad ksR.length)   (hJ : jOk l D vwCl (tyR cy) cy ad ftR ksR (XtR ad) Om RX12 cX12_findDominators 7 0 ({ frames := 5, cells := 0, slots := 0, locals := 121 } : Room) Q J) {K32 : Int → Int → MM → Prop} (hK32 : ∀ (x1 x2 : Int) (M : MM), ri_ x1 → ri_ x2 → K32 x1 x2 M → J 32 [(0, .ref (ad 0)), (1, .int (Ii x1)), (2, .int (Ii x2))] [] M) : ∀ (x1 x2 x3 x4 x5 : Int) (M : MM), ri_ x1 → ri_ x2 → ri_ x3 → ri_ x4 → ri_ x5 → w_X12_findDominators_b58  Q K32 x1 x2 x3 x4 x5 M → J 58 [(0, .ref (ad 0)), (1, .int (Ii x1)), (2, .int (Ii x2)), (3, .int (Ii x3)), (4, .int (Ii x4)), (5, .int (Ii x5))] [] M := by
  have H9 : ∀ (n : Nat) (x1 x2 x3 x4 x5 : Int) (M : MM), ri_ x1 → ri_ x2 → ri_ x3 → ri_ x4 → ri_ x5 → jit (fun _ _ _ _ _ _ => False) (wb_X12_findDominators_b58  Q K32) n x1 x2 x3 x4 x5 M → J 58 [(0, .ref (ad 0)), (1, .int (Ii x1)), (2, .int (Ii x2)), (3, .int (Ii x3)), (4, .int (Ii x4)), (5, .int (Ii x5))] [] M := by
    intro n
    induction n with
    | zero => intro x1 x2 x3 x4 x5 M gx1 gx2 gx3 gx4 gx5 hF; exact False.elim hF
    | succ n ih =>
    intro x1 x2 x3 x4 x5 M gx1 gx2 gx3 gx4 gx5 hF
    have hF : wb_X12_findDominators_b58  Q K32 (jit (fun _ _ _ _ _ _ => False) (wb_X12_findDominators_b58  Q K32) n) x1 x2 x3 x4 x5 M := hF
    unfold wb_X12_findDominators_b58 at hF
    refine j_iload hJ dX12_findDominators_58 5 rfl ?_
    refine j_aload_n hJ dX12_findDominators_60 rfl 0 rfl ?_
    refine j_gr (e := 38) hJ kR_0 fR_15_48 fl_X12_183 dX12_findDominators_61 rfl ?_
    refine j_iload_n hJ dX12_findDominators_64 rfl 1 rfl ?_
    refine j_iald hJ gx1 kR_38 hF.1 hF.2.1 dX12_findDominators_65 (fun v1 ev1 gv1 => ?_)
    have hF := hF.2.2 v1 ev1 gv1
    refine j_icmp_ge hJ 119 gx5 gv1 dX12_findDominators_66 (by decide) (fun z2 => ?_) (fun z2 => ?_)
    · have hF := hF.1 z2
      refine j_aload_n hJ dX12_findDominators_119 rfl 0 rfl ?_
      refine j_gr (e := 48) hJ kR_0 fR_15_58 fl_X12_213 dX12_findDominators_120 rfl ?_
      refine j_aload_n hJ dX12_findDominators_123 rfl 0 rfl ?_
      refine j_iload_n hJ dX12_findDominators_124 rfl 1 rfl ?_
      refine j_iload_n hJ dX12_findDominators_125 rfl 2 rfl ?_
      refine j_callVi hJ (c_X12_at (l := l) (D := D) (cy := cy) (ad := ad) hin) rfl om_1153 ⟨rfl, rfl, Nat.le_of_ble_eq_true rfl, Nat.le_of_ble_eq_true rfl⟩ [.int (Ii x1), .int (Ii x2)] mv_X12_545 hd_X12_atv kR_0 rfl rfl rfl (Nat.le_of_ble_eq_true rfl) dX12_findDominators_126 ⟨x1, x2, rfl, gx1, gx2, hF⟩ (fun r3 M4 gr3 qM4 => ?_)
      have hF := qM4 gr3
      refine j_iload_n hJ dX12_findDominators_129 rfl 3 rfl ?_
      refine j_iast hJ gr3 gx3 kR_48 hF.1 hF.2.1 dX12_findDominators_130 (fun M5 eM5 => ?_)
      have hF := hF.2.2 M5 eM5
      refine j_aload_n hJ dX12_findDominators_131 rfl 0 rfl ?_
      refine j_gr (e := 47) hJ kR_0 fR_15_57 fl_X12_210 dX12_findDominators_132 rfl ?_
      refine j_aload_n hJ dX12_findDominators_135 rfl 0 rfl ?_
      refine j_iload_n hJ dX12_findDominators_136 rfl 1 rfl ?_
      refine j_iload_n hJ dX12_findDominators_137 rfl 2 rfl ?_
      refine j_callVi hJ (c_X12_at (l := l) (D := D) (cy := cy) (ad := ad) hin) rfl om_1153 ⟨rfl, rfl, Nat.le_of_ble_eq_true rfl, Nat.le_of_ble_eq_true rfl⟩ [.int (Ii x1), .int (Ii x2)] mv_X12_545 hd_X12_atv kR_0 rfl rfl rfl (Nat.le_of_ble_eq_true rfl) dX12_findDominators_138 ⟨x1, x2, rfl, gx1, gx2, hF⟩ (fun r6 M7 gr6 qM7 => ?_)
      have hF := qM7 gr6
      refine j_iload hJ dX12_findDominators_141 4 rfl ?_
      refine j_iast hJ gr6 gx4 kR_47 hF.1 hF.2.1 dX12_findDominators_143 (fun M8 eM8 => ?_)
      have hF := hF.2.2 M8 eM8
      refine j_iconst hJ dX12_findDominators_144 ?_
      refine j_istore (lv' := [(5, .int (Ii 0)), (0, .ref (ad 0)), (1, .int (Ii x1)), (2, .int (Ii x2)), (3, .int (Ii x3)), (4, .int (Ii x4))]) hJ dX12_findDominators_145 (by decide) rfl ?_
      exact j_sub hJ [1, 2, 3, 4, 0] rfl (k_X12_findDominators_b147 hin  hJ hK32 x1 x2 x3 0 _ gx1 gx2 gx3 rk_0 hF)
    · have hF := hF.2 z2
      refine j_iload_n hJ dX12_findDominators_69 rfl 3 rfl ?_
      refine j_aload_n hJ dX12_findDominators_70 rfl 0 rfl ?_
      refine j_gr (e := 60) hJ kR_0 fR_15_70 fl_X12_249 dX12_findDominators_71 rfl ?_
      refine j_iload hJ dX12_findDominators_74 5 rfl ?_
      refine j_zald hJ gx5 kR_60 hF.1 hF.2.1 dX12_findDominators_76 (fun v9 ev9 gv9 => ?_)
      have hF := hF.2.2 v9 ev9 gv9
      refine j_if_eq hJ 84 (jz_ri gv9) dX12_findDominators_77 (by decide) (fun z10 => ?_) (fun z10 => ?_)
      · have hF := hF.1 z10
        refine j_iconst hJ dX12_findDominators_84 ?_
        exact j_sub hJ [0, 1, 2, 4, 5] rfl (k_X12_findDominators_b85 hin  hJ hK32 ih x1 x2 x4 x5 1 x3 _ gx1 gx2 gx4 gx5 rk_1 gx3 hF)
      · have hF := hF.2 z10
        refine j_iconst hJ dX12_findDominators_80 ?_
        refine j_goto hJ 85 dX12_findDominators_81 (by decide) ?_
        exact j_sub hJ [0, 1, 2, 4, 5] rfl (k_X12_findDominators_b85 hin  hJ hK32 ih x1 x2 x4 x5 0 x3 _ gx1 gx2 gx4 gx5 rk_0 gx3 hF)
  intro x1 x2 x3 x4 x5 M gx1 gx2 gx3 gx4 gx5 hF
  obtain ⟨n, hF⟩ := hF
  exact H9 n x1 x2 x3 x4 x5 M gx1 gx2 gx3 gx4 gx5 hF
set_option maxHeartbeats 4000000 in
set_option maxRecDepth 100000 in
theorem k_X12_findDominators_b32 {l : Launch} {D : va_G} {cy : Nat → ClassId} {ad : Nat → Nat} {Q : Int → MM → Prop} {J : Nat → List (Nat × Value) → List Value → MM → Prop} (hin : jIn ad ksR.length)   (hJ : jOk l D vwCl (tyR cy) cy ad ftR ksR (XtR ad) Om RX12 cX12_findDominators 7 0 ({ frames := 5, cells := 0, slots := 0, locals := 121 } : Room) Q J)  : ∀ (x1 x2 : Int) (M : MM), ri_ x1 → ri_ x2 → w_X12_findDominators_b32  Q  x1 x2 M → J 32 [(0, .ref (ad 0)), (1, .int (Ii x1)), (2, .int (Ii x2))] [] M := by
  have H9 : ∀ (n : Nat) (x1 x2 : Int) (M : MM), ri_ x1 → ri_ x2 → jit (fun _ _ _ => False) (wb_X12_findDominators_b32  Q ) n x1 x2 M → J 32 [(0, .ref (ad 0)), (1, .int (Ii x1)), (2, .int (Ii x2))] [] M := by
    intro n
    induction n with
    | zero => intro x1 x2 M gx1 gx2 hF; exact False.elim hF
    | succ n ih =>
    intro x1 x2 M gx1 gx2 hF
    have hF : wb_X12_findDominators_b32  Q  (jit (fun _ _ _ => False) (wb_X12_findDominators_b32  Q ) n) x1 x2 M := hF
    unfold wb_X12_findDominators_b32 at hF
    refine j_iload_n hJ dX12_findDominators_32 rfl 2 rfl ?_
    refine j_aload_n hJ dX12_findDominators_33 rfl 0 rfl ?_
    refine j_gr (e := 38) hJ kR_0 fR_15_48 fl_X12_183 dX12_findDominators_34 rfl ?_
    refine j_iload_n hJ dX12_findDominators_37 rfl 1 rfl ?_
    refine j_iald hJ gx1 kR_38 hF.1 hF.2.1 dX12_findDominators_38 (fun v1 ev1 gv1 => ?_)
    have hF := hF.2.2 v1 ev1 gv1
    refine j_icmp_ge hJ 238 gx2 gv1 dX12_findDominators_39 (by decide) (fun z2 => ?_) (fun z2 => ?_)
    · have hF := hF.1 z2
      exact j_vret hJ rfl dX12_findDominators_238 hF
    · have hF := hF.2 z2
      refine j_aload_n hJ dX12_findDominators_42 rfl 0 rfl ?_
      refine j_iload_n hJ dX12_findDominators_43 rfl 1 rfl ?_
      refine j_iconst hJ dX12_findDominators_44 ?_
      refine j_iload_n hJ dX12_findDominators_45 rfl 2 rfl ?_
      refine j_iconst hJ dX12_findDominators_46 ?_
      refine j_callVv hJ (c_X12_reach (l := l) (D := D) (cy := cy) (ad := ad) hin) rfl om_1189 ⟨rfl, rfl, Nat.le_of_ble_eq_true rfl, Nat.le_of_ble_eq_true rfl⟩ [.int (Ii x1), .int (Ii (-1)), .int (Ii x2), .int (Ii 0)] mv_X12_591 hd_X12_reachv kR_0 rfl rfl rfl (Nat.le_of_ble_eq_true rfl) dX12_findDominators_47 ⟨x1, (-1), x2, 0, rfl, gx1, rk_m1, gx2, (by decide), hF⟩ (fun M4 qM4 => ?_)
      have hF := qM4
      refine j_iconst hJ dX12_findDominators_50 ?_
      refine j_istore_n (lv' := [(3, .int (Ii 0)), (0, .ref (ad 0)), (1, .int (Ii x1)), (2, .int (Ii x2))]) hJ dX12_findDominators_51 rfl (by decide) rfl ?_
      refine j_iconst hJ dX12_findDominators_52 ?_
      refine j_istore (lv' := [(4, .int (Ii 0)), (3, .int (Ii 0)), (0, .ref (ad 0)), (1, .int (Ii x1)), (2, .int (Ii x2))]) hJ dX12_findDominators_53 (by decide) rfl ?_
      refine j_iconst hJ dX12_findDominators_55 ?_
      refine j_istore (lv' := [(5, .int (Ii 0)), (4, .int (Ii 0)), (3, .int (Ii 0)), (0, .ref (ad 0)), (1, .int (Ii x1)), (2, .int (Ii x2))]) hJ dX12_findDominators_56 (by decide) rfl ?_
      exact j_sub hJ [3, 4, 5, 2, 1, 0] rfl (k_X12_findDominators_b58 hin  hJ ih x1 x2 0 0 0 _ gx1 gx2 rk_0 rk_0 rk_0 hF)
  intro x1 x2 M gx1 gx2 hF
  obtain ⟨n, hF⟩ := hF
  exact H9 n x1 x2 M gx1 gx2 hF
set_option maxHeartbeats 4000000 in
set_option maxRecDepth 100000 in
theorem k_X12_findDominators_b2 {l : Launch} {D : va_G} {cy : Nat → ClassId} {ad : Nat → Nat} {Q : Int → MM → Prop} {J : Nat → List (Nat × Value) → List Value → MM → Prop} (hin : jIn ad ksR.length)   (hJ : jOk l D vwCl (tyR cy) cy ad ftR ksR (XtR ad) Om RX12 cX12_findDominators 7 0 ({ frames := 5, cells := 0, slots := 0, locals := 121 } : Room) Q J)  : ∀ (x1 x2 : Int) (M : MM), ri_ x1 → ri_ x2 → w_X12_findDominators_b2  Q  x1 x2 M → J 2 [(0, .ref (ad 0)), (1, .int (Ii x1)), (2, .int (Ii x2))] [] M := by
  have H9 : ∀ (n : Nat) (x1 x2 : Int) (M : MM), ri_ x1 → ri_ x2 → jit (fun _ _ _ => False) (wb_X12_findDominators_b2  Q ) n x1 x2 M → J 2 [(0, .ref (ad 0)), (1, .int (Ii x1)), (2, .int (Ii x2))] [] M := by
    intro n
    induction n with
    | zero => intro x1 x2 M gx1 gx2 hF; exact False.elim hF
    | succ n ih =>
    intro x1 x2 M gx1 gx2 hF
    have hF : wb_X12_findDominators_b2  Q  (jit (fun _ _ _ => False) (wb_X12_findDominators_b2  Q ) n) x1 x2 M := hF
    unfold wb_X12_findDominators_b2 at hF
    refine j_iload_n hJ dX12_findDominators_2 rfl 2 rfl ?_
    refine j_aload_n hJ dX12_findDominators_3 rfl 0 rfl ?_
    refine j_gr (e := 38) hJ kR_0 fR_15_48 fl_X12_183 dX12_findDominators_4 rfl ?_
    refine j_iload_n hJ dX12_findDominators_7 rfl 1 rfl ?_
    refine j_iald hJ gx1 kR_38 hF.1 hF.2.1 dX12_findDominators_8 (fun v1 ev1 gv1 => ?_)
    have hF := hF.2.2 v1 ev1 gv1
    refine j_icmp_ge hJ 30 gx2 gv1 dX12_findDominators_9 (by decide) (fun z2 => ?_) (fun z2 => ?_)
    · have hF := hF.1 z2
      refine j_iconst hJ dX12_findDominators_30 ?_
      refine j_istore_n (lv' := [(2, .int (Ii 0)), (0, .ref (ad 0)), (1, .int (Ii x1))]) hJ dX12_findDominators_31 rfl (by decide) rfl ?_
      exact j_sub hJ [1, 2, 0] rfl (k_X12_findDominators_b32 hin  hJ  x1 0 _ gx1 rk_0 hF)
    · have hF := hF.2 z2
      refine j_aload_n hJ dX12_findDominators_12 rfl 0 rfl ?_
      refine j_gr (e := 46) hJ kR_0 fR_15_56 fl_X12_207 dX12_findDominators_13 rfl ?_
      refine j_aload_n hJ dX12_findDominators_16 rfl 0 rfl ?_
      refine j_iload_n hJ dX12_findDominators_17 rfl 1 rfl ?_
      refine j_iload_n hJ dX12_findDominators_18 rfl 2 rfl ?_
      refine j_callVi hJ (c_X12_at (l := l) (D := D) (cy := cy) (ad := ad) hin) rfl om_1153 ⟨rfl, rfl, Nat.le_of_ble_eq_true rfl, Nat.le_of_ble_eq_true rfl⟩ [.int (Ii x1), .int (Ii x2)] mv_X12_545 hd_X12_atv kR_0 rfl rfl rfl (Nat.le_of_ble_eq_true rfl) dX12_findDominators_19 ⟨x1, x2, rfl, gx1, gx2, hF⟩ (fun r3 M4 gr3 qM4 => ?_)
      have hF := qM4 gr3
      refine j_iconst hJ dX12_findDominators_22 ?_
      refine j_iast hJ gr3 rk_m1 kR_46 hF.1 hF.2.1 dX12_findDominators_23 (fun M5 eM5 => ?_)
      have hF := hF.2.2 M5 eM5
      refine j_iinc (lv' := [(2, .int (Ii (x2 + 1))), (0, .ref (ad 0)), (1, .int (Ii x1))]) (k := 2) hJ dX12_findDominators_24 rfl (by decide) rfl ?_
      have g6 := hF.1; have hF := hF.2
      refine j_goto hJ 2 dX12_findDominators_27 (by decide) ?_
      exact j_sub hJ [1, 2, 0] rfl (ih x1 (x2 + 1) _ gx1 g6 hF)
  intro x1 x2 M gx1 gx2 hF
  obtain ⟨n, hF⟩ := hF
  exact H9 n x1 x2 M gx1 gx2 hF
set_option maxHeartbeats 4000000 in
set_option maxRecDepth 100000 in
theorem c_X12_findDominators {l : Launch} {D : va_G} {cy : Nat → ClassId} {ad : Nat → Nat} (hin : jIn ad ksR.length) : jCN l D vwCl (tyR cy) cy ad ftR ksR (XtR ad) yX12_findDominators (.code yX12_findDominators cX12_findDominators 7 none :: Om) ({ frames := 5, cells := 0, slots := 0, locals := 121 } : Room) 0 (W_X12_findDominators ad) := by
  refine jCN_of (y := yX12_findDominators) (cc := cX12_findDominators) (nL := 7) (rk := 0) (rm := ({ frames := 5, cells := 0, slots := 0, locals := 121 } : Room)) (own := RX12) (tyR_ok cy) hin (XtR_ok ad) Om_good (by decide) rfl ?_
  intro Q av M hF
  obtain ⟨p1, rfl, gp1, hF⟩ := hF
  refine ⟨Nat.le_of_ble_eq_true rfl, fun J hJ => ?_⟩
  show J 0 [(0, .ref (ad 0)), (1, .int (Ii p1))] [] M
  unfold w_X12_findDominators at hF
  refine j_iconst hJ dX12_findDominators_0 ?_
  refine j_istore_n (lv' := [(2, .int (Ii 0)), (0, .ref (ad 0)), (1, .int (Ii p1))]) hJ dX12_findDominators_1 rfl (by decide) rfl ?_
  exact j_sub hJ [1, 2, 0] rfl (k_X12_findDominators_b2 hin  hJ  p1 0 _ gp1 rk_0 hF)
