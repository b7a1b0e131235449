def W_X12_beginText (ad : Nat → Nat) (Q : Int → MM → Prop) (av : List Value) (M : MM) : Prop := ∃ (p1 : Int), av = [.ref (ad 0), .int (Ii p1)] ∧ ri_ p1 ∧ w_X12_beginText  Q p1 M
set_option maxHeartbeats 4000000 in
set_option maxRecDepth 100000 in
theorem c_X12_beginText {l : Launch} {D : va_G} {cy : Nat → ClassId} {ad : Nat → Nat} (hin : jIn ad ksR.length) : jCN l D vwCl (tyR cy) cy ad ftR ksR (XtR ad) yX12_beginText (.code yX12_beginText cX12_beginText 2 none :: Om) ({ frames := 3, cells := 0, slots := 0, locals := 64 } : Room) 0 (W_X12_beginText ad) := by
  refine jCN_of (y := yX12_beginText) (cc := cX12_beginText) (nL := 2) (rk := 0) (rm := ({ frames := 3, cells := 0, slots := 0, locals := 64 } : Room)) (own := RX12) (tyR_ok cy) hin (XtR_ok ad) Om_good (by decide) rfl ?_
  intro Q av M hF
  obtain ⟨p1, rfl, gp1, hF⟩ := hF
  refine ⟨Nat.le_of_ble_eq_true rfl, fun J hJ => ?_⟩
  show J 0 [(0, .ref (ad 0)), (1, .int (Ii p1))] [] M
  unfold w_X12_beginText at hF
  refine j_aload_n hJ dX12_beginText_0 rfl 0 rfl ?_
  refine j_iload_n hJ dX12_beginText_1 rfl 1 rfl ?_
  refine j_pi hJ gp1 kR_0 fR_15_91 rfl fp_X12_673 dX12_beginText_2 (fun M1 eM1 => ?_)
  have hF := hF M1 eM1
  refine j_aload_n hJ dX12_beginText_5 rfl 0 rfl ?_
  refine j_iconst hJ dX12_beginText_6 ?_
  refine j_pi hJ rk_0 kR_0 fR_15_92 rfl fp_X12_670 dX12_beginText_7 (fun M2 eM2 => ?_)
  have hF := hF M2 eM2
  refine j_aload_n hJ dX12_beginText_10 rfl 0 rfl ?_
  refine j_iconst hJ dX12_beginText_11 ?_
  refine j_pi hJ rk_0 kR_0 fR_15_93 rfl fp_X12_676 dX12_beginText_12 (fun M3 eM3 => ?_)
  have hF := hF M3 eM3
  refine j_aload_n hJ dX12_beginText_15 rfl 0 rfl ?_
  refine j_iconst hJ dX12_beginText_16 ?_
  refine j_pi hJ rk_0 kR_0 fR_15_94 rfl fp_X12_761 dX12_beginText_17 (fun M4 eM4 => ?_)
  have hF := hF M4 eM4
  refine j_aload_n hJ dX12_beginText_20 rfl 0 rfl ?_
  refine j_iconst hJ dX12_beginText_21 ?_
  refine j_pi hJ rk_0 kR_0 fR_15_83 rfl fp_X12_625 dX12_beginText_22 (fun M5 eM5 => ?_)
  have hF := hF M5 eM5
  refine j_aload_n hJ dX12_beginText_25 rfl 0 rfl ?_
  refine j_iconst hJ dX12_beginText_26 ?_
  refine j_pi hJ rk_m1 kR_0 fR_15_84 rfl fp_X12_628 dX12_beginText_27 (fun M6 eM6 => ?_)
  have hF := hF M6 eM6
  refine j_aload_n hJ dX12_beginText_30 rfl 0 rfl ?_
  refine j_iconst hJ dX12_beginText_31 ?_
  refine j_pi hJ rk_0 kR_0 fR_15_78 rfl fp_X12_631 dX12_beginText_32 (fun M7 eM7 => ?_)
  have hF := hF M7 eM7
  refine j_aload_n hJ dX12_beginText_35 rfl 0 rfl ?_
  refine j_callVv hJ (c_X12_advance (l := l) (D := D) (cy := cy) (ad := ad) hin) rfl om_1355 ⟨rfl, rfl, Nat.le_of_ble_eq_true rfl, Nat.le_of_ble_eq_true rfl⟩ [] mv_X12_661 hd_X12_advancev kR_0 rfl rfl rfl (Nat.le_of_ble_eq_true rfl) dX12_beginText_36 ⟨rfl, hF⟩ (fun M9 qM9 => ?_)
  have hF := qM9
  exact j_vret hJ rfl dX12_beginText_39 hF
def W_X12_endText (ad : Nat → Nat) (Q : Int → MM → Prop) (av : List Value) (M : MM) : Prop := av = [.ref (ad 0)] ∧ w_X12_endText  Q  M
set_option maxHeartbeats 4000000 in
set_option maxRecDepth 100000 in
theorem k_X12_endText_b42 {l : Launch} {D : va_G} {cy : Nat → ClassId} {ad : Nat → Nat} {Q : Int → MM → Prop} {J : Nat → List (Nat × Value) → List Value → MM → Prop} (hin : jIn ad ksR.length)   (hJ : jOk l D vwCl (tyR cy) cy ad ftR ksR (XtR ad) Om RX12 cX12_endText 1 0 ({ frames := 2, cells := 0, slots := 0, locals := 42 } : Room) Q J)  : ∀ (s0 : Int) (M : MM), ri_ s0 → w_X12_endText_b42  Q  s0 M → J 42 [] [.int (Ii s0), .ref (ad 0)] M := by
  intro s0 M gs0 hF
  unfold w_X12_endText_b42 at hF
  refine j_pi hJ gs0 kR_0 fR_15_82 rfl fp_X12_268 dX12_endText_42 (fun M1 eM1 => ?_)
  have hF := hF M1 eM1
  exact j_vret hJ rfl dX12_endText_45 hF
set_option maxHeartbeats 4000000 in
set_option maxRecDepth 100000 in
theorem k_X12_endText_b18 {l : Launch} {D : va_G} {cy : Nat → ClassId} {ad : Nat → Nat} {Q : Int → MM → Prop} {J : Nat → List (Nat × Value) → List Value → MM → Prop} (hin : jIn ad ksR.length)   (hJ : jOk l D vwCl (tyR cy) cy ad ftR ksR (XtR ad) Om RX12 cX12_endText 1 0 ({ frames := 2, cells := 0, slots := 0, locals := 42 } : Room) Q J)  : ∀ (M : MM), w_X12_endText_b18  Q   M → J 18 [(0, .ref (ad 0))] [] M := by
  intro  M  hF
  unfold w_X12_endText_b18 at hF
  refine j_aload_n hJ dX12_endText_18 rfl 0 rfl ?_
  refine j_aload_n hJ dX12_endText_19 rfl 0 rfl ?_
  refine j_gi hJ kR_0 fR_15_83 rfl fl_X12_625 dX12_endText_20 (fun v1 ev1 gv1 => ?_)
  have hF := hF v1 ev1 gv1
  refine j_pi hJ gv1 kR_0 fR_15_81 rfl fp_X12_776 dX12_endText_23 (fun M2 eM2 => ?_)
  have hF := hF M2 eM2
  refine j_aload_n hJ dX12_endText_26 rfl 0 rfl ?_
  refine j_aload_n hJ dX12_endText_27 rfl 0 rfl ?_
  refine j_gi hJ kR_0 fR_15_83 rfl fl_X12_625 dX12_endText_28 (fun v3 ev3 gv3 => ?_)
  have hF := hF v3 ev3 gv3
  refine j_if_le hJ 41 gv3 dX12_endText_31 (by decide) (fun z4 => ?_) (fun z4 => ?_)
  · have hF := hF.1 z4
    refine j_iconst hJ dX12_endText_41 ?_
    exact j_sub hJ [] rfl (k_X12_endText_b42 hin  hJ  (-1) _ rk_m1 hF)
  · have hF := hF.2 z4
    refine j_aload_n hJ dX12_endText_34 rfl 0 rfl ?_
    refine j_gi hJ kR_0 fR_15_84 rfl fl_X12_628 dX12_endText_35 (fun v5 ev5 gv5 => ?_)
    have hF := hF v5 ev5 gv5
    refine j_goto hJ 42 dX12_endText_38 (by decide) ?_
    exact j_sub hJ [] rfl (k_X12_endText_b42 hin  hJ  v5 _ gv5 hF)
set_option maxHeartbeats 4000000 in
set_option maxRecDepth 100000 in
theorem c_X12_endText {l : Launch} {D : va_G} {cy : Nat → ClassId} {ad : Nat → Nat} (hin : jIn ad ksR.length) : jCN l D vwCl (tyR cy) cy ad ftR ksR (XtR ad) yX12_endText (.code yX12_endText cX12_endText 1 none :: Om) ({ frames := 2, cells := 0, slots := 0, locals := 42 } : Room) 0 (W_X12_endText ad) := by
  refine jCN_of (y := yX12_endText) (cc := cX12_endText) (nL := 1) (rk := 0) (rm := ({ frames := 2, cells := 0, slots := 0, locals := 42 } : Room)) (own := RX12) (tyR_ok cy) hin (XtR_ok ad) Om_good (by decide) rfl ?_
  intro Q av M hF
  obtain ⟨rfl, hF⟩ := hF
  refine ⟨Nat.le_of_ble_eq_true rfl, fun J hJ => ?_⟩
  show J 0 [(0, .ref (ad 0))] [] M
  unfold w_X12_endText at hF
  refine j_aload_n hJ dX12_endText_0 rfl 0 rfl ?_
  refine j_gi hJ kR_0 fR_15_83 rfl fl_X12_625 dX12_endText_1 (fun v1 ev1 gv1 => ?_)
  have hF := hF v1 ev1 gv1
  refine j_if_ne hJ 18 gv1 dX12_endText_4 (by decide) (fun z2 => ?_) (fun z2 => ?_)
  · have hF := hF.1 z2
    exact j_sub hJ [0] rfl (k_X12_endText_b18 hin  hJ   _  hF)
  · have hF := hF.2 z2
    refine j_aload_n hJ dX12_endText_7 rfl 0 rfl ?_
    refine j_gi hJ kR_0 fR_15_80 rfl fl_X12_644 dX12_endText_8 (fun v3 ev3 gv3 => ?_)
    have hF := hF v3 ev3 gv3
    refine j_if_eq hJ 18 gv3 dX12_endText_11 (by decide) (fun z4 => ?_) (fun z4 => ?_)
    · have hF := hF.1 z4
      exact j_sub hJ [0] rfl (k_X12_endText_b18 hin  hJ   _  hF)
    · have hF := hF.2 z4
      refine j_aload_n hJ dX12_endText_14 rfl 0 rfl ?_
      refine j_callVv hJ (c_X12_wrong (l := l) (D := D) (cy := cy) (ad := ad) hin) rfl om_1363 ⟨rfl, rfl, Nat.le_of_ble_eq_true rfl, Nat.le_of_ble_eq_true rfl⟩ [] mv_X12_664 hd_X12_wrongv kR_0 rfl rfl rfl (Nat.le_of_ble_eq_true rfl) dX12_endText_15 ⟨rfl, hF⟩ (fun M6 qM6 => ?_)
      have hF := qM6
      exact j_sub hJ [0] rfl (k_X12_endText_b18 hin  hJ   _  hF)
def W_X12_answerAll (ad : Nat → Nat) (Q : Int → MM → Prop) (av : List Value) (M : MM) : Prop := ∃ (p1 : Int) (p2 : Int) (p3 : Int) (p4 : Int), av = [.ref (ad 0), .int (Ii p1), .int (Ii p2), .int (Ii p3), .int (Ii p4)] ∧ ri_ p1 ∧ ri_ p2 ∧ ri_ p3 ∧ ri_ p4 ∧ w_X12_answerAll  Q p1 p2 p3 p4 M
set_option maxHeartbeats 4000000 in
set_option maxRecDepth 100000 in
theorem k_X12_answerAll_b179 {l : Launch} {D : va_G} {cy : Nat → ClassId} {ad : Nat → Nat} {Q : Int → MM → Prop} {J : Nat → List (Nat × Value) → List Value → MM → Prop} (hin : jIn ad ksR.length)   (hJ : jOk l D vwCl (tyR cy) cy ad ftR ksR (XtR ad) Om RX12 cX12_answerAll 6 0 ({ frames := 305, cells := 0, slots := 0, locals := 8822 } : Room) Q J)  : ∀ (M : MM), w_X12_answerAll_b179  Q   M → J 179 [(0, .ref (ad 0))] [] M := by
  intro  M  hF
  unfold w_X12_answerAll_b179 at hF
  refine j_aload_n hJ dX12_answerAll_179 rfl 0 rfl ?_
  refine j_gz hJ kR_0 fR_15_103 rfl fl_X12_782 dX12_answerAll_180 (fun v1 ev1 gv1 => ?_)
  have hF := hF v1 ev1 gv1
  refine j_if_eq hJ 196 (jz_ri gv1) dX12_answerAll_183 (by decide) (fun z2 => ?_) (fun z2 => ?_)
  · have hF := hF.1 z2
    exact j_vret hJ rfl dX12_answerAll_196 hF
  · have hF := hF.2 z2
    refine j_aload_n hJ dX12_answerAll_186 rfl 0 rfl ?_
    refine j_iconst hJ dX12_answerAll_187 ?_
    refine j_pi hJ rk_5 kR_0 fR_15_81 rfl fp_X12_776 dX12_answerAll_188 (fun M3 eM3 => ?_)
    have hF := hF M3 eM3
    refine j_aload_n hJ dX12_answerAll_191 rfl 0 rfl ?_
    refine j_iconst hJ dX12_answerAll_192 ?_
    refine j_pi hJ rk_m1 kR_0 fR_15_82 rfl fp_X12_268 dX12_answerAll_193 (fun M4 eM4 => ?_)
    have hF := hF M4 eM4
    exact j_vret hJ rfl dX12_answerAll_196 hF
set_option maxHeartbeats 4000000 in
set_option maxRecDepth 100000 in
theorem k_X12_answerAll_b173 {l : Launch} {D : va_G} {cy : Nat → ClassId} {ad : Nat → Nat} {Q : Int → MM → Prop} {J : Nat → List (Nat × Value) → List Value → MM → Prop} (hin : jIn ad ksR.length)   (hJ : jOk l D vwCl (tyR cy) cy ad ftR ksR (XtR ad) Om RX12 cX12_answerAll 6 0 ({ frames := 305, cells := 0, slots := 0, locals := 8822 } : Room) Q J) {K15 : Int → Int → Int → MM → Prop} (hK15 : ∀ (x3 x4 x5 : Int) (M : MM), ri_ x3 → ri_ x4 → ri_ x5 → K15 x3 x4 x5 M → J 15 [(0, .ref (ad 0)), (3, .int (Ii x3)), (4, .int (Ii x4)), (5, .int (Ii x5))] [] M) : ∀ (x3 x4 x5 : Int) (M : MM), ri_ x3 → ri_ x4 → ri_ x5 → w_X12_answerAll_b173  Q K15 x3 x4 x5 M → J 173 [(0, .ref (ad 0)), (3, .int (Ii x3)), (4, .int (Ii x4)), (5, .int (Ii x5))] [] M := by
  intro x3 x4 x5 M gx3 gx4 gx5 hF
  unfold w_X12_answerAll_b173 at hF
  refine j_iinc (lv' := [(5, .int (Ii (x5 + 1))), (0, .ref (ad 0)), (3, .int (Ii x3)), (4, .int (Ii x4))]) (k := 3) hJ dX12_answerAll_173 rfl (by decide) rfl ?_
  have g1 := hF.1; have hF := hF.2
  refine j_goto hJ 15 dX12_answerAll_176 (by decide) ?_
  exact j_sub hJ [1, 2, 3, 0] rfl (hK15 x3 x4 (x5 + 1) _ gx3 gx4 g1 hF)
set_option maxHeartbeats 4000000 in
set_option maxRecDepth 100000 in
theorem k_X12_answerAll_b124 {l : Launch} {D : va_G} {cy : Nat → ClassId} {ad : Nat → Nat} {Q : Int → MM → Prop} {J : Nat → List (Nat × Value) → List Value → MM → Prop} (hin : jIn ad ksR.length)   (hJ : jOk l D vwCl (tyR cy) cy ad ftR ksR (XtR ad) Om RX12 cX12_answerAll 6 0 ({ frames := 305, cells := 0, slots := 0, locals := 8822 } : Room) Q J) {K15 : Int → Int → Int → MM → Prop} (hK15 : ∀ (x3 x4 x5 : Int) (M : MM), ri_ x3 → ri_ x4 → ri_ x5 → K15 x3 x4 x5 M → J 15 [(0, .ref (ad 0)), (3, .int (Ii x3)), (4, .int (Ii x4)), (5, .int (Ii x5))] [] M) : ∀ (x3 x4 x5 : Int) (M : MM), ri_ x3 → ri_ x4 → ri_ x5 → w_X12_answerAll_b124  Q K15 x3 x4 x5 M → J 124 [(0, .ref (ad 0)), (3, .int (Ii x3)), (4, .int (Ii x4)), (5, .int (Ii x5))] [] M := by
  intro x3 x4 x5 M gx3 gx4 gx5 hF
  unfold w_X12_answerAll_b124 at hF
  refine j_aload_n hJ dX12_answerAll_124 rfl 0 rfl ?_
  refine j_gr (e := 75) hJ kR_0 fR_15_107 fl_X12_300 dX12_answerAll_125 rfl ?_
  refine j_aload_n hJ dX12_answerAll_128 rfl 0 rfl ?_
  refine j_gi hJ kR_0 fR_15_110 rfl fl_X12_852 dX12_answerAll_129 (fun v1 ev1 gv1 => ?_)
  have hF := hF v1 ev1 gv1
  refine j_aload_n hJ dX12_answerAll_132 rfl 0 rfl ?_
  refine j_gi hJ kR_0 fR_15_100 rfl fl_X12_810 dX12_answerAll_133 (fun v2 ev2 gv2 => ?_)
  have hF := hF v2 ev2 gv2
  refine j_iast hJ gv1 gv2 kR_75 hF.1 hF.2.1 dX12_answerAll_136 (fun M3 eM3 => ?_)
  have hF := hF.2.2 M3 eM3
  refine j_aload_n hJ dX12_answerAll_137 rfl 0 rfl ?_
  refine j_gr (e := 76) hJ kR_0 fR_15_108 fl_X12_303 dX12_answerAll_138 rfl ?_
  refine j_aload_n hJ dX12_answerAll_141 rfl 0 rfl ?_
  refine j_gi hJ kR_0 fR_15_110 rfl fl_X12_852 dX12_answerAll_142 (fun v4 ev4 gv4 => ?_)
  have hF := hF v4 ev4 gv4
  refine j_aload_n hJ dX12_answerAll_145 rfl 0 rfl ?_
  refine j_gi hJ kR_0 fR_15_99 rfl fl_X12_785 dX12_answerAll_146 (fun v5 ev5 gv5 => ?_)
  have hF := hF v5 ev5 gv5
  refine j_iast hJ gv4 gv5 kR_76 hF.1 hF.2.1 dX12_answerAll_149 (fun M6 eM6 => ?_)
  have hF := hF.2.2 M6 eM6
  refine j_aload_n hJ dX12_answerAll_150 rfl 0 rfl ?_
  refine j_gr (e := 77) hJ kR_0 fR_15_109 fl_X12_306 dX12_answerAll_151 rfl ?_
  refine j_aload_n hJ dX12_answerAll_154 rfl 0 rfl ?_
  refine j_gi hJ kR_0 fR_15_110 rfl fl_X12_852 dX12_answerAll_155 (fun v7 ev7 gv7 => ?_)
  have hF := hF v7 ev7 gv7
  refine j_aload_n hJ dX12_answerAll_158 rfl 0 rfl ?_
  refine j_gl hJ kR_0 fR_15_102 rfl fl_X12_788 dX12_answerAll_159 (fun v8 ev8 gv8 => ?_)
  have hF := hF v8 ev8 gv8
  refine j_last hJ gv7 gv8 kR_77 hF.1 hF.2.1 dX12_answerAll_162 (fun M9 eM9 => ?_)
  have hF := hF.2.2 M9 eM9
  refine j_aload_n hJ dX12_answerAll_163 rfl 0 rfl ?_
  refine j_dup hJ dX12_answerAll_164 rfl ?_
  refine j_gi hJ kR_0 fR_15_110 rfl fl_X12_852 dX12_answerAll_165 (fun v10 ev10 gv10 => ?_)
  have hF := hF v10 ev10 gv10
  refine j_iconst hJ dX12_answerAll_168 ?_
  refine j_iadd hJ dX12_answerAll_169 ?_
  have g11 := hF.1; have hF := hF.2
  refine j_pi hJ g11 kR_0 fR_15_110 rfl fp_X12_852 dX12_answerAll_170 (fun M12 eM12 => ?_)
  have hF := hF M12 eM12
  exact j_sub hJ [0, 1, 2, 3] rfl (k_X12_answerAll_b173 hin  hJ hK15 x3 x4 x5 _ gx3 gx4 gx5 hF)
set_option maxHeartbeats 4000000 in
set_option maxRecDepth 100000 in
theorem k_X12_answerAll_b102 {l : Launch} {D : va_G} {cy : Nat → ClassId} {ad : Nat → Nat} {Q : Int → MM → Prop} {J : Nat → List (Nat × Value) → List Value → MM → Prop} (hin : jIn ad ksR.length)   (hJ : jOk l D vwCl (tyR cy) cy ad ftR ksR (XtR ad) Om RX12 cX12_answerAll 6 0 ({ frames := 305, cells := 0, slots := 0, locals := 8822 } : Room) Q J) {K15 : Int → Int → Int → MM → Prop} (hK15 : ∀ (x3 x4 x5 : Int) (M : MM), ri_ x3 → ri_ x4 → ri_ x5 → K15 x3 x4 x5 M → J 15 [(0, .ref (ad 0)), (3, .int (Ii x3)), (4, .int (Ii x4)), (5, .int (Ii x5))] [] M) : ∀ (x3 x4 x5 : Int) (M : MM), ri_ x3 → ri_ x4 → ri_ x5 → w_X12_answerAll_b102  Q K15 x3 x4 x5 M → J 102 [(0, .ref (ad 0)), (3, .int (Ii x3)), (4, .int (Ii x4)), (5, .int (Ii x5))] [] M := by
  intro x3 x4 x5 M gx3 gx4 gx5 hF
  unfold w_X12_answerAll_b102 at hF
  refine j_aload_n hJ dX12_answerAll_102 rfl 0 rfl ?_
  refine j_iconst hJ dX12_answerAll_103 ?_
  refine j_aload_n hJ dX12_answerAll_104 rfl 0 rfl ?_
  refine j_gi hJ kR_0 fR_15_100 rfl fl_X12_810 dX12_answerAll_105 (fun v1 ev1 gv1 => ?_)
  have hF := hF v1 ev1 gv1
  refine j_i2l hJ gv1 dX12_answerAll_108 ?_
  refine j_callVv hJ (c_X12_give (l := l) (D := D) (cy := cy) (ad := ad) hin) rfl om_1217 ⟨rfl, rfl, Nat.le_of_ble_eq_true rfl, Nat.le_of_ble_eq_true rfl⟩ [.int (Ii 2), .long (Ll v1)] mv_X12_791 hd_X12_givev kR_0 rfl rfl rfl (Nat.le_of_ble_eq_true rfl) dX12_answerAll_109 ⟨2, v1, rfl, rk_2, (rl_ri gv1), hF⟩ (fun M3 qM3 => ?_)
  have hF := qM3
  refine j_iload hJ dX12_answerAll_112 2 rfl ?_
  refine j_iconst hJ dX12_answerAll_114 ?_
  refine j_icmp_eq hJ 124 gx4 rk_m1 dX12_answerAll_115 (by decide) (fun z4 => ?_) (fun z4 => ?_)
  · have hF := hF.1 z4
    exact j_sub hJ [0, 1, 2, 3] rfl (k_X12_answerAll_b124 hin  hJ hK15 x3 x4 x5 _ gx3 gx4 gx5 hF)
  · have hF := hF.2 z4
    refine j_aload_n hJ dX12_answerAll_118 rfl 0 rfl ?_
    refine j_iload hJ dX12_answerAll_119 2 rfl ?_
    refine j_callVv hJ (c_X12_work (l := l) (D := D) (cy := cy) (ad := ad) hin) rfl om_1253 ⟨rfl, rfl, Nat.le_of_ble_eq_true rfl, Nat.le_of_ble_eq_true rfl⟩ [.int (Ii x4)] mv_X12_829 hd_X12_workv kR_0 rfl rfl rfl (Nat.le_of_ble_eq_true rfl) dX12_answerAll_121 ⟨x4, rfl, gx4, hF⟩ (fun M6 qM6 => ?_)
    have hF := qM6
    exact j_sub hJ [0, 1, 2, 3] rfl (k_X12_answerAll_b124 hin  hJ hK15 x3 x4 x5 _ gx3 gx4 gx5 hF)
set_option maxHeartbeats 4000000 in
set_option maxRecDepth 100000 in
theorem k_X12_answerAll_b70 {l : Launch} {D : va_G} {cy : Nat → ClassId} {ad : Nat → Nat} {Q : Int → MM → Prop} {J : Nat → List (Nat × Value) → List Value → MM → Prop} (hin : jIn ad ksR.length)   (hJ : jOk l D vwCl (tyR cy) cy ad ftR ksR (XtR ad) Om RX12 cX12_answerAll 6 0 ({ frames := 305, cells := 0, slots := 0, locals := 8822 } : Room) Q J) {K15 : Int → Int → Int → MM → Prop} (hK15 : ∀ (x3 x4 x5 : Int) (M : MM), ri_ x3 → ri_ x4 → ri_ x5 → K15 x3 x4 x5 M → J 15 [(0, .ref (ad 0)), (3, .int (Ii x3)), (4, .int (Ii x4)), (5, .int (Ii x5))] [] M) : ∀ (x3 x4 x5 : Int) (M : MM), ri_ x3 → ri_ x4 → ri_ x5 → w_X12_answerAll_b70  Q K15 x3 x4 x5 M → J 70 [(0, .ref (ad 0)), (3, .int (Ii x3)), (4, .int (Ii x4)), (5, .int (Ii x5))] [] M := by
  intro x3 x4 x5 M gx3 gx4 gx5 hF
  unfold w_X12_answerAll_b70 at hF
  refine j_aload_n hJ dX12_answerAll_70 rfl 0 rfl ?_
  refine j_gz hJ kR_0 fR_15_103 rfl fl_X12_782 dX12_answerAll_71 (fun v1 ev1 gv1 => ?_)
  have hF := hF v1 ev1 gv1
  refine j_if_ne hJ 173 (jz_ri gv1) dX12_answerAll_74 (by decide) (fun z2 => ?_) (fun z2 => ?_)
  · have hF := hF.1 z2
    exact j_sub hJ [0, 1, 2, 3] rfl (k_X12_answerAll_b173 hin  hJ hK15 x3 x4 x5 _ gx3 gx4 gx5 hF)
  · have hF := hF.2 z2
    refine j_iload_n hJ dX12_answerAll_77 rfl 1 rfl ?_
    refine j_iconst hJ dX12_answerAll_78 ?_
    refine j_icmp_eq hJ 102 gx3 rk_m1 dX12_answerAll_79 (by decide) (fun z3 => ?_) (fun z3 => ?_)
    · have hF := hF.1 z3
      exact j_sub hJ [0, 1, 2, 3] rfl (k_X12_answerAll_b102 hin  hJ hK15 x3 x4 x5 _ gx3 gx4 gx5 hF)
    · have hF := hF.2 z3
      refine j_aload_n hJ dX12_answerAll_82 rfl 0 rfl ?_
      refine j_gi hJ kR_0 fR_15_99 rfl fl_X12_785 dX12_answerAll_83 (fun v4 ev4 gv4 => ?_)
      have hF := hF v4 ev4 gv4
      refine j_iconst hJ dX12_answerAll_86 ?_
      refine j_icmp_ne hJ 173 gv4 rk_1 dX12_answerAll_87 (by decide) (fun z5 => ?_) (fun z5 => ?_)
      · have hF := hF.1 z5
        exact j_sub hJ [0, 1, 2, 3] rfl (k_X12_answerAll_b173 hin  hJ hK15 x3 x4 x5 _ gx3 gx4 gx5 hF)
      · have hF := hF.2 z5
        refine j_aload_n hJ dX12_answerAll_90 rfl 0 rfl ?_
        refine j_gl hJ kR_0 fR_15_102 rfl fl_X12_788 dX12_answerAll_91 (fun v6 ev6 gv6 => ?_)
        have hF := hF v6 ev6 gv6
        refine j_lconst (x := 0) hJ dX12_answerAll_94 rfl ?_
        refine j_lcmp_ne hJ 102 gv6 lkm_0 dX12_answerAll_95 dX12_answerAll_96 (by decide) (fun z7 => ?_) (fun z7 => ?_)
        · have hF := hF.1 z7
          exact j_sub hJ [0, 1, 2, 3] rfl (k_X12_answerAll_b102 hin  hJ hK15 x3 x4 x5 _ gx3 gx4 gx5 hF)
        · have hF := hF.2 z7
          refine j_goto hJ 173 dX12_answerAll_99 (by decide) ?_
          exact j_sub hJ [0, 1, 2, 3] rfl (k_X12_answerAll_b173 hin  hJ hK15 x3 x4 x5 _ gx3 gx4 gx5 hF)
set_option maxHeartbeats 4000000 in
set_option maxRecDepth 100000 in
theorem k_X12_answerAll_b15 {l : Launch} {D : va_G} {cy : Nat → ClassId} {ad : Nat → Nat} {Q : Int → MM → Prop} {J : Nat → List (Nat × Value) → List Value → MM → Prop} (hin : jIn ad ksR.length)   (hJ : jOk l D vwCl (tyR cy) cy ad ftR ksR (XtR ad) Om RX12 cX12_answerAll 6 0 ({ frames := 305, cells := 0, slots := 0, locals := 8822 } : Room) Q J)  : ∀ (x3 x4 x5 : Int) (M : MM), ri_ x3 → ri_ x4 → ri_ x5 → w_X12_answerAll_b15  Q  x3 x4 x5 M → J 15 [(0, .ref (ad 0)), (3, .int (Ii x3)), (4, .int (Ii x4)), (5, .int (Ii x5))] [] M := by
  have H9 : ∀ (n : Nat) (x3 x4 x5 : Int) (M : MM), ri_ x3 → ri_ x4 → ri_ x5 → jit (fun _ _ _ _ => False) (wb_X12_answerAll_b15  Q ) n x3 x4 x5 M → J 15 [(0, .ref (ad 0)), (3, .int (Ii x3)), (4, .int (Ii x4)), (5, .int (Ii x5))] [] M := by
    intro n
    induction n with
    | zero => intro x3 x4 x5 M gx3 gx4 gx5 hF; exact False.elim hF
    | succ n ih =>
    intro x3 x4 x5 M gx3 gx4 gx5 hF
    have hF : wb_X12_answerAll_b15  Q  (jit (fun _ _ _ _ => False) (wb_X12_answerAll_b15  Q ) n) x3 x4 x5 M := hF
    unfold wb_X12_answerAll_b15 at hF
    refine j_iload hJ dX12_answerAll_15 3 rfl ?_
    refine j_aload_n hJ dX12_answerAll_17 rfl 0 rfl ?_
    refine j_gr (e := 74) hJ kR_0 fR_15_106 fl_X12_297 dX12_answerAll_18 rfl ?_
    refine j_bipush hJ dX12_answerAll_21 (by decide) ?_
    refine j_iald hJ rk_11 kR_74 (by decide) (by decide) dX12_answerAll_23 (fun v1 ev1 gv1 => ?_)
    have hF := hF v1 ev1 gv1
    refine j_icmp_ge hJ 179 gx5 gv1 dX12_answerAll_24 (by decide) (fun z2 => ?_) (fun z2 => ?_)
    · have hF := hF.1 z2
      exact j_sub hJ [0] rfl (k_X12_answerAll_b179 hin  hJ   _  hF)
    · have hF := hF.2 z2
      refine j_aload_n hJ dX12_answerAll_27 rfl 0 rfl ?_
      refine j_gz hJ kR_0 fR_15_103 rfl fl_X12_782 dX12_answerAll_28 (fun v3 ev3 gv3 => ?_)
      have hF := hF v3 ev3 gv3
      refine j_if_ne hJ 179 (jz_ri gv3) dX12_answerAll_31 (by decide) (fun z4 => ?_) (fun z4 => ?_)
      · have hF := hF.1 z4
        exact j_sub hJ [0] rfl (k_X12_answerAll_b179 hin  hJ   _  hF)
      · have hF := hF.2 z4
        refine j_aload_n hJ dX12_answerAll_34 rfl 0 rfl ?_
        refine j_callVv hJ (c_X12_step (l := l) (D := D) (cy := cy) (ad := ad) hin) rfl om_1249 ⟨rfl, rfl, Nat.le_of_ble_eq_true rfl, Nat.le_of_ble_eq_true rfl⟩ [] mv_X12_795 hd_X12_stepv kR_0 rfl rfl rfl (Nat.le_of_ble_eq_true rfl) dX12_answerAll_35 ⟨rfl, hF⟩ (fun M6 qM6 => ?_)
        have hF := qM6
        refine j_aload_n hJ dX12_answerAll_38 rfl 0 rfl ?_
        refine j_aload_n hJ dX12_answerAll_39 rfl 0 rfl ?_
        refine j_gr (e := 73) hJ kR_0 fR_15_105 fl_X12_294 dX12_answerAll_40 rfl ?_
        refine j_ldcw hJ 48400 om_1468 (by decide) dX12_answerAll_43 ?_
        refine j_iload hJ dX12_answerAll_46 3 rfl ?_
        refine j_iadd hJ dX12_answerAll_48 ?_
        have g7 := hF.1; have hF := hF.2
        refine j_iald hJ g7 kR_73 hF.1 hF.2.1 dX12_answerAll_49 (fun v8 ev8 gv8 => ?_)
        have hF := hF.2.2 v8 ev8 gv8
        refine j_pi hJ gv8 kR_0 fR_15_100 rfl fp_X12_810 dX12_answerAll_50 (fun M9 eM9 => ?_)
        have hF := hF M9 eM9
        refine j_iload_n hJ dX12_answerAll_53 rfl 1 rfl ?_
        refine j_iconst hJ dX12_answerAll_54 ?_
        refine j_icmp_eq hJ 70 gx3 rk_m1 dX12_answerAll_55 (by decide) (fun z10 => ?_) (fun z10 => ?_)
        · have hF := hF.1 z10
          exact j_sub hJ [0, 1, 2, 3] rfl (k_X12_answerAll_b70 hin  hJ ih x3 x4 x5 _ gx3 gx4 gx5 hF)
        · have hF := hF.2 z10
          refine j_aload_n hJ dX12_answerAll_58 rfl 0 rfl ?_
          refine j_gz hJ kR_0 fR_15_103 rfl fl_X12_782 dX12_answerAll_59 (fun v11 ev11 gv11 => ?_)
          have hF := hF v11 ev11 gv11
          refine j_if_ne hJ 70 (jz_ri gv11) dX12_answerAll_62 (by decide) (fun z12 => ?_) (fun z12 => ?_)
          · have hF := hF.1 z12
            exact j_sub hJ [0, 1, 2, 3] rfl (k_X12_answerAll_b70 hin  hJ ih x3 x4 x5 _ gx3 gx4 gx5 hF)
          · have hF := hF.2 z12
            refine j_aload_n hJ dX12_answerAll_65 rfl 0 rfl ?_
            refine j_iload_n hJ dX12_answerAll_66 rfl 1 rfl ?_
            refine j_callVv hJ (c_X12_work (l := l) (D := D) (cy := cy) (ad := ad) hin) rfl om_1253 ⟨rfl, rfl, Nat.le_of_ble_eq_true rfl, Nat.le_of_ble_eq_true rfl⟩ [.int (Ii x3)] mv_X12_829 hd_X12_workv kR_0 rfl rfl rfl (Nat.le_of_ble_eq_true rfl) dX12_answerAll_67 ⟨x3, rfl, gx3, hF⟩ (fun M14 qM14 => ?_)
            have hF := qM14
            exact j_sub hJ [0, 1, 2, 3] rfl (k_X12_answerAll_b70 hin  hJ ih x3 x4 x5 _ gx3 gx4 gx5 hF)
  intro x3 x4 x5 M gx3 gx4 gx5 hF
  obtain ⟨n, hF⟩ := hF
  exact H9 n x3 x4 x5 M gx3 gx4 gx5 hF
set_option maxHeartbeats 4000000 in
set_option maxRecDepth 100000 in
theorem c_X12_answerAll {l : Launch} {D : va_G} {cy : Nat → ClassId} {ad : Nat → Nat} (hin : jIn ad ksR.length) : jCN l D vwCl (tyR cy) cy ad ftR ksR (XtR ad) yX12_answerAll (.code yX12_answerAll cX12_answerAll 6 none :: Om) ({ frames := 305, cells := 0, slots := 0, locals := 8822 } : Room) 0 (W_X12_answerAll ad) := by
  refine jCN_of (y := yX12_answerAll) (cc := cX12_answerAll) (nL := 6) (rk := 0) (rm := ({ frames := 305, cells := 0, slots := 0, locals := 8822 } : Room)) (own := RX12) (tyR_ok cy) hin (XtR_ok ad) Om_good (by decide) rfl ?_
  intro Q av M hF
  obtain ⟨p1, p2, p3, p4, rfl, gp1, gp2, gp3, gp4, hF⟩ := hF
  refine ⟨Nat.le_of_ble_eq_true rfl, fun J hJ => ?_⟩
  show J 0 [(0, .ref (ad 0)), (1, .int (Ii p1)), (2, .int (Ii p2)), (3, .int (Ii p3)), (4, .int (Ii p4))] [] M
  unfold w_X12_answerAll at hF
  refine j_aload_n hJ dX12_answerAll_0 rfl 0 rfl ?_
  refine j_iload_n hJ dX12_answerAll_1 rfl 1 rfl ?_
  refine j_callVv hJ (c_X12_beginWork (l := l) (D := D) (cy := cy) (ad := ad) hin) rfl om_1209 ⟨rfl, rfl, Nat.le_of_ble_eq_true rfl, Nat.le_of_ble_eq_true rfl⟩ [.int (Ii p1)] mv_X12_865 hd_X12_beginWorkv kR_0 rfl rfl rfl (Nat.le_of_ble_eq_true rfl) dX12_answerAll_2 ⟨p1, rfl, gp1, hF⟩ (fun M2 qM2 => ?_)
  have hF := qM2
  refine j_aload_n hJ dX12_answerAll_5 rfl 0 rfl ?_
  refine j_iload_n hJ dX12_answerAll_6 rfl 2 rfl ?_
  refine j_bipush hJ dX12_answerAll_7 (by decide) ?_
  refine j_callVv hJ (c_X12_workSet (l := l) (D := D) (cy := cy) (ad := ad) hin) rfl om_1273 ⟨rfl, rfl, Nat.le_of_ble_eq_true rfl, Nat.le_of_ble_eq_true rfl⟩ [.int (Ii p2), .int (Ii 11)] mv_X12_849 hd_X12_workSetv kR_0 rfl rfl rfl (Nat.le_of_ble_eq_true rfl) dX12_answerAll_9 ⟨p2, 11, rfl, gp2, rk_11, hF⟩ (fun M4 qM4 => ?_)
  have hF := qM4
  refine j_iconst hJ dX12_answerAll_12 ?_
  refine j_istore (lv' := [(5, .int (Ii 0)), (0, .ref (ad 0)), (1, .int (Ii p1)), (2, .int (Ii p2)), (3, .int (Ii p3)), (4, .int (Ii p4))]) hJ dX12_answerAll_13 (by decide) rfl ?_
  exact j_sub hJ [1, 4, 5, 0] rfl (k_X12_answerAll_b15 hin  hJ  p3 p4 0 _ gp3 gp4 rk_0 hF)
def W_X12_ask (ad : Nat → Nat) (Q : Int → MM → Prop) (av : List Value) (M : MM) : Prop := ∃ (p1 : Int), av = [.ref (ad 0), .int (Ii p1)] ∧ ri_ p1 ∧ w_X12_ask  Q p1 M
set_option maxHeartbeats 4000000 in
set_option maxRecDepth 100000 in
theorem k_X12_ask_b134 {l : Launch} {D : va_G} {cy : Nat → ClassId} {ad : Nat → Nat} {Q : Int → MM → Prop} {J : Nat → List (Nat × Value) → List Value → MM → Prop} (hin : jIn ad ksR.length)   (hJ : jOk l D vwCl (tyR cy) cy ad ftR ksR (XtR ad) Om RX12 cX12_ask 5 1 ({ frames := 405, cells := 0, slots := 0, locals := 9709 } : Room) Q J)  : ∀ (M : MM), w_X12_ask_b134  Q   M → J 134 [(0, .ref (ad 0))] [] M := by
  intro  M  hF
  unfold w_X12_ask_b134 at hF
  refine j_aload_n hJ dX12_ask_134 rfl 0 rfl ?_
  refine j_gi hJ kR_0 fR_15_110 rfl fl_X12_852 dX12_ask_135 (fun v1 ev1 gv1 => ?_)
  have hF := hF v1 ev1 gv1
  exact j_iret hJ rfl gv1 dX12_ask_138 hF
set_option maxHeartbeats 4000000 in
set_option maxRecDepth 100000 in
theorem k_X12_ask_b119 {l : Launch} {D : va_G} {cy : Nat → ClassId} {ad : Nat → Nat} {Q : Int → MM → Prop} {J : Nat → List (Nat × Value) → List Value → MM → Prop} (hin : jIn ad ksR.length)   (hJ : jOk l D vwCl (tyR cy) cy ad ftR ksR (XtR ad) Om RX12 cX12_ask 5 1 ({ frames := 405, cells := 0, slots := 0, locals := 9709 } : Room) Q J)  : ∀ (s0 : Int) (M : MM), ri_ s0 → w_X12_ask_b119  Q  s0 M → J 119 [(0, .ref (ad 0))] [.int (Ii s0), .ref (ad 0)] M := by
  intro s0 M gs0 hF
  unfold w_X12_ask_b119 at hF
  refine j_pi hJ gs0 kR_0 fR_15_0 rfl fp_X12_388 dX12_ask_119 (fun M1 eM1 => ?_)
  have hF := hF M1 eM1
  refine j_aload_n hJ dX12_ask_122 rfl 0 rfl ?_
  refine j_gi hJ kR_0 fR_15_0 rfl fl_X12_388 dX12_ask_123 (fun v2 ev2 gv2 => ?_)
  have hF := hF v2 ev2 gv2
  refine j_if_le hJ 134 gv2 dX12_ask_126 (by decide) (fun z3 => ?_) (fun z3 => ?_)
  · have hF := hF.1 z3
    exact j_sub hJ [0] rfl (k_X12_ask_b134 hin  hJ   _  hF)
  · have hF := hF.2 z3
    refine j_aload_n hJ dX12_ask_129 rfl 0 rfl ?_
    refine j_iconst hJ dX12_ask_130 ?_
    refine j_pi hJ rk_0 kR_0 fR_15_110 rfl fp_X12_852 dX12_ask_131 (fun M4 eM4 => ?_)
    have hF := hF M4 eM4
    exact j_sub hJ [0] rfl (k_X12_ask_b134 hin  hJ   _  hF)
set_option maxHeartbeats 4000000 in
set_option maxRecDepth 100000 in
theorem k_X12_ask_b106 {l : Launch} {D : va_G} {cy : Nat → ClassId} {ad : Nat → Nat} {Q : Int → MM → Prop} {J : Nat → List (Nat × Value) → List Value → MM → Prop} (hin : jIn ad ksR.length)   (hJ : jOk l D vwCl (tyR cy) cy ad ftR ksR (XtR ad) Om RX12 cX12_ask 5 1 ({ frames := 405, cells := 0, slots := 0, locals := 9709 } : Room) Q J)  : ∀ (M : MM), w_X12_ask_b106  Q   M → J 106 [(0, .ref (ad 0))] [] M := by
  intro  M  hF
  unfold w_X12_ask_b106 at hF
  refine j_aload_n hJ dX12_ask_106 rfl 0 rfl ?_
  refine j_aload_n hJ dX12_ask_107 rfl 0 rfl ?_
  refine j_gi hJ kR_0 fR_15_81 rfl fl_X12_776 dX12_ask_108 (fun v1 ev1 gv1 => ?_)
  have hF := hF v1 ev1 gv1
  refine j_if_le hJ 118 gv1 dX12_ask_111 (by decide) (fun z2 => ?_) (fun z2 => ?_)
  · have hF := hF.1 z2
    refine j_iconst hJ dX12_ask_118 ?_
    exact j_sub hJ [0] rfl (k_X12_ask_b119 hin  hJ  0 _ rk_0 hF)
  · have hF := hF.2 z2
    refine j_iconst hJ dX12_ask_114 ?_
    refine j_goto hJ 119 dX12_ask_115 (by decide) ?_
    exact j_sub hJ [0] rfl (k_X12_ask_b119 hin  hJ  2 _ rk_2 hF)
set_option maxHeartbeats 4000000 in
set_option maxRecDepth 100000 in
theorem k_X12_ask_b84 {l : Launch} {D : va_G} {cy : Nat → ClassId} {ad : Nat → Nat} {Q : Int → MM → Prop} {J : Nat → List (Nat × Value) → List Value → MM → Prop} (hin : jIn ad ksR.length)   (hJ : jOk l D vwCl (tyR cy) cy ad ftR ksR (XtR ad) Om RX12 cX12_ask 5 1 ({ frames := 405, cells := 0, slots := 0, locals := 9709 } : Room) Q J)  : ∀ (x1 x2 x3 s0 : Int) (M : MM), ri_ x1 → ri_ x2 → ri_ x3 → ri_ s0 → w_X12_ask_b84  Q  x1 x2 x3 s0 M → J 84 [(0, .ref (ad 0)), (1, .int (Ii x1)), (2, .int (Ii x2)), (3, .int (Ii x3))] [.int (Ii s0)] M := by
  intro x1 x2 x3 s0 M gx1 gx2 gx3 gs0 hF
  unfold w_X12_ask_b84 at hF
  refine j_istore (lv' := [(4, .int (Ii s0)), (0, .ref (ad 0)), (1, .int (Ii x1)), (2, .int (Ii x2)), (3, .int (Ii x3))]) hJ dX12_ask_84 (by decide) rfl ?_
  refine j_aload_n hJ dX12_ask_86 rfl 1 rfl ?_
  refine j_callVv hJ (c_X12_endText (l := l) (D := D) (cy := cy) (ad := ad) hin) rfl om_1464 ⟨rfl, rfl, Nat.le_of_ble_eq_true rfl, Nat.le_of_ble_eq_true rfl⟩ [] mv_X12_858 hd_X12_endTextv kR_0 rfl rfl rfl (Nat.le_of_ble_eq_true rfl) dX12_ask_87 ⟨rfl, hF⟩ (fun M2 qM2 => ?_)
  have hF := qM2
  refine j_aload_n hJ dX12_ask_90 rfl 1 rfl ?_
  refine j_gi hJ kR_0 fR_15_81 rfl fl_X12_776 dX12_ask_91 (fun v3 ev3 gv3 => ?_)
  have hF := hF v3 ev3 gv3
  refine j_if_ne hJ 106 gv3 dX12_ask_94 (by decide) (fun z4 => ?_) (fun z4 => ?_)
  · have hF := hF.1 z4
    exact j_sub hJ [1] rfl (k_X12_ask_b106 hin  hJ   _  hF)
  · have hF := hF.2 z4
    refine j_aload_n hJ dX12_ask_97 rfl 1 rfl ?_
    refine j_iload_n hJ dX12_ask_98 rfl 2 rfl ?_
    refine j_iload_n hJ dX12_ask_99 rfl 3 rfl ?_
    refine j_iload_n hJ dX12_ask_100 rfl 4 rfl ?_
    refine j_iload hJ dX12_ask_101 0 rfl ?_
    refine j_callVv hJ (c_X12_answerAll (l := l) (D := D) (cy := cy) (ad := ad) hin) rfl om_1469 ⟨rfl, rfl, Nat.le_of_ble_eq_true rfl, Nat.le_of_ble_eq_true rfl⟩ [.int (Ii x1), .int (Ii x2), .int (Ii x3), .int (Ii s0)] mv_X12_861 hd_X12_answerAllv kR_0 rfl rfl rfl (Nat.le_of_ble_eq_true rfl) dX12_ask_103 ⟨x1, x2, x3, s0, rfl, gx1, gx2, gx3, gs0, hF⟩ (fun M6 qM6 => ?_)
    have hF := qM6
    exact j_sub hJ [1] rfl (k_X12_ask_b106 hin  hJ   _  hF)
set_option maxHeartbeats 4000000 in
set_option maxRecDepth 100000 in
theorem k_X12_ask_b67 {l : Launch} {D : va_G} {cy : Nat → ClassId} {ad : Nat → Nat} {Q : Int → MM → Prop} {J : Nat → List (Nat × Value) → List Value → MM → Prop} (hin : jIn ad ksR.length)   (hJ : jOk l D vwCl (tyR cy) cy ad ftR ksR (XtR ad) Om RX12 cX12_ask 5 1 ({ frames := 405, cells := 0, slots := 0, locals := 9709 } : Room) Q J)  : ∀ (x1 x2 s0 : Int) (M : MM), ri_ x1 → ri_ x2 → ri_ s0 → w_X12_ask_b67  Q  x1 x2 s0 M → J 67 [(0, .ref (ad 0)), (1, .int (Ii x1)), (2, .int (Ii x2))] [.int (Ii s0)] M := by
  intro x1 x2 s0 M gx1 gx2 gs0 hF
  unfold w_X12_ask_b67 at hF
  refine j_istore_n (lv' := [(3, .int (Ii s0)), (0, .ref (ad 0)), (1, .int (Ii x1)), (2, .int (Ii x2))]) hJ dX12_ask_67 rfl (by decide) rfl ?_
  refine j_aload_n hJ dX12_ask_68 rfl 1 rfl ?_
  refine j_iconst hJ dX12_ask_69 ?_
  refine j_callVz hJ (c_X12_takesKey (l := l) (D := D) (cy := cy) (ad := ad) hin) rfl om_1455 ⟨rfl, rfl, Nat.le_of_ble_eq_true rfl, Nat.le_of_ble_eq_true rfl⟩ [.int (Ii 4)] mv_X12_768 hd_X12_takesKeyv kR_0 rfl rfl rfl (Nat.le_of_ble_eq_true rfl) dX12_ask_70 ⟨4, rfl, rk_4, hF⟩ (fun r1 M2 gr1 qM2 => ?_)
  have hF := qM2 gr1
  refine j_if_eq hJ 83 (jz_ri gr1) dX12_ask_73 (by decide) (fun z3 => ?_) (fun z3 => ?_)
  · have hF := hF.1 z3
    refine j_iconst hJ dX12_ask_83 ?_
    exact j_sub hJ [1, 2, 3, 0] rfl (k_X12_ask_b84 hin  hJ  x1 x2 s0 (-1) _ gx1 gx2 gs0 rk_m1 hF)
  · have hF := hF.2 z3
    refine j_aload_n hJ dX12_ask_76 rfl 1 rfl ?_
    refine j_callVi hJ (c_X12_readE (l := l) (D := D) (cy := cy) (ad := ad) hin) rfl om_1432 ⟨rfl, rfl, Nat.le_of_ble_eq_true rfl, Nat.le_of_ble_eq_true rfl⟩ [] mv_X12_743 hd_X12_readEv kR_0 rfl rfl rfl (Nat.le_of_ble_eq_true rfl) dX12_ask_77 ⟨rfl, hF⟩ (fun r4 M5 gr4 qM5 => ?_)
    have hF := qM5 gr4
    refine j_goto hJ 84 dX12_ask_80 (by decide) ?_
    exact j_sub hJ [1, 2, 3, 0] rfl (k_X12_ask_b84 hin  hJ  x1 x2 s0 r4 _ gx1 gx2 gs0 gr4 hF)
set_option maxHeartbeats 4000000 in
set_option maxRecDepth 100000 in
theorem k_X12_ask_b14 {l : Launch} {D : va_G} {cy : Nat → ClassId} {ad : Nat → Nat} {Q : Int → MM → Prop} {J : Nat → List (Nat × Value) → List Value → MM → Prop} (hin : jIn ad ksR.length)   (hJ : jOk l D vwCl (tyR cy) cy ad ftR ksR (XtR ad) Om RX12 cX12_ask 5 1 ({ frames := 405, cells := 0, slots := 0, locals := 9709 } : Room) Q J)  : ∀ (x1 s0 : Int) (M : MM), ri_ x1 → ri_ s0 → w_X12_ask_b14  Q  x1 s0 M → J 14 [(0, .ref (ad 0)), (1, .int (Ii x1))] [.int (Ii s0), .ref (ad 0)] M := by
  intro x1 s0 M gx1 gs0 hF
  unfold w_X12_ask_b14 at hF
  refine j_pi hJ gs0 kR_0 fR_15_0 rfl fp_X12_388 dX12_ask_14 (fun M1 eM1 => ?_)
  have hF := hF M1 eM1
  refine j_aload_n hJ dX12_ask_17 rfl 0 rfl ?_
  refine j_gi hJ kR_0 fR_15_0 rfl fl_X12_388 dX12_ask_18 (fun v2 ev2 gv2 => ?_)
  have hF := hF v2 ev2 gv2
  refine j_if_le hJ 26 gv2 dX12_ask_21 (by decide) (fun z3 => ?_) (fun z3 => ?_)
  · have hF := hF.1 z3
    refine j_aload_n hJ dX12_ask_26 rfl 0 rfl ?_
    refine j_iconst hJ dX12_ask_27 ?_
    refine j_pi hJ rk_0 kR_0 fR_15_110 rfl fp_X12_852 dX12_ask_28 (fun M4 eM4 => ?_)
    have hF := hF M4 eM4
    refine j_aload_n hJ dX12_ask_31 rfl 0 rfl ?_
    refine j_iconst hJ dX12_ask_32 ?_
    refine j_callVv hJ (c_X12_beginText (l := l) (D := D) (cy := cy) (ad := ad) hin) rfl om_1460 ⟨rfl, rfl, Nat.le_of_ble_eq_true rfl, Nat.le_of_ble_eq_true rfl⟩ [.int (Ii 0)] mv_X12_855 hd_X12_beginTextv kR_0 rfl rfl rfl (Nat.le_of_ble_eq_true rfl) dX12_ask_33 ⟨0, rfl, rk_0, hF⟩ (fun M6 qM6 => ?_)
    have hF := qM6
    refine j_aload_n hJ dX12_ask_36 rfl 0 rfl ?_
    refine j_iconst hJ dX12_ask_37 ?_
    refine j_pz hJ (by decide) kR_0 fR_15_95 rfl fp_X12_764 dX12_ask_38 (fun M7 eM7 => ?_)
    have hF := hF M7 eM7
    refine j_aload_n hJ dX12_ask_41 rfl 0 rfl ?_
    refine j_callVi hJ (c_X12_readSet (l := l) (D := D) (cy := cy) (ad := ad) hin) rfl om_1451 ⟨rfl, rfl, Nat.le_of_ble_eq_true rfl, Nat.le_of_ble_eq_true rfl⟩ [] mv_X12_771 hd_X12_readSetv kR_0 rfl rfl rfl (Nat.le_of_ble_eq_true rfl) dX12_ask_42 ⟨rfl, hF⟩ (fun r8 M9 gr8 qM9 => ?_)
    have hF := qM9 gr8
    refine j_istore_n (lv' := [(2, .int (Ii r8)), (0, .ref (ad 0)), (1, .int (Ii x1))]) hJ dX12_ask_45 rfl (by decide) rfl ?_
    refine j_aload_n hJ dX12_ask_46 rfl 1 rfl ?_
    refine j_iconst hJ dX12_ask_47 ?_
    refine j_pz hJ (by decide) kR_0 fR_15_95 rfl fp_X12_764 dX12_ask_48 (fun M10 eM10 => ?_)
    have hF := hF M10 eM10
    refine j_aload_n hJ dX12_ask_51 rfl 1 rfl ?_
    refine j_iconst hJ dX12_ask_52 ?_
    refine j_callVz hJ (c_X12_takesKey (l := l) (D := D) (cy := cy) (ad := ad) hin) rfl om_1455 ⟨rfl, rfl, Nat.le_of_ble_eq_true rfl, Nat.le_of_ble_eq_true rfl⟩ [.int (Ii 3)] mv_X12_768 hd_X12_takesKeyv kR_0 rfl rfl rfl (Nat.le_of_ble_eq_true rfl) dX12_ask_53 ⟨3, rfl, rk_3, hF⟩ (fun r11 M12 gr11 qM12 => ?_)
    have hF := qM12 gr11
    refine j_if_eq hJ 66 (jz_ri gr11) dX12_ask_56 (by decide) (fun z13 => ?_) (fun z13 => ?_)
    · have hF := hF.1 z13
      refine j_iconst hJ dX12_ask_66 ?_
      exact j_sub hJ [1, 2, 0] rfl (k_X12_ask_b67 hin  hJ  x1 r8 (-1) _ gx1 gr8 rk_m1 hF)
    · have hF := hF.2 z13
      refine j_aload_n hJ dX12_ask_59 rfl 1 rfl ?_
      refine j_callVi hJ (c_X12_readE (l := l) (D := D) (cy := cy) (ad := ad) hin) rfl om_1432 ⟨rfl, rfl, Nat.le_of_ble_eq_true rfl, Nat.le_of_ble_eq_true rfl⟩ [] mv_X12_743 hd_X12_readEv kR_0 rfl rfl rfl (Nat.le_of_ble_eq_true rfl) dX12_ask_60 ⟨rfl, hF⟩ (fun r14 M15 gr14 qM15 => ?_)
      have hF := qM15 gr14
      refine j_goto hJ 67 dX12_ask_63 (by decide) ?_
      exact j_sub hJ [1, 2, 0] rfl (k_X12_ask_b67 hin  hJ  x1 r8 r14 _ gx1 gr8 gr14 hF)
  · have hF := hF.2 z3
    refine j_iconst hJ dX12_ask_24 ?_
    exact j_iret hJ rfl rk_0 dX12_ask_25 hF
set_option maxHeartbeats 4000000 in
set_option maxRecDepth 100000 in
theorem c_X12_ask {l : Launch} {D : va_G} {cy : Nat → ClassId} {ad : Nat → Nat} (hin : jIn ad ksR.length) : jCN l D vwCl (tyR cy) cy ad ftR ksR (XtR ad) yX12_ask (.code yX12_ask cX12_ask 5 (some .int) :: Om) ({ frames := 405, cells := 0, slots := 0, locals := 9709 } : Room) 1 (W_X12_ask ad) := by
  refine jCN_of (y := yX12_ask) (cc := cX12_ask) (nL := 5) (rk := 1) (rm := ({ frames := 405, cells := 0, slots := 0, locals := 9709 } : Room)) (own := RX12) (tyR_ok cy) hin (XtR_ok ad) Om_good (by decide) rfl ?_
  intro Q av M hF
  obtain ⟨p1, rfl, gp1, hF⟩ := hF
  refine ⟨Nat.le_of_ble_eq_true rfl, fun J hJ => ?_⟩
  show J 0 [(0, .ref (ad 0)), (1, .int (Ii p1))] [] M
  unfold w_X12_ask at hF
  refine j_aload_n hJ dX12_ask_0 rfl 0 rfl ?_
  refine j_aload_n hJ dX12_ask_1 rfl 0 rfl ?_
  refine j_iload_n hJ dX12_ask_2 rfl 1 rfl ?_
  refine j_callVz hJ (c_X12_isPicture (l := l) (D := D) (cy := cy) (ad := ad) hin) rfl om_1296 ⟨rfl, rfl, Nat.le_of_ble_eq_true rfl, Nat.le_of_ble_eq_true rfl⟩ [.int (Ii p1)] mv_X12_542 hd_X12_isPicturev kR_0 rfl rfl rfl (Nat.le_of_ble_eq_true rfl) dX12_ask_3 ⟨p1, rfl, gp1, hF⟩ (fun r1 M2 gr1 qM2 => ?_)
  have hF := qM2 gr1
  refine j_if_eq hJ 13 (jz_ri gr1) dX12_ask_6 (by decide) (fun z3 => ?_) (fun z3 => ?_)
  · have hF := hF.1 z3
    refine j_iconst hJ dX12_ask_13 ?_
    exact j_sub hJ [0, 1] rfl (k_X12_ask_b14 hin  hJ  p1 1 _ gp1 rk_1 hF)
  · have hF := hF.2 z3
    refine j_iconst hJ dX12_ask_9 ?_
    refine j_goto hJ 14 dX12_ask_10 (by decide) ?_
    exact j_sub hJ [0, 1] rfl (k_X12_ask_b14 hin  hJ  p1 0 _ gp1 rk_0 hF)
def W_X12_answer (ad : Nat → Nat) (Q : Int → MM → Prop) (av : List Value) (M : MM) : Prop := ∃ (p1 : Int) (p2 : Int), av = [.ref (ad 0), .int (Ii p1), .int (Ii p2)] ∧ ri_ p1 ∧ ri_ p2 ∧ w_X12_answer  Q p1 p2 M
set_option maxHeartbeats 4000000 in
set_option maxRecDepth 100000 in
theorem k_X12_answer_b27 {l : Launch} {D : va_G} {cy : Nat → ClassId} {ad : Nat → Nat} {Q : Int → MM → Prop} {J : Nat → List (Nat × Value) → List Value → MM → Prop} (hin : jIn ad ksR.length)   (hJ : jOk l D vwCl (tyR cy) cy ad ftR ksR (XtR ad) Om RX12 cX12_answer 3 2 ({ frames := 0, cells := 0, slots := 0, locals := 0 } : Room) Q J)  : ∀ (x1 x2 s0 : Int) (M : MM), ri_ x1 → ri_ x2 → ri_ s0 → w_X12_answer_b27  Q  x1 x2 s0 M → J 27 [(0, .ref (ad 0)), (1, .int (Ii x1)), (2, .int (Ii x2))] [.int (Ii s0), .ref (ad 0)] M := by
  intro x1 x2 s0 M gx1 gx2 gs0 hF
  unfold w_X12_answer_b27 at hF
  refine j_pi hJ gs0 kR_0 fR_15_0 rfl fp_X12_388 dX12_answer_27 (fun M1 eM1 => ?_)
  have hF := hF M1 eM1
  refine j_aload_n hJ dX12_answer_30 rfl 0 rfl ?_
  refine j_gi hJ kR_0 fR_15_0 rfl fl_X12_388 dX12_answer_31 (fun v2 ev2 gv2 => ?_)
  have hF := hF v2 ev2 gv2
  refine j_if_le hJ 39 gv2 dX12_answer_34 (by decide) (fun z3 => ?_) (fun z3 => ?_)
  · have hF := hF.1 z3
    refine j_iload_n hJ dX12_answer_39 rfl 2 rfl ?_
    refine j_if_ne hJ 53 gx2 dX12_answer_40 (by decide) (fun z4 => ?_) (fun z4 => ?_)
    · have hF := hF.1 z4
      refine j_iload_n hJ dX12_answer_53 rfl 2 rfl ?_
      refine j_iconst hJ dX12_answer_54 ?_
      refine j_icmp_ne hJ 68 gx2 rk_1 dX12_answer_55 (by decide) (fun z5 => ?_) (fun z5 => ?_)
      · have hF := hF.1 z5
        refine j_aload_n hJ dX12_answer_68 rfl 0 rfl ?_
        refine j_gr (e := 77) hJ kR_0 fR_15_109 fl_X12_306 dX12_answer_69 rfl ?_
        refine j_iload_n hJ dX12_answer_72 rfl 1 rfl ?_
        refine j_lald hJ gx1 kR_77 hF.1 hF.2.1 dX12_answer_73 (fun v6 ev6 gv6 => ?_)
        have hF := hF.2.2 v6 ev6 gv6
        exact j_lret hJ rfl gv6 dX12_answer_74 hF
      · have hF := hF.2 z5
        refine j_aload_n hJ dX12_answer_58 rfl 0 rfl ?_
        refine j_gr (e := 76) hJ kR_0 fR_15_108 fl_X12_303 dX12_answer_59 rfl ?_
        refine j_iload_n hJ dX12_answer_62 rfl 1 rfl ?_
        refine j_iald hJ gx1 kR_76 hF.1 hF.2.1 dX12_answer_63 (fun v7 ev7 gv7 => ?_)
        have hF := hF.2.2 v7 ev7 gv7
        refine j_i2l hJ gv7 dX12_answer_64 ?_
        refine j_goto hJ 74 dX12_answer_65 (by decide) ?_
        exact j_lret hJ rfl (rl_ri gv7) dX12_answer_74 hF
    · have hF := hF.2 z4
      refine j_aload_n hJ dX12_answer_43 rfl 0 rfl ?_
      refine j_gr (e := 75) hJ kR_0 fR_15_107 fl_X12_300 dX12_answer_44 rfl ?_
      refine j_iload_n hJ dX12_answer_47 rfl 1 rfl ?_
      refine j_iald hJ gx1 kR_75 hF.1 hF.2.1 dX12_answer_48 (fun v8 ev8 gv8 => ?_)
      have hF := hF.2.2 v8 ev8 gv8
      refine j_i2l hJ gv8 dX12_answer_49 ?_
      refine j_goto hJ 74 dX12_answer_50 (by decide) ?_
      exact j_lret hJ rfl (rl_ri gv8) dX12_answer_74 hF
  · have hF := hF.2 z3
    refine j_lconst (x := 0) hJ dX12_answer_37 rfl ?_
    exact j_lret hJ rfl lkm_0 dX12_answer_38 hF
set_option maxHeartbeats 4000000 in
set_option maxRecDepth 100000 in
theorem k_X12_answer_b22 {l : Launch} {D : va_G} {cy : Nat → ClassId} {ad : Nat → Nat} {Q : Int → MM → Prop} {J : Nat → List (Nat × Value) → List Value → MM → Prop} (hin : jIn ad ksR.length)   (hJ : jOk l D vwCl (tyR cy) cy ad ftR ksR (XtR ad) Om RX12 cX12_answer 3 2 ({ frames := 0, cells := 0, slots := 0, locals := 0 } : Room) Q J)  : ∀ (x1 x2 : Int) (M : MM), ri_ x1 → ri_ x2 → w_X12_answer_b22  Q  x1 x2 M → J 22 [(0, .ref (ad 0)), (1, .int (Ii x1)), (2, .int (Ii x2))] [.ref (ad 0)] M := by
  intro x1 x2 M gx1 gx2 hF
  unfold w_X12_answer_b22 at hF
  refine j_iconst hJ dX12_answer_22 ?_
  refine j_goto hJ 27 dX12_answer_23 (by decide) ?_
  exact j_sub hJ [0, 1, 2] rfl (k_X12_answer_b27 hin  hJ  x1 x2 1 _ gx1 gx2 rk_1 hF)
set_option maxHeartbeats 4000000 in
set_option maxRecDepth 100000 in
theorem c_X12_answer {l : Launch} {D : va_G} {cy : Nat → ClassId} {ad : Nat → Nat} (hin : jIn ad ksR.length) : jCN l D vwCl (tyR cy) cy ad ftR ksR (XtR ad) yX12_answer (.code yX12_answer cX12_answer 3 (some .long) :: Om) ({ frames := 0, cells := 0, slots := 0, locals := 0 } : Room) 2 (W_X12_answer ad) := by
  refine jCN_of (y := yX12_answer) (cc := cX12_answer) (nL := 3) (rk := 2) (rm := ({ frames := 0, cells := 0, slots := 0, locals := 0 } : Room)) (own := RX12) (tyR_ok cy) hin (XtR_ok ad) Om_good (by decide) rfl ?_
  intro Q av M hF
  obtain ⟨p1, p2, rfl, gp1, gp2, hF⟩ := hF
  refine ⟨Nat.le_of_ble_eq_true rfl, fun J hJ => ?_⟩
  show J 0 [(0, .ref (ad 0)), (1, .int (Ii p1)), (2, .int (Ii p2))] [] M
  unfold w_X12_answer at hF
  refine j_aload_n hJ dX12_answer_0 rfl 0 rfl ?_
  refine j_iload_n hJ dX12_answer_1 rfl 1 rfl ?_
  refine j_if_lt hJ 22 gp1 dX12_answer_2 (by decide) (fun z1 => ?_) (fun z1 => ?_)
  · have hF := hF.1 z1
    exact j_sub hJ [0, 1, 2] rfl (k_X12_answer_b22 hin  hJ  p1 p2 _ gp1 gp2 hF)
  · have hF := hF.2 z1
    refine j_iload_n hJ dX12_answer_5 rfl 1 rfl ?_
    refine j_aload_n hJ dX12_answer_6 rfl 0 rfl ?_
    refine j_gi hJ kR_0 fR_15_110 rfl fl_X12_852 dX12_answer_7 (fun v2 ev2 gv2 => ?_)
    have hF := hF v2 ev2 gv2
    refine j_icmp_ge hJ 22 gp1 gv2 dX12_answer_10 (by decide) (fun z3 => ?_) (fun z3 => ?_)
    · have hF := hF.1 z3
      exact j_sub hJ [0, 1, 2] rfl (k_X12_answer_b22 hin  hJ  p1 p2 _ gp1 gp2 hF)
    · have hF := hF.2 z3
      refine j_iload_n hJ dX12_answer_13 rfl 2 rfl ?_
      refine j_if_lt hJ 22 gp2 dX12_answer_14 (by decide) (fun z4 => ?_) (fun z4 => ?_)
      · have hF := hF.1 z4
        exact j_sub hJ [0, 1, 2] rfl (k_X12_answer_b22 hin  hJ  p1 p2 _ gp1 gp2 hF)
      · have hF := hF.2 z4
        refine j_iload_n hJ dX12_answer_17 rfl 2 rfl ?_
        refine j_iconst hJ dX12_answer_18 ?_
        refine j_icmp_le hJ 26 gp2 rk_2 dX12_answer_19 (by decide) (fun z5 => ?_) (fun z5 => ?_)
        · have hF := hF.1 z5
          refine j_iconst hJ dX12_answer_26 ?_
          exact j_sub hJ [0, 1, 2] rfl (k_X12_answer_b27 hin  hJ  p1 p2 0 _ gp1 gp2 rk_0 hF)
        · have hF := hF.2 z5
          exact j_sub hJ [0, 1, 2] rfl (k_X12_answer_b22 hin  hJ  p1 p2 _ gp1 gp2 hF)
def W_X12_promise (ad : Nat → Nat) (Q : Int → MM → Prop) (av : List Value) (M : MM) : Prop := av = [.ref (ad 0)] ∧ w_X12_promise  Q  M
set_option maxHeartbeats 4000000 in
set_option maxRecDepth 100000 in
theorem k_X12_promise_b165 {l : Launch} {D : va_G} {cy : Nat → ClassId} {ad : Nat → Nat} {Q : Int → MM → Prop} {J : Nat → List (Nat × Value) → List Value → MM → Prop} (hin : jIn ad ksR.length)   (hJ : jOk l D vwCl (tyR cy) cy ad ftR ksR (XtR ad) Om RX12 cX12_promise 3 1 ({ frames := 405, cells := 0, slots := 0, locals := 9708 } : Room) Q J)  : ∀ (s0 s1 : Int) (M : MM), ri_ s0 → ri_ s1 → w_X12_promise_b165  Q  s0 s1 M → J 165 [(0, .ref (ad 0))] [.int (Ii s0), .int (Ii s1), .ref (ad 79)] M := by
  intro s0 s1 M gs0 gs1 hF
  unfold w_X12_promise_b165 at hF
  refine j_iast hJ gs1 gs0 kR_79 hF.1 hF.2.1 dX12_promise_165 (fun M1 eM1 => ?_)
  have hF := hF.2.2 M1 eM1
  refine j_aload_n hJ dX12_promise_166 rfl 0 rfl ?_
  refine j_dup hJ dX12_promise_167 rfl ?_
  refine j_gi hJ kR_0 fR_15_113 rfl fl_X12_872 dX12_promise_168 (fun v2 ev2 gv2 => ?_)
  have hF := hF v2 ev2 gv2
  refine j_iconst hJ dX12_promise_171 ?_
  refine j_iadd hJ dX12_promise_172 ?_
  have g3 := hF.1; have hF := hF.2
  refine j_pi hJ g3 kR_0 fR_15_113 rfl fp_X12_872 dX12_promise_173 (fun M4 eM4 => ?_)
  have hF := hF M4 eM4
  refine j_aload_n hJ dX12_promise_176 rfl 0 rfl ?_
  refine j_gi hJ kR_0 fR_15_113 rfl fl_X12_872 dX12_promise_177 (fun v5 ev5 gv5 => ?_)
  have hF := hF v5 ev5 gv5
  refine j_iconst hJ dX12_promise_180 ?_
  refine j_isub hJ dX12_promise_181 ?_
  have g6 := hF.1; have hF := hF.2
  exact j_iret hJ rfl g6 dX12_promise_182 hF
set_option maxHeartbeats 4000000 in
set_option maxRecDepth 100000 in
theorem k_X12_promise_b127 {l : Launch} {D : va_G} {cy : Nat → ClassId} {ad : Nat → Nat} {Q : Int → MM → Prop} {J : Nat → List (Nat × Value) → List Value → MM → Prop} (hin : jIn ad ksR.length)   (hJ : jOk l D vwCl (tyR cy) cy ad ftR ksR (XtR ad) Om RX12 cX12_promise 3 1 ({ frames := 405, cells := 0, slots := 0, locals := 9708 } : Room) Q J) {K90 : Int → MM → Prop} (hK90 : ∀ (x2 : Int) (M : MM), ri_ x2 → K90 x2 M → J 90 [(0, .ref (ad 0)), (2, .int (Ii x2))] [] M) : ∀ (x2 s0 : Int) (M : MM), ri_ x2 → ri_ s0 → w_X12_promise_b127  Q K90 x2 s0 M → J 127 [(0, .ref (ad 0)), (2, .int (Ii x2))] [.int (Ii s0), .ref (ad 0)] M := by
  intro x2 s0 M gx2 gs0 hF
  unfold w_X12_promise_b127 at hF
  refine j_pz hJ hF.1 kR_0 fR_15_114 rfl fp_X12_869 dX12_promise_127 (fun M1 eM1 => ?_)
  have hF := hF.2 M1 eM1
  refine j_iinc (lv' := [(2, .int (Ii (x2 + 1))), (0, .ref (ad 0))]) (k := 1) hJ dX12_promise_130 rfl (by decide) rfl ?_
  have g2 := hF.1; have hF := hF.2
  refine j_goto hJ 90 dX12_promise_133 (by decide) ?_
  exact j_sub hJ [1, 0] rfl (hK90 (x2 + 1) _ g2 hF)
set_option maxHeartbeats 4000000 in
set_option maxRecDepth 100000 in
theorem k_X12_promise_b122 {l : Launch} {D : va_G} {cy : Nat → ClassId} {ad : Nat → Nat} {Q : Int → MM → Prop} {J : Nat → List (Nat × Value) → List Value → MM → Prop} (hin : jIn ad ksR.length)   (hJ : jOk l D vwCl (tyR cy) cy ad ftR ksR (XtR ad) Om RX12 cX12_promise 3 1 ({ frames := 405, cells := 0, slots := 0, locals := 9708 } : Room) Q J) {K90 : Int → MM → Prop} (hK90 : ∀ (x2 : Int) (M : MM), ri_ x2 → K90 x2 M → J 90 [(0, .ref (ad 0)), (2, .int (Ii x2))] [] M) : ∀ (x2 : Int) (M : MM), ri_ x2 → w_X12_promise_b122  Q K90 x2 M → J 122 [(0, .ref (ad 0)), (2, .int (Ii x2))] [.ref (ad 0)] M := by
  intro x2 M gx2 hF
  unfold w_X12_promise_b122 at hF
  refine j_iconst hJ dX12_promise_122 ?_
  refine j_goto hJ 127 dX12_promise_123 (by decide) ?_
  exact j_sub hJ [0, 1] rfl (k_X12_promise_b127 hin  hJ hK90 x2 1 _ gx2 rk_1 hF)
set_option maxHeartbeats 4000000 in
set_option maxRecDepth 100000 in
theorem k_X12_promise_b90 {l : Launch} {D : va_G} {cy : Nat → ClassId} {ad : Nat → Nat} {Q : Int → MM → Prop} {J : Nat → List (Nat × Value) → List Value → MM → Prop} (hin : jIn ad ksR.length)   (hJ : jOk l D vwCl (tyR cy) cy ad ftR ksR (XtR ad) Om RX12 cX12_promise 3 1 ({ frames := 405, cells := 0, slots := 0, locals := 9708 } : Room) Q J)  : ∀ (x2 : Int) (M : MM), ri_ x2 → w_X12_promise_b90  Q  x2 M → J 90 [(0, .ref (ad 0)), (2, .int (Ii x2))] [] M := by
  have H9 : ∀ (n : Nat) (x2 : Int) (M : MM), ri_ x2 → jit (fun _ _ => False) (wb_X12_promise_b90  Q ) n x2 M → J 90 [(0, .ref (ad 0)), (2, .int (Ii x2))] [] M := by
    intro n
    induction n with
    | zero => intro x2 M gx2 hF; exact False.elim hF
    | succ n ih =>
    intro x2 M gx2 hF
    have hF : wb_X12_promise_b90  Q  (jit (fun _ _ => False) (wb_X12_promise_b90  Q ) n) x2 M := hF
    unfold wb_X12_promise_b90 at hF
    refine j_iload_n hJ dX12_promise_90 rfl 1 rfl ?_
    refine j_aload_n hJ dX12_promise_91 rfl 0 rfl ?_
    refine j_gi hJ kR_0 fR_15_92 rfl fl_X12_670 dX12_promise_92 (fun v1 ev1 gv1 => ?_)
    have hF := hF v1 ev1 gv1
    refine j_icmp_ge hJ 136 gx2 gv1 dX12_promise_95 (by decide) (fun z2 => ?_) (fun z2 => ?_)
    · have hF := hF.1 z2
      refine j_aload_n hJ dX12_promise_136 rfl 0 rfl ?_
      refine j_callVv hJ (c_X12_takeNow (l := l) (D := D) (cy := cy) (ad := ad) hin) rfl om_1205 ⟨rfl, rfl, Nat.le_of_ble_eq_true rfl, Nat.le_of_ble_eq_true rfl⟩ [] mv_X12_875 hd_X12_takeNowv kR_0 rfl rfl rfl (Nat.le_of_ble_eq_true rfl) dX12_promise_137 ⟨rfl, hF⟩ (fun M4 qM4 => ?_)
      have hF := qM4
      refine j_aload_n hJ dX12_promise_140 rfl 0 rfl ?_
      refine j_gr (e := 79) hJ kR_0 fR_15_112 fl_X12_312 dX12_promise_141 rfl ?_
      refine j_aload_n hJ dX12_promise_144 rfl 0 rfl ?_
      refine j_gi hJ kR_0 fR_15_113 rfl fl_X12_872 dX12_promise_145 (fun v5 ev5 gv5 => ?_)
      have hF := hF v5 ev5 gv5
      refine j_aload_n hJ dX12_promise_148 rfl 0 rfl ?_
      refine j_aload_n hJ dX12_promise_149 rfl 0 rfl ?_
      refine j_gi hJ kR_0 fR_15_113 rfl fl_X12_872 dX12_promise_150 (fun v6 ev6 gv6 => ?_)
      have hF := hF v6 ev6 gv6
      refine j_callVz hJ (c_X12_isTrueNow (l := l) (D := D) (cy := cy) (ad := ad) hin) rfl om_1277 ⟨rfl, rfl, Nat.le_of_ble_eq_true rfl, Nat.le_of_ble_eq_true rfl⟩ [.int (Ii v6)] mv_X12_878 hd_X12_isTrueNowv kR_0 rfl rfl rfl (Nat.le_of_ble_eq_true rfl) dX12_promise_153 ⟨v6, rfl, gv6, hF⟩ (fun r7 M8 gr7 qM8 => ?_)
      have hF := qM8 gr7
      refine j_if_eq hJ 164 (jz_ri gr7) dX12_promise_156 (by decide) (fun z9 => ?_) (fun z9 => ?_)
      · have hF := hF.1 z9
        refine j_iconst hJ dX12_promise_164 ?_
        exact j_sub hJ [0] rfl (k_X12_promise_b165 hin  hJ  (-1) v5 _ rk_m1 gv5 hF)
      · have hF := hF.2 z9
        refine j_bipush hJ dX12_promise_159 (by decide) ?_
        refine j_goto hJ 165 dX12_promise_161 (by decide) ?_
        exact j_sub hJ [0] rfl (k_X12_promise_b165 hin  hJ  (-2) v5 _ rk_m2 gv5 hF)
    · have hF := hF.2 z2
      refine j_aload_n hJ dX12_promise_98 rfl 0 rfl ?_
      refine j_aload_n hJ dX12_promise_99 rfl 0 rfl ?_
      refine j_gz hJ kR_0 fR_15_114 rfl fl_X12_869 dX12_promise_100 (fun v10 ev10 gv10 => ?_)
      have hF := hF v10 ev10 gv10
      refine j_if_ne hJ 122 (jz_ri gv10) dX12_promise_103 (by decide) (fun z11 => ?_) (fun z11 => ?_)
      · have hF := hF.1 z11
        exact j_sub hJ [0, 1] rfl (k_X12_promise_b122 hin  hJ ih x2 _ gx2 hF)
      · have hF := hF.2 z11
        refine j_aload_n hJ dX12_promise_106 rfl 0 rfl ?_
        refine j_gr (e := 66) hJ kR_0 fR_15_86 fl_X12_272 dX12_promise_107 rfl ?_
        refine j_aload_n hJ dX12_promise_110 rfl 0 rfl ?_
        refine j_gi hJ kR_0 fR_15_91 rfl fl_X12_673 dX12_promise_111 (fun v12 ev12 gv12 => ?_)
        have hF := hF v12 ev12 gv12
        refine j_iload_n hJ dX12_promise_114 rfl 1 rfl ?_
        refine j_iadd hJ dX12_promise_115 ?_
        have g13 := hF.1; have hF := hF.2
        refine j_iald hJ g13 kR_66 hF.1 hF.2.1 dX12_promise_116 (fun v14 ev14 gv14 => ?_)
        have hF := hF.2.2 v14 ev14 gv14
        refine j_bipush hJ dX12_promise_117 (by decide) ?_
        refine j_icmp_ne hJ 126 gv14 rk_20 dX12_promise_119 (by decide) (fun z15 => ?_) (fun z15 => ?_)
        · have hF := hF.1 z15
          refine j_iconst hJ dX12_promise_126 ?_
          exact j_sub hJ [0, 1] rfl (k_X12_promise_b127 hin  hJ ih x2 0 _ gx2 rk_0 hF)
        · have hF := hF.2 z15
          exact j_sub hJ [0, 1] rfl (k_X12_promise_b122 hin  hJ ih x2 _ gx2 hF)
  intro x2 M gx2 hF
  obtain ⟨n, hF⟩ := hF
  exact H9 n x2 M gx2 hF
set_option maxHeartbeats 4000000 in
set_option maxRecDepth 100000 in
theorem k_X12_promise_b66 {l : Launch} {D : va_G} {cy : Nat → ClassId} {ad : Nat → Nat} {Q : Int → MM → Prop} {J : Nat → List (Nat × Value) → List Value → MM → Prop} (hin : jIn ad ksR.length)   (hJ : jOk l D vwCl (tyR cy) cy ad ftR ksR (XtR ad) Om RX12 cX12_promise 3 1 ({ frames := 405, cells := 0, slots := 0, locals := 9708 } : Room) Q J)  : ∀ (x1 s0 : Int) (M : MM), ri_ x1 → ri_ s0 → w_X12_promise_b66  Q  x1 s0 M → J 66 [(0, .ref (ad 0)), (1, .int (Ii x1))] [.int (Ii s0), .ref (ad 0)] M := by
  intro x1 s0 M gx1 gs0 hF
  unfold w_X12_promise_b66 at hF
  refine j_pi hJ gs0 kR_0 fR_15_0 rfl fp_X12_388 dX12_promise_66 (fun M1 eM1 => ?_)
  have hF := hF M1 eM1
  refine j_aload_n hJ dX12_promise_69 rfl 0 rfl ?_
  refine j_gi hJ kR_0 fR_15_0 rfl fl_X12_388 dX12_promise_70 (fun v2 ev2 gv2 => ?_)
  have hF := hF v2 ev2 gv2
  refine j_if_le hJ 78 gv2 dX12_promise_73 (by decide) (fun z3 => ?_) (fun z3 => ?_)
  · have hF := hF.1 z3
    refine j_aload_n hJ dX12_promise_78 rfl 0 rfl ?_
    refine j_gr (e := 78) hJ kR_0 fR_15_111 fl_X12_309 dX12_promise_79 rfl ?_
    refine j_aload_n hJ dX12_promise_82 rfl 0 rfl ?_
    refine j_gi hJ kR_0 fR_15_113 rfl fl_X12_872 dX12_promise_83 (fun v4 ev4 gv4 => ?_)
    have hF := hF v4 ev4 gv4
    refine j_iload_n hJ dX12_promise_86 rfl 1 rfl ?_
    refine j_iast hJ gv4 gx1 kR_78 hF.1 hF.2.1 dX12_promise_87 (fun M5 eM5 => ?_)
    have hF := hF.2.2 M5 eM5
    refine j_iconst hJ dX12_promise_88 ?_
    refine j_istore_n (lv' := [(2, .int (Ii 0)), (0, .ref (ad 0)), (1, .int (Ii x1))]) hJ dX12_promise_89 rfl (by decide) rfl ?_
    exact j_sub hJ [1, 0] rfl (k_X12_promise_b90 hin  hJ  0 _ rk_0 hF)
  · have hF := hF.2 z3
    refine j_iconst hJ dX12_promise_76 ?_
    exact j_iret hJ rfl rk_0 dX12_promise_77 hF
set_option maxHeartbeats 4000000 in
set_option maxRecDepth 100000 in
theorem k_X12_promise_b14 {l : Launch} {D : va_G} {cy : Nat → ClassId} {ad : Nat → Nat} {Q : Int → MM → Prop} {J : Nat → List (Nat × Value) → List Value → MM → Prop} (hin : jIn ad ksR.length)   (hJ : jOk l D vwCl (tyR cy) cy ad ftR ksR (XtR ad) Om RX12 cX12_promise 3 1 ({ frames := 405, cells := 0, slots := 0, locals := 9708 } : Room) Q J)  : ∀ (s0 : Int) (M : MM), ri_ s0 → w_X12_promise_b14  Q  s0 M → J 14 [(0, .ref (ad 0))] [.int (Ii s0), .ref (ad 0)] M := by
  intro s0 M gs0 hF
  unfold w_X12_promise_b14 at hF
  refine j_pi hJ gs0 kR_0 fR_15_0 rfl fp_X12_388 dX12_promise_14 (fun M1 eM1 => ?_)
  have hF := hF M1 eM1
  refine j_aload_n hJ dX12_promise_17 rfl 0 rfl ?_
  refine j_gi hJ kR_0 fR_15_0 rfl fl_X12_388 dX12_promise_18 (fun v2 ev2 gv2 => ?_)
  have hF := hF v2 ev2 gv2
  refine j_if_le hJ 26 gv2 dX12_promise_21 (by decide) (fun z3 => ?_) (fun z3 => ?_)
  · have hF := hF.1 z3
    refine j_aload_n hJ dX12_promise_26 rfl 0 rfl ?_
    refine j_bipush hJ dX12_promise_27 (by decide) ?_
    refine j_aload_n hJ dX12_promise_29 rfl 0 rfl ?_
    refine j_gi hJ kR_0 fR_15_113 rfl fl_X12_872 dX12_promise_30 (fun v4 ev4 gv4 => ?_)
    have hF := hF v4 ev4 gv4
    refine j_iconst hJ dX12_promise_33 ?_
    refine j_iadd hJ dX12_promise_34 ?_
    have g5 := hF.1; have hF := hF.2
    refine j_imul hJ dX12_promise_35 ?_
    have g6 := hF.1; have hF := hF.2
    refine j_callVv hJ (c_X12_beginText (l := l) (D := D) (cy := cy) (ad := ad) hin) rfl om_1460 ⟨rfl, rfl, Nat.le_of_ble_eq_true rfl, Nat.le_of_ble_eq_true rfl⟩ [.int (Ii (120 * (v4 + 1)))] mv_X12_855 hd_X12_beginTextv kR_0 rfl rfl rfl (Nat.le_of_ble_eq_true rfl) dX12_promise_36 ⟨(120 * (v4 + 1)), rfl, g6, hF⟩ (fun M8 qM8 => ?_)
    have hF := qM8
    refine j_aload_n hJ dX12_promise_39 rfl 0 rfl ?_
    refine j_iconst hJ dX12_promise_40 ?_
    refine j_pz hJ (by decide) kR_0 fR_15_95 rfl fp_X12_764 dX12_promise_41 (fun M9 eM9 => ?_)
    have hF := hF M9 eM9
    refine j_aload_n hJ dX12_promise_44 rfl 0 rfl ?_
    refine j_callVi hJ (c_X12_readE (l := l) (D := D) (cy := cy) (ad := ad) hin) rfl om_1432 ⟨rfl, rfl, Nat.le_of_ble_eq_true rfl, Nat.le_of_ble_eq_true rfl⟩ [] mv_X12_743 hd_X12_readEv kR_0 rfl rfl rfl (Nat.le_of_ble_eq_true rfl) dX12_promise_45 ⟨rfl, hF⟩ (fun r10 M11 gr10 qM11 => ?_)
    have hF := qM11 gr10
    refine j_istore_n (lv' := [(1, .int (Ii r10)), (0, .ref (ad 0))]) hJ dX12_promise_48 rfl (by decide) rfl ?_
    refine j_aload_n hJ dX12_promise_49 rfl 1 rfl ?_
    refine j_callVv hJ (c_X12_endText (l := l) (D := D) (cy := cy) (ad := ad) hin) rfl om_1464 ⟨rfl, rfl, Nat.le_of_ble_eq_true rfl, Nat.le_of_ble_eq_true rfl⟩ [] mv_X12_858 hd_X12_endTextv kR_0 rfl rfl rfl (Nat.le_of_ble_eq_true rfl) dX12_promise_50 ⟨rfl, hF⟩ (fun M13 qM13 => ?_)
    have hF := qM13
    refine j_aload_n hJ dX12_promise_53 rfl 1 rfl ?_
    refine j_aload_n hJ dX12_promise_54 rfl 1 rfl ?_
    refine j_gi hJ kR_0 fR_15_81 rfl fl_X12_776 dX12_promise_55 (fun v14 ev14 gv14 => ?_)
    have hF := hF v14 ev14 gv14
    refine j_if_le hJ 65 gv14 dX12_promise_58 (by decide) (fun z15 => ?_) (fun z15 => ?_)
    · have hF := hF.1 z15
      refine j_iconst hJ dX12_promise_65 ?_
      exact j_sub hJ [1, 0] rfl (k_X12_promise_b66 hin  hJ  r10 0 _ gr10 rk_0 hF)
    · have hF := hF.2 z15
      refine j_iconst hJ dX12_promise_61 ?_
      refine j_goto hJ 66 dX12_promise_62 (by decide) ?_
      exact j_sub hJ [1, 0] rfl (k_X12_promise_b66 hin  hJ  r10 2 _ gr10 rk_2 hF)
  · have hF := hF.2 z3
    refine j_iconst hJ dX12_promise_24 ?_
    exact j_iret hJ rfl rk_0 dX12_promise_25 hF
set_option maxHeartbeats 4000000 in
set_option maxRecDepth 100000 in
theorem c_X12_promise {l : Launch} {D : va_G} {cy : Nat → ClassId} {ad : Nat → Nat} (hin : jIn ad ksR.length) : jCN l D vwCl (tyR cy) cy ad ftR ksR (XtR ad) yX12_promise (.code yX12_promise cX12_promise 3 (some .int) :: Om) ({ frames := 405, cells := 0, slots := 0, locals := 9708 } : Room) 1 (W_X12_promise ad) := by
  refine jCN_of (y := yX12_promise) (cc := cX12_promise) (nL := 3) (rk := 1) (rm := ({ frames := 405, cells := 0, slots := 0, locals := 9708 } : Room)) (own := RX12) (tyR_ok cy) hin (XtR_ok ad) Om_good (by decide) rfl ?_
  intro Q av M hF
  obtain ⟨rfl, hF⟩ := hF
  refine ⟨Nat.le_of_ble_eq_true rfl, fun J hJ => ?_⟩
  show J 0 [(0, .ref (ad 0))] [] M
  unfold w_X12_promise at hF
  refine j_aload_n hJ dX12_promise_0 rfl 0 rfl ?_
  refine j_aload_n hJ dX12_promise_1 rfl 0 rfl ?_
  refine j_gi hJ kR_0 fR_15_113 rfl fl_X12_872 dX12_promise_2 (fun v1 ev1 gv1 => ?_)
  have hF := hF v1 ev1 gv1
  refine j_iconst hJ dX12_promise_5 ?_
  refine j_icmp_ne hJ 13 gv1 rk_3 dX12_promise_6 (by decide) (fun z2 => ?_) (fun z2 => ?_)
  · have hF := hF.1 z2
    refine j_iconst hJ dX12_promise_13 ?_
    exact j_sub hJ [0] rfl (k_X12_promise_b14 hin  hJ  0 _ rk_0 hF)
  · have hF := hF.2 z2
    refine j_iconst hJ dX12_promise_9 ?_
    refine j_goto hJ 14 dX12_promise_10 (by decide) ?_
    exact j_sub hJ [0] rfl (k_X12_promise_b14 hin  hJ  1 _ rk_1 hF)
def W_X12_broken (ad : Nat → Nat) (Q : Int → MM → Prop) (av : List Value) (M : MM) : Prop := ∃ (p1 : Int), av = [.ref (ad 0), .int (Ii p1)] ∧ ri_ p1 ∧ w_X12_broken  Q p1 M
set_option maxHeartbeats 4000000 in
set_option maxRecDepth 100000 in
theorem k_X12_broken_b18 {l : Launch} {D : va_G} {cy : Nat → ClassId} {ad : Nat → Nat} {Q : Int → MM → Prop} {J : Nat → List (Nat × Value) → List Value → MM → Prop} (hin : jIn ad ksR.length)   (hJ : jOk l D vwCl (tyR cy) cy ad ftR ksR (XtR ad) Om RX12 cX12_broken 2 1 ({ frames := 0, cells := 0, slots := 0, locals := 0 } : Room) Q J)  : ∀ (x1 s0 : Int) (M : MM), ri_ x1 → ri_ s0 → w_X12_broken_b18  Q  x1 s0 M → J 18 [(0, .ref (ad 0)), (1, .int (Ii x1))] [.int (Ii s0), .ref (ad 0)] M := by
  intro x1 s0 M gx1 gs0 hF
  unfold w_X12_broken_b18 at hF
  refine j_pi hJ gs0 kR_0 fR_15_0 rfl fp_X12_388 dX12_broken_18 (fun M1 eM1 => ?_)
  have hF := hF M1 eM1
  refine j_aload_n hJ dX12_broken_21 rfl 0 rfl ?_
  refine j_gi hJ kR_0 fR_15_0 rfl fl_X12_388 dX12_broken_22 (fun v2 ev2 gv2 => ?_)
  have hF := hF v2 ev2 gv2
  refine j_if_le hJ 32 gv2 dX12_broken_25 (by decide) (fun z3 => ?_) (fun z3 => ?_)
  · have hF := hF.1 z3
    refine j_aload_n hJ dX12_broken_32 rfl 0 rfl ?_
    refine j_gr (e := 79) hJ kR_0 fR_15_112 fl_X12_312 dX12_broken_33 rfl ?_
    refine j_iload_n hJ dX12_broken_36 rfl 1 rfl ?_
    refine j_iald hJ gx1 kR_79 hF.1 hF.2.1 dX12_broken_37 (fun v4 ev4 gv4 => ?_)
    have hF := hF.2.2 v4 ev4 gv4
    exact j_iret hJ rfl gv4 dX12_broken_38 hF
  · have hF := hF.2 z3
    refine j_iconst hJ dX12_broken_28 ?_
    refine j_goto hJ 38 dX12_broken_29 (by decide) ?_
    exact j_iret hJ rfl rk_0 dX12_broken_38 hF
set_option maxHeartbeats 4000000 in
set_option maxRecDepth 100000 in
theorem k_X12_broken_b13 {l : Launch} {D : va_G} {cy : Nat → ClassId} {ad : Nat → Nat} {Q : Int → MM → Prop} {J : Nat → List (Nat × Value) → List Value → MM → Prop} (hin : jIn ad ksR.length)   (hJ : jOk l D vwCl (tyR cy) cy ad ftR ksR (XtR ad) Om RX12 cX12_broken 2 1 ({ frames := 0, cells := 0, slots := 0, locals := 0 } : Room) Q J)  : ∀ (x1 : Int) (M : MM), ri_ x1 → w_X12_broken_b13  Q  x1 M → J 13 [(0, .ref (ad 0)), (1, .int (Ii x1))] [.ref (ad 0)] M := by
  intro x1 M gx1 hF
  unfold w_X12_broken_b13 at hF
  refine j_iconst hJ dX12_broken_13 ?_
  refine j_goto hJ 18 dX12_broken_14 (by decide) ?_
  exact j_sub hJ [0, 1] rfl (k_X12_broken_b18 hin  hJ  x1 1 _ gx1 rk_1 hF)
set_option maxHeartbeats 4000000 in
set_option maxRecDepth 100000 in
theorem c_X12_broken {l : Launch} {D : va_G} {cy : Nat → ClassId} {ad : Nat → Nat} (hin : jIn ad ksR.length) : jCN l D vwCl (tyR cy) cy ad ftR ksR (XtR ad) yX12_broken (.code yX12_broken cX12_broken 2 (some .int) :: Om) ({ frames := 0, cells := 0, slots := 0, locals := 0 } : Room) 1 (W_X12_broken ad) := by
  refine jCN_of (y := yX12_broken) (cc := cX12_broken) (nL := 2) (rk := 1) (rm := ({ frames := 0, cells := 0, slots := 0, locals := 0 } : Room)) (own := RX12) (tyR_ok cy) hin (XtR_ok ad) Om_good (by decide) rfl ?_
  intro Q av M hF
  obtain ⟨p1, rfl, gp1, hF⟩ := hF
  refine ⟨Nat.le_of_ble_eq_true rfl, fun J hJ => ?_⟩
  show J 0 [(0, .ref (ad 0)), (1, .int (Ii p1))] [] M
  unfold w_X12_broken at hF
  refine j_aload_n hJ dX12_broken_0 rfl 0 rfl ?_
  refine j_iload_n hJ dX12_broken_1 rfl 1 rfl ?_
  refine j_if_lt hJ 13 gp1 dX12_broken_2 (by decide) (fun z1 => ?_) (fun z1 => ?_)
  · have hF := hF.1 z1
    exact j_sub hJ [0, 1] rfl (k_X12_broken_b13 hin  hJ  p1 _ gp1 hF)
  · have hF := hF.2 z1
    refine j_iload_n hJ dX12_broken_5 rfl 1 rfl ?_
    refine j_aload_n hJ dX12_broken_6 rfl 0 rfl ?_
    refine j_gi hJ kR_0 fR_15_113 rfl fl_X12_872 dX12_broken_7 (fun v2 ev2 gv2 => ?_)
    have hF := hF v2 ev2 gv2
    refine j_icmp_lt hJ 17 gp1 gv2 dX12_broken_10 (by decide) (fun z3 => ?_) (fun z3 => ?_)
    · have hF := hF.1 z3
      refine j_iconst hJ dX12_broken_17 ?_
      exact j_sub hJ [0, 1] rfl (k_X12_broken_b18 hin  hJ  p1 0 _ gp1 rk_0 hF)
    · have hF := hF.2 z3
      exact j_sub hJ [0, 1] rfl (k_X12_broken_b13 hin  hJ  p1 _ gp1 hF)
def W_X12_isRuleName (ad : Nat → Nat) (Q : Int → MM → Prop) (av : List Value) (M : MM) : Prop := av = [.ref (ad 0)] ∧ w_X12_isRuleName  Q  M
set_option maxHeartbeats 4000000 in
set_option maxRecDepth 100000 in
theorem c_X12_isRuleName {l : Launch} {D : va_G} {cy : Nat → ClassId} {ad : Nat → Nat} (hin : jIn ad ksR.length) : jCN l D vwCl (tyR cy) cy ad ftR ksR (XtR ad) yX12_isRuleName (.code yX12_isRuleName cX12_isRuleName 1 (some .boolean) :: Om) ({ frames := 3, cells := 0, slots := 0, locals := 65 } : Room) 3 (W_X12_isRuleName ad) := by
  refine jCN_of (y := yX12_isRuleName) (cc := cX12_isRuleName) (nL := 1) (rk := 3) (rm := ({ frames := 3, cells := 0, slots := 0, locals := 65 } : Room)) (own := RX12) (tyR_ok cy) hin (XtR_ok ad) Om_good (by decide) rfl ?_
  intro Q av M hF
  obtain ⟨rfl, hF⟩ := hF
  refine ⟨Nat.le_of_ble_eq_true rfl, fun J hJ => ?_⟩
  show J 0 [(0, .ref (ad 0))] [] M
  unfold w_X12_isRuleName at hF
  refine j_aload_n hJ dX12_isRuleName_0 rfl 0 rfl ?_
  refine j_callVz hJ (c_X12_isName (l := l) (D := D) (cy := cy) (ad := ad) hin) rfl om_1401 ⟨rfl, rfl, Nat.le_of_ble_eq_true rfl, Nat.le_of_ble_eq_true rfl⟩ [] mv_X12_710 hd_X12_isNamev kR_0 rfl rfl rfl (Nat.le_of_ble_eq_true rfl) dX12_isRuleName_1 ⟨rfl, hF⟩ (fun r1 M2 gr1 qM2 => ?_)
  have hF := qM2 gr1
  refine j_if_eq hJ 39 (jz_ri gr1) dX12_isRuleName_4 (by decide) (fun z3 => ?_) (fun z3 => ?_)
  · have hF := hF.1 z3
    refine j_iconst hJ dX12_isRuleName_39 ?_
    exact j_zret hJ rfl (by decide) dX12_isRuleName_40 hF
  · have hF := hF.2 z3
    refine j_aload_n hJ dX12_isRuleName_7 rfl 0 rfl ?_
    refine j_gl hJ kR_0 fR_15_85 rfl fl_X12_640 dX12_isRuleName_8 (fun v4 ev4 gv4 => ?_)
    have hF := hF v4 ev4 gv4
    refine j_ldc2 hJ 26982 om_1473 (by decide) dX12_isRuleName_11 ?_
    refine j_callSl hJ (c_X12_coded (l := l) (D := D) (cy := cy) (ad := ad) hin) rfl om_1474 ⟨rfl, rfl, Nat.le_of_ble_eq_true rfl, Nat.le_of_ble_eq_true rfl⟩ [.long (Ll 26982)] mv_X12_384 hd_X12_coded rfl (Nat.le_of_ble_eq_true rfl) dX12_isRuleName_14 ⟨26982, rfl, lk_26982, hF⟩ (fun r5 M6 gr5 qM6 => ?_)
    have hF := qM6 gr5
    refine j_lcmp_eq hJ 39 gv4 gr5 dX12_isRuleName_17 dX12_isRuleName_18 (by decide) (fun z7 => ?_) (fun z7 => ?_)
    · have hF := hF.1 z7
      refine j_iconst hJ dX12_isRuleName_39 ?_
      exact j_zret hJ rfl (by decide) dX12_isRuleName_40 hF
    · have hF := hF.2 z7
      refine j_aload_n hJ dX12_isRuleName_21 rfl 0 rfl ?_
      refine j_gl hJ kR_0 fR_15_85 rfl fl_X12_640 dX12_isRuleName_22 (fun v8 ev8 gv8 => ?_)
      have hF := hF v8 ev8 gv8
      refine j_ldc2 hJ 1818848875 om_1477 (by decide) dX12_isRuleName_25 ?_
      refine j_callSl hJ (c_X12_coded (l := l) (D := D) (cy := cy) (ad := ad) hin) rfl om_1474 ⟨rfl, rfl, Nat.le_of_ble_eq_true rfl, Nat.le_of_ble_eq_true rfl⟩ [.long (Ll 1818848875)] mv_X12_384 hd_X12_coded rfl (Nat.le_of_ble_eq_true rfl) dX12_isRuleName_28 ⟨1818848875, rfl, lk_1818848875, hF⟩ (fun r9 M10 gr9 qM10 => ?_)
      have hF := qM10 gr9
      refine j_lcmp_eq hJ 39 gv8 gr9 dX12_isRuleName_31 dX12_isRuleName_32 (by decide) (fun z11 => ?_) (fun z11 => ?_)
      · have hF := hF.1 z11
        refine j_iconst hJ dX12_isRuleName_39 ?_
        exact j_zret hJ rfl (by decide) dX12_isRuleName_40 hF
      · have hF := hF.2 z11
        refine j_iconst hJ dX12_isRuleName_35 ?_
        refine j_goto hJ 40 dX12_isRuleName_36 (by decide) ?_
        exact j_zret hJ rfl (by decide) dX12_isRuleName_40 hF
def W_X12_readVariable (ad : Nat → Nat) (Q : Int → MM → Prop) (av : List Value) (M : MM) : Prop := av = [.ref (ad 0)] ∧ w_X12_readVariable  Q  M
set_option maxHeartbeats 4000000 in
set_option maxRecDepth 100000 in
theorem k_X12_readVariable_b126 {l : Launch} {D : va_G} {cy : Nat → ClassId} {ad : Nat → Nat} {Q : Int → MM → Prop} {J : Nat → List (Nat × Value) → List Value → MM → Prop} (hin : jIn ad ksR.length)   (hJ : jOk l D vwCl (tyR cy) cy ad ftR ksR (XtR ad) Om RX12 cX12_readVariable 3 1 ({ frames := 4, cells := 0, slots := 0, locals := 85 } : Room) Q J)  : ∀ (x1 : Int) (M : MM), ri_ x1 → w_X12_readVariable_b126  Q  x1 M → J 126 [(0, .ref (ad 0)), (1, .int (Ii x1))] [] M := by
  intro x1 M gx1 hF
  unfold w_X12_readVariable_b126 at hF
  refine j_aload_n hJ dX12_readVariable_126 rfl 0 rfl ?_
  refine j_callVv hJ (c_X12_advance (l := l) (D := D) (cy := cy) (ad := ad) hin) rfl om_1355 ⟨rfl, rfl, Nat.le_of_ble_eq_true rfl, Nat.le_of_ble_eq_true rfl⟩ [] mv_X12_661 hd_X12_advancev kR_0 rfl rfl rfl (Nat.le_of_ble_eq_true rfl) dX12_readVariable_127 ⟨rfl, hF⟩ (fun M2 qM2 => ?_)
  have hF := qM2
  refine j_iload_n hJ dX12_readVariable_130 rfl 1 rfl ?_
  exact j_iret hJ rfl gx1 dX12_readVariable_131 hF
set_option maxHeartbeats 4000000 in
set_option maxRecDepth 100000 in
theorem k_X12_readVariable_b87 {l : Launch} {D : va_G} {cy : Nat → ClassId} {ad : Nat → Nat} {Q : Int → MM → Prop} {J : Nat → List (Nat × Value) → List Value → MM → Prop} (hin : jIn ad ksR.length)   (hJ : jOk l D vwCl (tyR cy) cy ad ftR ksR (XtR ad) Om RX12 cX12_readVariable 3 1 ({ frames := 4, cells := 0, slots := 0, locals := 85 } : Room) Q J)  : ∀ (x1 : Int) (M : MM), ri_ x1 → w_X12_readVariable_b87  Q  x1 M → J 87 [(0, .ref (ad 0)), (1, .int (Ii x1))] [] M := by
  intro x1 M gx1 hF
  unfold w_X12_readVariable_b87 at hF
  refine j_aload_n hJ dX12_readVariable_87 rfl 0 rfl ?_
  refine j_gi hJ kR_0 fR_15_83 rfl fl_X12_625 dX12_readVariable_88 (fun v1 ev1 gv1 => ?_)
  have hF := hF v1 ev1 gv1
  refine j_if_le hJ 96 gv1 dX12_readVariable_91 (by decide) (fun z2 => ?_) (fun z2 => ?_)
  · have hF := hF.1 z2
    refine j_iload_n hJ dX12_readVariable_96 rfl 1 rfl ?_
    refine j_iconst hJ dX12_readVariable_97 ?_
    refine j_icmp_ne hJ 126 gx1 rk_m1 dX12_readVariable_98 (by decide) (fun z3 => ?_) (fun z3 => ?_)
    · have hF := hF.1 z3
      exact j_sub hJ [0, 1] rfl (k_X12_readVariable_b126 hin  hJ  x1 _ gx1 hF)
    · have hF := hF.2 z3
      refine j_aload_n hJ dX12_readVariable_101 rfl 0 rfl ?_
      refine j_gi hJ kR_0 fR_15_135 rfl fl_X12_888 dX12_readVariable_102 (fun v4 ev4 gv4 => ?_)
      have hF := hF v4 ev4 gv4
      refine j_istore_n (lv' := [(1, .int (Ii v4)), (0, .ref (ad 0))]) hJ dX12_readVariable_105 rfl (by decide) rfl ?_
      refine j_aload_n hJ dX12_readVariable_106 rfl 1 rfl ?_
      refine j_gr (e := 81) hJ kR_0 fR_15_116 fl_X12_318 dX12_readVariable_107 rfl ?_
      refine j_iload_n hJ dX12_readVariable_110 rfl 0 rfl ?_
      refine j_aload_n hJ dX12_readVariable_111 rfl 1 rfl ?_
      refine j_gl hJ kR_0 fR_15_85 rfl fl_X12_640 dX12_readVariable_112 (fun v5 ev5 gv5 => ?_)
      have hF := hF v5 ev5 gv5
      refine j_last hJ gv4 gv5 kR_81 hF.1 hF.2.1 dX12_readVariable_115 (fun M6 eM6 => ?_)
      have hF := hF.2.2 M6 eM6
      refine j_aload_n hJ dX12_readVariable_116 rfl 1 rfl ?_
      refine j_dup hJ dX12_readVariable_117 rfl ?_
      refine j_gi hJ kR_0 fR_15_135 rfl fl_X12_888 dX12_readVariable_118 (fun v7 ev7 gv7 => ?_)
      have hF := hF v7 ev7 gv7
      refine j_iconst hJ dX12_readVariable_121 ?_
      refine j_iadd hJ dX12_readVariable_122 ?_
      have g8 := hF.1; have hF := hF.2
      refine j_pi hJ g8 kR_0 fR_15_135 rfl fp_X12_888 dX12_readVariable_123 (fun M9 eM9 => ?_)
      have hF := hF M9 eM9
      exact j_sub hJ [1, 0] rfl (k_X12_readVariable_b126 hin  hJ  v4 _ gv4 hF)
  · have hF := hF.2 z2
    refine j_iconst hJ dX12_readVariable_94 ?_
    exact j_iret hJ rfl rk_0 dX12_readVariable_95 hF
set_option maxHeartbeats 4000000 in
set_option maxRecDepth 100000 in
theorem k_X12_readVariable_b58 {l : Launch} {D : va_G} {cy : Nat → ClassId} {ad : Nat → Nat} {Q : Int → MM → Prop} {J : Nat → List (Nat × Value) → List Value → MM → Prop} (hin : jIn ad ksR.length)   (hJ : jOk l D vwCl (tyR cy) cy ad ftR ksR (XtR ad) Om RX12 cX12_readVariable 3 1 ({ frames := 4, cells := 0, slots := 0, locals := 85 } : Room) Q J) {K31 : Int → Int → MM → Prop} (hK31 : ∀ (x1 x2 : Int) (M : MM), ri_ x1 → ri_ x2 → K31 x1 x2 M → J 31 [(0, .ref (ad 0)), (1, .int (Ii x1)), (2, .int (Ii x2))] [] M) : ∀ (x2 s0 : Int) (M : MM), ri_ x2 → ri_ s0 → w_X12_readVariable_b58  Q K31 x2 s0 M → J 58 [(0, .ref (ad 0)), (2, .int (Ii x2))] [.int (Ii s0)] M := by
  intro x2 s0 M gx2 gs0 hF
  unfold w_X12_readVariable_b58 at hF
  refine j_istore_n (lv' := [(1, .int (Ii s0)), (0, .ref (ad 0)), (2, .int (Ii x2))]) hJ dX12_readVariable_58 rfl (by decide) rfl ?_
  refine j_iinc (lv' := [(2, .int (Ii (x2 + 1))), (1, .int (Ii s0)), (0, .ref (ad 0))]) (k := 2) hJ dX12_readVariable_59 rfl (by decide) rfl ?_
  have g1 := hF.1; have hF := hF.2
  refine j_goto hJ 31 dX12_readVariable_62 (by decide) ?_
  exact j_sub hJ [2, 1, 0] rfl (hK31 s0 (x2 + 1) _ gs0 g1 hF)
set_option maxHeartbeats 4000000 in
set_option maxRecDepth 100000 in
theorem k_X12_readVariable_b31 {l : Launch} {D : va_G} {cy : Nat → ClassId} {ad : Nat → Nat} {Q : Int → MM → Prop} {J : Nat → List (Nat × Value) → List Value → MM → Prop} (hin : jIn ad ksR.length)   (hJ : jOk l D vwCl (tyR cy) cy ad ftR ksR (XtR ad) Om RX12 cX12_readVariable 3 1 ({ frames := 4, cells := 0, slots := 0, locals := 85 } : Room) Q J)  : ∀ (x1 x2 : Int) (M : MM), ri_ x1 → ri_ x2 → w_X12_readVariable_b31  Q  x1 x2 M → J 31 [(0, .ref (ad 0)), (1, .int (Ii x1)), (2, .int (Ii x2))] [] M := by
  have H9 : ∀ (n : Nat) (x1 x2 : Int) (M : MM), ri_ x1 → ri_ x2 → jit (fun _ _ _ => False) (wb_X12_readVariable_b31  Q ) n x1 x2 M → J 31 [(0, .ref (ad 0)), (1, .int (Ii x1)), (2, .int (Ii x2))] [] M := by
    intro n
    induction n with
    | zero => intro x1 x2 M gx1 gx2 hF; exact False.elim hF
    | succ n ih =>
    intro x1 x2 M gx1 gx2 hF
    have hF : wb_X12_readVariable_b31  Q  (jit (fun _ _ _ => False) (wb_X12_readVariable_b31  Q ) n) x1 x2 M := hF
    unfold wb_X12_readVariable_b31 at hF
    refine j_iload_n hJ dX12_readVariable_31 rfl 2 rfl ?_
    refine j_aload_n hJ dX12_readVariable_32 rfl 0 rfl ?_
    refine j_gi hJ kR_0 fR_15_135 rfl fl_X12_888 dX12_readVariable_33 (fun v1 ev1 gv1 => ?_)
    have hF := hF v1 ev1 gv1
    refine j_icmp_ge hJ 65 gx2 gv1 dX12_readVariable_36 (by decide) (fun z2 => ?_) (fun z2 => ?_)
    · have hF := hF.1 z2
      refine j_iload_n hJ dX12_readVariable_65 rfl 1 rfl ?_
      refine j_iconst hJ dX12_readVariable_66 ?_
      refine j_icmp_ne hJ 87 gx1 rk_m1 dX12_readVariable_67 (by decide) (fun z3 => ?_) (fun z3 => ?_)
      · have hF := hF.1 z3
        exact j_sub hJ [0, 1] rfl (k_X12_readVariable_b87 hin  hJ  x1 _ gx1 hF)
      · have hF := hF.2 z3
        refine j_aload_n hJ dX12_readVariable_70 rfl 0 rfl ?_
        refine j_gi hJ kR_0 fR_15_135 rfl fl_X12_888 dX12_readVariable_71 (fun v4 ev4 gv4 => ?_)
        have hF := hF v4 ev4 gv4
        refine j_iconst hJ dX12_readVariable_74 ?_
        refine j_icmp_ne hJ 87 gv4 rk_3 dX12_readVariable_75 (by decide) (fun z5 => ?_) (fun z5 => ?_)
        · have hF := hF.1 z5
          exact j_sub hJ [0, 1] rfl (k_X12_readVariable_b87 hin  hJ  x1 _ gx1 hF)
        · have hF := hF.2 z5
          refine j_aload_n hJ dX12_readVariable_78 rfl 0 rfl ?_
          refine j_iconst hJ dX12_readVariable_79 ?_
          refine j_aload_n hJ dX12_readVariable_80 rfl 0 rfl ?_
          refine j_gi hJ kR_0 fR_15_79 rfl fl_X12_637 dX12_readVariable_81 (fun v6 ev6 gv6 => ?_)
          have hF := hF v6 ev6 gv6
          refine j_callVv hJ (c_X12_fail (l := l) (D := D) (cy := cy) (ad := ad) hin) rfl om_1351 ⟨rfl, rfl, Nat.le_of_ble_eq_true rfl, Nat.le_of_ble_eq_true rfl⟩ [.int (Ii 4), .int (Ii v6)] mv_X12_653 hd_X12_failv kR_0 rfl rfl rfl (Nat.le_of_ble_eq_true rfl) dX12_readVariable_84 ⟨4, v6, rfl, rk_4, gv6, hF⟩ (fun M8 qM8 => ?_)
          have hF := qM8
          exact j_sub hJ [0, 1] rfl (k_X12_readVariable_b87 hin  hJ  x1 _ gx1 hF)
    · have hF := hF.2 z2
      refine j_aload_n hJ dX12_readVariable_39 rfl 0 rfl ?_
      refine j_gr (e := 81) hJ kR_0 fR_15_116 fl_X12_318 dX12_readVariable_40 rfl ?_
      refine j_iload_n hJ dX12_readVariable_43 rfl 2 rfl ?_
      refine j_lald hJ gx2 kR_81 hF.1 hF.2.1 dX12_readVariable_44 (fun v9 ev9 gv9 => ?_)
      have hF := hF.2.2 v9 ev9 gv9
      refine j_aload_n hJ dX12_readVariable_45 rfl 0 rfl ?_
      refine j_gl hJ kR_0 fR_15_85 rfl fl_X12_640 dX12_readVariable_46 (fun v10 ev10 gv10 => ?_)
      have hF := hF v10 ev10 gv10
      refine j_lcmp_ne hJ 57 gv9 gv10 dX12_readVariable_49 dX12_readVariable_50 (by decide) (fun z11 => ?_) (fun z11 => ?_)
      · have hF := hF.1 z11
        refine j_iload_n hJ dX12_readVariable_57 rfl 1 rfl ?_
        exact j_sub hJ [0, 2] rfl (k_X12_readVariable_b58 hin  hJ ih x2 x1 _ gx2 gx1 hF)
      · have hF := hF.2 z11
        refine j_iload_n hJ dX12_readVariable_53 rfl 2 rfl ?_
        refine j_goto hJ 58 dX12_readVariable_54 (by decide) ?_
        exact j_sub hJ [0, 2] rfl (k_X12_readVariable_b58 hin  hJ ih x2 x2 _ gx2 gx2 hF)
  intro x1 x2 M gx1 gx2 hF
  obtain ⟨n, hF⟩ := hF
  exact H9 n x1 x2 M gx1 gx2 hF
set_option maxHeartbeats 4000000 in
set_option maxRecDepth 100000 in
theorem k_X12_readVariable_b18 {l : Launch} {D : va_G} {cy : Nat → ClassId} {ad : Nat → Nat} {Q : Int → MM → Prop} {J : Nat → List (Nat × Value) → List Value → MM → Prop} (hin : jIn ad ksR.length)   (hJ : jOk l D vwCl (tyR cy) cy ad ftR ksR (XtR ad) Om RX12 cX12_readVariable 3 1 ({ frames := 4, cells := 0, slots := 0, locals := 85 } : Room) Q J)  : ∀ (M : MM), w_X12_readVariable_b18  Q   M → J 18 [(0, .ref (ad 0))] [] M := by
  intro  M  hF
  unfold w_X12_readVariable_b18 at hF
  refine j_aload_n hJ dX12_readVariable_18 rfl 0 rfl ?_
  refine j_gi hJ kR_0 fR_15_83 rfl fl_X12_625 dX12_readVariable_19 (fun v1 ev1 gv1 => ?_)
  have hF := hF v1 ev1 gv1
  refine j_if_le hJ 27 gv1 dX12_readVariable_22 (by decide) (fun z2 => ?_) (fun z2 => ?_)
  · have hF := hF.1 z2
    refine j_iconst hJ dX12_readVariable_27 ?_
    refine j_istore_n (lv' := [(1, .int (Ii (-1))), (0, .ref (ad 0))]) hJ dX12_readVariable_28 rfl (by decide) rfl ?_
    refine j_iconst hJ dX12_readVariable_29 ?_
    refine j_istore_n (lv' := [(2, .int (Ii 0)), (1, .int (Ii (-1))), (0, .ref (ad 0))]) hJ dX12_readVariable_30 rfl (by decide) rfl ?_
    exact j_sub hJ [2, 1, 0] rfl (k_X12_readVariable_b31 hin  hJ  (-1) 0 _ rk_m1 rk_0 hF)
  · have hF := hF.2 z2
    refine j_iconst hJ dX12_readVariable_25 ?_
    exact j_iret hJ rfl rk_0 dX12_readVariable_26 hF
set_option maxHeartbeats 4000000 in
set_option maxRecDepth 100000 in
theorem c_X12_readVariable {l : Launch} {D : va_G} {cy : Nat → ClassId} {ad : Nat → Nat} (hin : jIn ad ksR.length) : jCN l D vwCl (tyR cy) cy ad ftR ksR (XtR ad) yX12_readVariable (.code yX12_readVariable cX12_readVariable 3 (some .int) :: Om) ({ frames := 4, cells := 0, slots := 0, locals := 85 } : Room) 1 (W_X12_readVariable ad) := by
  refine jCN_of (y := yX12_readVariable) (cc := cX12_readVariable) (nL := 3) (rk := 1) (rm := ({ frames := 4, cells := 0, slots := 0, locals := 85 } : Room)) (own := RX12) (tyR_ok cy) hin (XtR_ok ad) Om_good (by decide) rfl ?_
  intro Q av M hF
  obtain ⟨rfl, hF⟩ := hF
  refine ⟨Nat.le_of_ble_eq_true rfl, fun J hJ => ?_⟩
  show J 0 [(0, .ref (ad 0))] [] M
  unfold w_X12_readVariable at hF
  refine j_aload_n hJ dX12_readVariable_0 rfl 0 rfl ?_
  refine j_gi hJ kR_0 fR_15_83 rfl fl_X12_625 dX12_readVariable_1 (fun v1 ev1 gv1 => ?_)
  have hF := hF v1 ev1 gv1
  refine j_if_ne hJ 18 gv1 dX12_readVariable_4 (by decide) (fun z2 => ?_) (fun z2 => ?_)
  · have hF := hF.1 z2
    exact j_sub hJ [0] rfl (k_X12_readVariable_b18 hin  hJ   _  hF)
  · have hF := hF.2 z2
    refine j_aload_n hJ dX12_readVariable_7 rfl 0 rfl ?_
    refine j_callVz hJ (c_X12_isRuleName (l := l) (D := D) (cy := cy) (ad := ad) hin) rfl om_1478 ⟨rfl, rfl, Nat.le_of_ble_eq_true rfl, Nat.le_of_ble_eq_true rfl⟩ [] mv_X12_885 hd_X12_isRuleNamev kR_0 rfl rfl rfl (Nat.le_of_ble_eq_true rfl) dX12_readVariable_8 ⟨rfl, hF⟩ (fun r3 M4 gr3 qM4 => ?_)
    have hF := qM4 gr3
    refine j_if_ne hJ 18 (jz_ri gr3) dX12_readVariable_11 (by decide) (fun z5 => ?_) (fun z5 => ?_)
    · have hF := hF.1 z5
      exact j_sub hJ [0] rfl (k_X12_readVariable_b18 hin  hJ   _  hF)
    · have hF := hF.2 z5
      refine j_aload_n hJ dX12_readVariable_14 rfl 0 rfl ?_
      refine j_callVv hJ (c_X12_wrong (l := l) (D := D) (cy := cy) (ad := ad) hin) rfl om_1363 ⟨rfl, rfl, Nat.le_of_ble_eq_true rfl, Nat.le_of_ble_eq_true rfl⟩ [] mv_X12_664 hd_X12_wrongv kR_0 rfl rfl rfl (Nat.le_of_ble_eq_true rfl) dX12_readVariable_15 ⟨rfl, hF⟩ (fun M7 qM7 => ?_)
      have hF := qM7
      exact j_sub hJ [0] rfl (k_X12_readVariable_b18 hin  hJ   _  hF)
def W_X12_readPlaces (ad : Nat → Nat) (Q : Int → MM → Prop) (av : List Value) (M : MM) : Prop := ∃ (p1 : Int) (p2 : Int) (p3 : Int), av = [.ref (ad 0), .int (Ii p1), .int (Ii p2), .int (Ii p3)] ∧ ri_ p1 ∧ ri_ p2 ∧ (p3 = 0 ∨ p3 = 1) ∧ w_X12_readPlaces  Q p1 p2 p3 M
set_option maxHeartbeats 4000000 in
set_option maxRecDepth 100000 in
theorem k_X12_readPlaces_b144 {l : Launch} {D : va_G} {cy : Nat → ClassId} {ad : Nat → Nat} {Q : Int → MM → Prop} {J : Nat → List (Nat × Value) → List Value → MM → Prop} (hin : jIn ad ksR.length)   (hJ : jOk l D vwCl (tyR cy) cy ad ftR ksR (XtR ad) Om RX12 cX12_readPlaces 5 0 ({ frames := 5, cells := 0, slots := 0, locals := 107 } : Room) Q J)  : ∀ (M : MM), w_X12_readPlaces_b144  Q   M → J 144 [(0, .ref (ad 0))] [] M := by
  intro  M  hF
  unfold w_X12_readPlaces_b144 at hF
  refine j_aload_n hJ dX12_readPlaces_144 rfl 0 rfl ?_
  refine j_ldc2 hJ 41 om_1450 (by decide) dX12_readPlaces_145 ?_
  refine j_callVv hJ (c_X12_needSign (l := l) (D := D) (cy := cy) (ad := ad) hin) rfl om_1428 ⟨rfl, rfl, Nat.le_of_ble_eq_true rfl, Nat.le_of_ble_eq_true rfl⟩ [.long (Ll 41)] mv_X12_748 hd_X12_needSignv kR_0 rfl rfl rfl (Nat.le_of_ble_eq_true rfl) dX12_readPlaces_148 ⟨41, rfl, lk_41, hF⟩ (fun M2 qM2 => ?_)
  have hF := qM2
  exact j_vret hJ rfl dX12_readPlaces_151 hF
set_option maxHeartbeats 4000000 in
set_option maxRecDepth 100000 in
theorem k_X12_readPlaces_b126 {l : Launch} {D : va_G} {cy : Nat → ClassId} {ad : Nat → Nat} {Q : Int → MM → Prop} {J : Nat → List (Nat × Value) → List Value → MM → Prop} (hin : jIn ad ksR.length)   (hJ : jOk l D vwCl (tyR cy) cy ad ftR ksR (XtR ad) Om RX12 cX12_readPlaces 5 0 ({ frames := 5, cells := 0, slots := 0, locals := 107 } : Room) Q J)  : ∀ (M : MM), w_X12_readPlaces_b126  Q   M → J 126 [(0, .ref (ad 0))] [] M := by
  intro  M  hF
  unfold w_X12_readPlaces_b126 at hF
  refine j_aload_n hJ dX12_readPlaces_126 rfl 0 rfl ?_
  refine j_ldc2 hJ 44 om_1486 (by decide) dX12_readPlaces_127 ?_
  refine j_callVz hJ (c_X12_takesSign (l := l) (D := D) (cy := cy) (ad := ad) hin) rfl om_1487 ⟨rfl, rfl, Nat.le_of_ble_eq_true rfl, Nat.le_of_ble_eq_true rfl⟩ [.long (Ll 44)] mv_X12_902 hd_X12_takesSignv kR_0 rfl rfl rfl (Nat.le_of_ble_eq_true rfl) dX12_readPlaces_130 ⟨44, rfl, lk_44, hF⟩ (fun r1 M2 gr1 qM2 => ?_)
  have hF := qM2 gr1
  refine j_if_eq hJ 144 (jz_ri gr1) dX12_readPlaces_133 (by decide) (fun z3 => ?_) (fun z3 => ?_)
  · have hF := hF.1 z3
    exact j_sub hJ [0] rfl (k_X12_readPlaces_b144 hin  hJ   _  hF)
  · have hF := hF.2 z3
    refine j_aload_n hJ dX12_readPlaces_136 rfl 0 rfl ?_
    refine j_aload_n hJ dX12_readPlaces_137 rfl 0 rfl ?_
    refine j_callVi hJ (c_X12_readVariable (l := l) (D := D) (cy := cy) (ad := ad) hin) rfl om_1482 ⟨rfl, rfl, Nat.le_of_ble_eq_true rfl, Nat.le_of_ble_eq_true rfl⟩ [] mv_X12_891 hd_X12_readVariablev kR_0 rfl rfl rfl (Nat.le_of_ble_eq_true rfl) dX12_readPlaces_138 ⟨rfl, hF⟩ (fun r4 M5 gr4 qM5 => ?_)
    have hF := qM5 gr4
    refine j_pi hJ gr4 kR_0 fR_15_137 rfl fp_X12_897 dX12_readPlaces_141 (fun M6 eM6 => ?_)
    have hF := hF M6 eM6
    exact j_sub hJ [0] rfl (k_X12_readPlaces_b144 hin  hJ   _  hF)
set_option maxHeartbeats 4000000 in
set_option maxRecDepth 100000 in
theorem k_X12_readPlaces_b117 {l : Launch} {D : va_G} {cy : Nat → ClassId} {ad : Nat → Nat} {Q : Int → MM → Prop} {J : Nat → List (Nat × Value) → List Value → MM → Prop} (hin : jIn ad ksR.length)   (hJ : jOk l D vwCl (tyR cy) cy ad ftR ksR (XtR ad) Om RX12 cX12_readPlaces 5 0 ({ frames := 5, cells := 0, slots := 0, locals := 107 } : Room) Q J)  : ∀ (x2 s0 s1 : Int) (M : MM), ri_ x2 → ri_ s0 → ri_ s1 → w_X12_readPlaces_b117  Q  x2 s0 s1 M → J 117 [(0, .ref (ad 0)), (2, .int (Ii x2))] [.int (Ii s0), .int (Ii s1)] M := by
  intro x2 s0 s1 M gx2 gs0 gs1 hF
  unfold w_X12_readPlaces_b117 at hF
  refine j_icmp_eq hJ 126 gs1 gs0 dX12_readPlaces_117 (by decide) (fun z1 => ?_) (fun z1 => ?_)
  · have hF := hF.1 z1
    exact j_sub hJ [0] rfl (k_X12_readPlaces_b126 hin  hJ   _  hF)
  · have hF := hF.2 z1
    refine j_aload_n hJ dX12_readPlaces_120 rfl 0 rfl ?_
    refine j_iconst hJ dX12_readPlaces_121 ?_
    refine j_iload_n hJ dX12_readPlaces_122 rfl 1 rfl ?_
    refine j_callVv hJ (c_X12_fail (l := l) (D := D) (cy := cy) (ad := ad) hin) rfl om_1351 ⟨rfl, rfl, Nat.le_of_ble_eq_true rfl, Nat.le_of_ble_eq_true rfl⟩ [.int (Ii 3), .int (Ii x2)] mv_X12_653 hd_X12_failv kR_0 rfl rfl rfl (Nat.le_of_ble_eq_true rfl) dX12_readPlaces_123 ⟨3, x2, rfl, rk_3, gx2, hF⟩ (fun M3 qM3 => ?_)
    have hF := qM3
    exact j_sub hJ [0] rfl (k_X12_readPlaces_b126 hin  hJ   _  hF)
set_option maxHeartbeats 4000000 in
set_option maxRecDepth 100000 in
theorem k_X12_readPlaces_b96 {l : Launch} {D : va_G} {cy : Nat → ClassId} {ad : Nat → Nat} {Q : Int → MM → Prop} {J : Nat → List (Nat × Value) → List Value → MM → Prop} (hin : jIn ad ksR.length)   (hJ : jOk l D vwCl (tyR cy) cy ad ftR ksR (XtR ad) Om RX12 cX12_readPlaces 5 0 ({ frames := 5, cells := 0, slots := 0, locals := 107 } : Room) Q J)  : ∀ (x1 x2 x4 : Int) (M : MM), ri_ x1 → ri_ x2 → ri_ x4 → w_X12_readPlaces_b96  Q  x1 x2 x4 M → J 96 [(0, .ref (ad 0)), (1, .int (Ii x1)), (2, .int (Ii x2)), (4, .int (Ii x4))] [] M := by
  intro x1 x2 x4 M gx1 gx2 gx4 hF
  unfold w_X12_readPlaces_b96 at hF
  refine j_iload_n hJ dX12_readPlaces_96 rfl 1 rfl ?_
  refine j_iconst hJ dX12_readPlaces_97 ?_
  refine j_icmp_eq hJ 126 gx1 rk_m1 dX12_readPlaces_98 (by decide) (fun z1 => ?_) (fun z1 => ?_)
  · have hF := hF.1 z1
    exact j_sub hJ [0] rfl (k_X12_readPlaces_b126 hin  hJ   _  hF)
  · have hF := hF.2 z1
    refine j_aload_n hJ dX12_readPlaces_101 rfl 0 rfl ?_
    refine j_gr (e := 83) hJ kR_0 fR_15_118 fl_X12_324 dX12_readPlaces_102 rfl ?_
    refine j_iload_n hJ dX12_readPlaces_105 rfl 1 rfl ?_
    refine j_iald hJ gx1 kR_83 hF.1 hF.2.1 dX12_readPlaces_106 (fun v2 ev2 gv2 => ?_)
    have hF := hF.2.2 v2 ev2 gv2
    refine j_iload hJ dX12_readPlaces_107 3 rfl ?_
    refine j_if_eq hJ 116 gx4 dX12_readPlaces_109 (by decide) (fun z3 => ?_) (fun z3 => ?_)
    · have hF := hF.1 z3
      refine j_iconst hJ dX12_readPlaces_116 ?_
      exact j_sub hJ [0, 2] rfl (k_X12_readPlaces_b117 hin  hJ  x2 1 v2 _ gx2 rk_1 gv2 hF)
    · have hF := hF.2 z3
      refine j_iconst hJ dX12_readPlaces_112 ?_
      refine j_goto hJ 117 dX12_readPlaces_113 (by decide) ?_
      exact j_sub hJ [0, 2] rfl (k_X12_readPlaces_b117 hin  hJ  x2 2 v2 _ gx2 rk_2 gv2 hF)
set_option maxHeartbeats 4000000 in
set_option maxRecDepth 100000 in
theorem k_X12_readPlaces_b95 {l : Launch} {D : va_G} {cy : Nat → ClassId} {ad : Nat → Nat} {Q : Int → MM → Prop} {J : Nat → List (Nat × Value) → List Value → MM → Prop} (hin : jIn ad ksR.length)   (hJ : jOk l D vwCl (tyR cy) cy ad ftR ksR (XtR ad) Om RX12 cX12_readPlaces 5 0 ({ frames := 5, cells := 0, slots := 0, locals := 107 } : Room) Q J)  : ∀ (x1 x2 x4 s0 s1 : Int) (M : MM), ri_ x1 → ri_ x2 → ri_ x4 → ri_ s0 → ri_ s1 → w_X12_readPlaces_b95  Q  x1 x2 x4 s0 s1 M → J 95 [(0, .ref (ad 0)), (1, .int (Ii x1)), (2, .int (Ii x2)), (4, .int (Ii x4))] [.int (Ii s0), .int (Ii s1), .ref (ad 83)] M := by
  intro x1 x2 x4 s0 s1 M gx1 gx2 gx4 gs0 gs1 hF
  unfold w_X12_readPlaces_b95 at hF
  refine j_iast hJ gs1 gs0 kR_83 hF.1 hF.2.1 dX12_readPlaces_95 (fun M1 eM1 => ?_)
  have hF := hF.2.2 M1 eM1
  exact j_sub hJ [0, 1, 2, 3] rfl (k_X12_readPlaces_b96 hin  hJ  x1 x2 x4 _ gx1 gx2 gx4 hF)
set_option maxHeartbeats 4000000 in
set_option maxRecDepth 100000 in
theorem k_X12_readPlaces_b66 {l : Launch} {D : va_G} {cy : Nat → ClassId} {ad : Nat → Nat} {Q : Int → MM → Prop} {J : Nat → List (Nat × Value) → List Value → MM → Prop} (hin : jIn ad ksR.length)   (hJ : jOk l D vwCl (tyR cy) cy ad ftR ksR (XtR ad) Om RX12 cX12_readPlaces 5 0 ({ frames := 5, cells := 0, slots := 0, locals := 107 } : Room) Q J)  : ∀ (x1 x2 x4 : Int) (M : MM), ri_ x1 → ri_ x2 → ri_ x4 → w_X12_readPlaces_b66  Q  x1 x2 x4 M → J 66 [(0, .ref (ad 0)), (1, .int (Ii x1)), (2, .int (Ii x2)), (4, .int (Ii x4))] [] M := by
  intro x1 x2 x4 M gx1 gx2 gx4 hF
  unfold w_X12_readPlaces_b66 at hF
  refine j_iload_n hJ dX12_readPlaces_66 rfl 1 rfl ?_
  refine j_iconst hJ dX12_readPlaces_67 ?_
  refine j_icmp_eq hJ 96 gx1 rk_m1 dX12_readPlaces_68 (by decide) (fun z1 => ?_) (fun z1 => ?_)
  · have hF := hF.1 z1
    exact j_sub hJ [0, 1, 2, 3] rfl (k_X12_readPlaces_b96 hin  hJ  x1 x2 x4 _ gx1 gx2 gx4 hF)
  · have hF := hF.2 z1
    refine j_aload_n hJ dX12_readPlaces_71 rfl 0 rfl ?_
    refine j_gr (e := 83) hJ kR_0 fR_15_118 fl_X12_324 dX12_readPlaces_72 rfl ?_
    refine j_iload_n hJ dX12_readPlaces_75 rfl 1 rfl ?_
    refine j_iald hJ gx1 kR_83 hF.1 hF.2.1 dX12_readPlaces_76 (fun v2 ev2 gv2 => ?_)
    have hF := hF.2.2 v2 ev2 gv2
    refine j_if_ne hJ 96 gv2 dX12_readPlaces_77 (by decide) (fun z3 => ?_) (fun z3 => ?_)
    · have hF := hF.1 z3
      exact j_sub hJ [0, 1, 2, 3] rfl (k_X12_readPlaces_b96 hin  hJ  x1 x2 x4 _ gx1 gx2 gx4 hF)
    · have hF := hF.2 z3
      refine j_aload_n hJ dX12_readPlaces_80 rfl 0 rfl ?_
      refine j_gr (e := 83) hJ kR_0 fR_15_118 fl_X12_324 dX12_readPlaces_81 rfl ?_
      refine j_iload_n hJ dX12_readPlaces_84 rfl 1 rfl ?_
      refine j_iload hJ dX12_readPlaces_85 3 rfl ?_
      refine j_if_eq hJ 94 gx4 dX12_readPlaces_87 (by decide) (fun z4 => ?_) (fun z4 => ?_)
      · have hF := hF.1 z4
        refine j_iconst hJ dX12_readPlaces_94 ?_
        exact j_sub hJ [0, 1, 2, 3] rfl (k_X12_readPlaces_b95 hin  hJ  x1 x2 x4 1 x1 _ gx1 gx2 gx4 rk_1 gx1 hF)
      · have hF := hF.2 z4
        refine j_iconst hJ dX12_readPlaces_90 ?_
        refine j_goto hJ 95 dX12_readPlaces_91 (by decide) ?_
        exact j_sub hJ [0, 1, 2, 3] rfl (k_X12_readPlaces_b95 hin  hJ  x1 x2 x4 2 x1 _ gx1 gx2 gx4 rk_2 gx1 hF)
set_option maxHeartbeats 4000000 in
set_option maxRecDepth 100000 in
theorem k_X12_readPlaces_b61 {l : Launch} {D : va_G} {cy : Nat → ClassId} {ad : Nat → Nat} {Q : Int → MM → Prop} {J : Nat → List (Nat × Value) → List Value → MM → Prop} (hin : jIn ad ksR.length)   (hJ : jOk l D vwCl (tyR cy) cy ad ftR ksR (XtR ad) Om RX12 cX12_readPlaces 5 0 ({ frames := 5, cells := 0, slots := 0, locals := 107 } : Room) Q J)  : ∀ (M : MM), w_X12_readPlaces_b61  Q   M → J 61 [(0, .ref (ad 0))] [] M := by
  intro  M  hF
  unfold w_X12_readPlaces_b61 at hF
  refine j_aload_n hJ dX12_readPlaces_61 rfl 0 rfl ?_
  refine j_callVv hJ (c_X12_wrong (l := l) (D := D) (cy := cy) (ad := ad) hin) rfl om_1363 ⟨rfl, rfl, Nat.le_of_ble_eq_true rfl, Nat.le_of_ble_eq_true rfl⟩ [] mv_X12_664 hd_X12_wrongv kR_0 rfl rfl rfl (Nat.le_of_ble_eq_true rfl) dX12_readPlaces_62 ⟨rfl, hF⟩ (fun M2 qM2 => ?_)
  have hF := qM2
  exact j_vret hJ rfl dX12_readPlaces_65 hF
set_option maxHeartbeats 4000000 in
set_option maxRecDepth 100000 in
theorem k_X12_readPlaces_b46 {l : Launch} {D : va_G} {cy : Nat → ClassId} {ad : Nat → Nat} {Q : Int → MM → Prop} {J : Nat → List (Nat × Value) → List Value → MM → Prop} (hin : jIn ad ksR.length)   (hJ : jOk l D vwCl (tyR cy) cy ad ftR ksR (XtR ad) Om RX12 cX12_readPlaces 5 0 ({ frames := 5, cells := 0, slots := 0, locals := 107 } : Room) Q J)  : ∀ (x1 x2 x4 : Int) (M : MM), ri_ x1 → ri_ x2 → ri_ x4 → w_X12_readPlaces_b46  Q  x1 x2 x4 M → J 46 [(0, .ref (ad 0)), (1, .int (Ii x1)), (2, .int (Ii x2)), (4, .int (Ii x4))] [] M := by
  intro x1 x2 x4 M gx1 gx2 gx4 hF
  unfold w_X12_readPlaces_b46 at hF
  refine j_iload hJ dX12_readPlaces_46 3 rfl ?_
  refine j_if_ne hJ 66 gx4 dX12_readPlaces_48 (by decide) (fun z1 => ?_) (fun z1 => ?_)
  · have hF := hF.1 z1
    exact j_sub hJ [0, 1, 2, 3] rfl (k_X12_readPlaces_b66 hin  hJ  x1 x2 x4 _ gx1 gx2 gx4 hF)
  · have hF := hF.2 z1
    refine j_aload_n hJ dX12_readPlaces_51 rfl 0 rfl ?_
    refine j_ldc2 hJ 41 om_1450 (by decide) dX12_readPlaces_52 ?_
    refine j_callVz hJ (c_X12_isSign (l := l) (D := D) (cy := cy) (ad := ad) hin) rfl om_1359 ⟨rfl, rfl, Nat.le_of_ble_eq_true rfl, Nat.le_of_ble_eq_true rfl⟩ [.long (Ll 41)] mv_X12_657 hd_X12_isSignv kR_0 rfl rfl rfl (Nat.le_of_ble_eq_true rfl) dX12_readPlaces_55 ⟨41, rfl, lk_41, hF⟩ (fun r2 M3 gr2 qM3 => ?_)
    have hF := qM3 gr2
    refine j_if_ne hJ 66 (jz_ri gr2) dX12_readPlaces_58 (by decide) (fun z4 => ?_) (fun z4 => ?_)
    · have hF := hF.1 z4
      exact j_sub hJ [0, 1, 2, 3] rfl (k_X12_readPlaces_b66 hin  hJ  x1 x2 x4 _ gx1 gx2 gx4 hF)
    · have hF := hF.2 z4
      exact j_sub hJ [0] rfl (k_X12_readPlaces_b61 hin  hJ   _  hF)
set_option maxHeartbeats 4000000 in
set_option maxRecDepth 100000 in
theorem c_X12_readPlaces {l : Launch} {D : va_G} {cy : Nat → ClassId} {ad : Nat → Nat} (hin : jIn ad ksR.length) : jCN l D vwCl (tyR cy) cy ad ftR ksR (XtR ad) yX12_readPlaces (.code yX12_readPlaces cX12_readPlaces 5 none :: Om) ({ frames := 5, cells := 0, slots := 0, locals := 107 } : Room) 0 (W_X12_readPlaces ad) := by
  refine jCN_of (y := yX12_readPlaces) (cc := cX12_readPlaces) (nL := 5) (rk := 0) (rm := ({ frames := 5, cells := 0, slots := 0, locals := 107 } : Room)) (own := RX12) (tyR_ok cy) hin (XtR_ok ad) Om_good (by decide) rfl ?_
  intro Q av M hF
  obtain ⟨p1, p2, p3, rfl, gp1, gp2, gp3, hF⟩ := hF
  refine ⟨Nat.le_of_ble_eq_true rfl, fun J hJ => ?_⟩
  show J 0 [(0, .ref (ad 0)), (1, .int (Ii p1)), (2, .int (Ii p2)), (3, .int (Ii p3))] [] M
  unfold w_X12_readPlaces at hF
  refine j_aload_n hJ dX12_readPlaces_0 rfl 0 rfl ?_
  refine j_ldc2 hJ 40 om_1445 (by decide) dX12_readPlaces_1 ?_
  refine j_callVv hJ (c_X12_needSign (l := l) (D := D) (cy := cy) (ad := ad) hin) rfl om_1428 ⟨rfl, rfl, Nat.le_of_ble_eq_true rfl, Nat.le_of_ble_eq_true rfl⟩ [.long (Ll 40)] mv_X12_748 hd_X12_needSignv kR_0 rfl rfl rfl (Nat.le_of_ble_eq_true rfl) dX12_readPlaces_4 ⟨40, rfl, lk_40, hF⟩ (fun M2 qM2 => ?_)
  have hF := qM2
  refine j_aload_n hJ dX12_readPlaces_7 rfl 0 rfl ?_
  refine j_aload_n hJ dX12_readPlaces_8 rfl 0 rfl ?_
  refine j_callVi hJ (c_X12_readVariable (l := l) (D := D) (cy := cy) (ad := ad) hin) rfl om_1482 ⟨rfl, rfl, Nat.le_of_ble_eq_true rfl, Nat.le_of_ble_eq_true rfl⟩ [] mv_X12_891 hd_X12_readVariablev kR_0 rfl rfl rfl (Nat.le_of_ble_eq_true rfl) dX12_readPlaces_9 ⟨rfl, hF⟩ (fun r3 M4 gr3 qM4 => ?_)
  have hF := qM4 gr3
  refine j_pi hJ gr3 kR_0 fR_15_136 rfl fp_X12_894 dX12_readPlaces_12 (fun M5 eM5 => ?_)
  have hF := hF M5 eM5
  refine j_aload_n hJ dX12_readPlaces_15 rfl 0 rfl ?_
  refine j_iconst hJ dX12_readPlaces_16 ?_
  refine j_pi hJ rk_m1 kR_0 fR_15_137 rfl fp_X12_897 dX12_readPlaces_17 (fun M6 eM6 => ?_)
  have hF := hF M6 eM6
  refine j_aload_n hJ dX12_readPlaces_20 rfl 0 rfl ?_
  refine j_gi hJ kR_0 fR_15_83 rfl fl_X12_625 dX12_readPlaces_21 (fun v7 ev7 gv7 => ?_)
  have hF := hF v7 ev7 gv7
  refine j_if_le hJ 28 gv7 dX12_readPlaces_24 (by decide) (fun z8 => ?_) (fun z8 => ?_)
  · have hF := hF.1 z8
    refine j_aload_n hJ dX12_readPlaces_28 rfl 0 rfl ?_
    refine j_ldc2 hJ 44 om_1486 (by decide) dX12_readPlaces_29 ?_
    refine j_callVz hJ (c_X12_isSign (l := l) (D := D) (cy := cy) (ad := ad) hin) rfl om_1359 ⟨rfl, rfl, Nat.le_of_ble_eq_true rfl, Nat.le_of_ble_eq_true rfl⟩ [.long (Ll 44)] mv_X12_657 hd_X12_isSignv kR_0 rfl rfl rfl (Nat.le_of_ble_eq_true rfl) dX12_readPlaces_32 ⟨44, rfl, lk_44, hF⟩ (fun r9 M10 gr9 qM10 => ?_)
    have hF := qM10 gr9
    refine j_istore (lv' := [(4, .int (Ii r9)), (0, .ref (ad 0)), (1, .int (Ii p1)), (2, .int (Ii p2)), (3, .int (Ii p3))]) hJ dX12_readPlaces_35 (by decide) rfl ?_
    refine j_iload_n hJ dX12_readPlaces_37 rfl 4 rfl ?_
    refine j_if_eq hJ 46 (jz_ri gp3) dX12_readPlaces_38 (by decide) (fun z11 => ?_) (fun z11 => ?_)
    · have hF := hF.1 z11
      exact j_sub hJ [1, 2, 3, 0] rfl (k_X12_readPlaces_b46 hin  hJ  p1 p2 r9 _ gp1 gp2 (jz_ri gr9) hF)
    · have hF := hF.2 z11
      refine j_iload hJ dX12_readPlaces_41 0 rfl ?_
      refine j_if_eq hJ 61 (jz_ri gr9) dX12_readPlaces_43 (by decide) (fun z12 => ?_) (fun z12 => ?_)
      · have hF := hF.1 z12
        exact j_sub hJ [1] rfl (k_X12_readPlaces_b61 hin  hJ   _  hF)
      · have hF := hF.2 z12
        exact j_sub hJ [1, 2, 3, 0] rfl (k_X12_readPlaces_b46 hin  hJ  p1 p2 r9 _ gp1 gp2 (jz_ri gr9) hF)
  · have hF := hF.2 z8
    exact j_vret hJ rfl dX12_readPlaces_27 hF
def W_X12_relationAtHand (ad : Nat → Nat) (Q : Int → MM → Prop) (av : List Value) (M : MM) : Prop := av = [.ref (ad 0)] ∧ w_X12_relationAtHand  Q  M
set_option maxHeartbeats 4000000 in
set_option maxRecDepth 100000 in
theorem k_X12_relationAtHand_b63 {l : Launch} {D : va_G} {cy : Nat → ClassId} {ad : Nat → Nat} {Q : Int → MM → Prop} {J : Nat → List (Nat × Value) → List Value → MM → Prop} (hin : jIn ad ksR.length)   (hJ : jOk l D vwCl (tyR cy) cy ad ftR ksR (XtR ad) Om RX12 cX12_relationAtHand 3 1 ({ frames := 1, cells := 0, slots := 0, locals := 22 } : Room) Q J)  : ∀ (M : MM), w_X12_relationAtHand_b63  Q   M → J 63 [(0, .ref (ad 0))] [] M := by
  intro  M  hF
  unfold w_X12_relationAtHand_b63 at hF
  refine j_aload_n hJ dX12_relationAtHand_63 rfl 0 rfl ?_
  refine j_gi hJ kR_0 fR_15_83 rfl fl_X12_625 dX12_relationAtHand_64 (fun v1 ev1 gv1 => ?_)
  have hF := hF v1 ev1 gv1
  refine j_if_le hJ 72 gv1 dX12_relationAtHand_67 (by decide) (fun z2 => ?_) (fun z2 => ?_)
  · have hF := hF.1 z2
    refine j_aload_n hJ dX12_relationAtHand_72 rfl 0 rfl ?_
    refine j_gr (e := 80) hJ kR_0 fR_15_115 fl_X12_315 dX12_relationAtHand_73 rfl ?_
    refine j_aload_n hJ dX12_relationAtHand_76 rfl 0 rfl ?_
    refine j_gi hJ kR_0 fR_15_133 rfl fl_X12_905 dX12_relationAtHand_77 (fun v3 ev3 gv3 => ?_)
    have hF := hF v3 ev3 gv3
    refine j_aload_n hJ dX12_relationAtHand_80 rfl 0 rfl ?_
    refine j_gl hJ kR_0 fR_15_85 rfl fl_X12_640 dX12_relationAtHand_81 (fun v4 ev4 gv4 => ?_)
    have hF := hF v4 ev4 gv4
    refine j_last hJ gv3 gv4 kR_80 hF.1 hF.2.1 dX12_relationAtHand_84 (fun M5 eM5 => ?_)
    have hF := hF.2.2 M5 eM5
    refine j_aload_n hJ dX12_relationAtHand_85 rfl 0 rfl ?_
    refine j_gr (e := 83) hJ kR_0 fR_15_118 fl_X12_324 dX12_relationAtHand_86 rfl ?_
    refine j_aload_n hJ dX12_relationAtHand_89 rfl 0 rfl ?_
    refine j_gi hJ kR_0 fR_15_133 rfl fl_X12_905 dX12_relationAtHand_90 (fun v6 ev6 gv6 => ?_)
    have hF := hF v6 ev6 gv6
    refine j_iconst hJ dX12_relationAtHand_93 ?_
    refine j_iast hJ gv6 rk_0 kR_83 hF.1 hF.2.1 dX12_relationAtHand_94 (fun M7 eM7 => ?_)
    have hF := hF.2.2 M7 eM7
    refine j_aload_n hJ dX12_relationAtHand_95 rfl 0 rfl ?_
    refine j_dup hJ dX12_relationAtHand_96 rfl ?_
    refine j_gi hJ kR_0 fR_15_133 rfl fl_X12_905 dX12_relationAtHand_97 (fun v8 ev8 gv8 => ?_)
    have hF := hF v8 ev8 gv8
    refine j_iconst hJ dX12_relationAtHand_100 ?_
    refine j_iadd hJ dX12_relationAtHand_101 ?_
    have g9 := hF.1; have hF := hF.2
    refine j_pi hJ g9 kR_0 fR_15_133 rfl fp_X12_905 dX12_relationAtHand_102 (fun M10 eM10 => ?_)
    have hF := hF M10 eM10
    refine j_aload_n hJ dX12_relationAtHand_105 rfl 0 rfl ?_
    refine j_gi hJ kR_0 fR_15_133 rfl fl_X12_905 dX12_relationAtHand_106 (fun v11 ev11 gv11 => ?_)
    have hF := hF v11 ev11 gv11
    refine j_iconst hJ dX12_relationAtHand_109 ?_
    refine j_isub hJ dX12_relationAtHand_110 ?_
    have g12 := hF.1; have hF := hF.2
    exact j_iret hJ rfl g12 dX12_relationAtHand_111 hF
  · have hF := hF.2 z2
    refine j_iconst hJ dX12_relationAtHand_70 ?_
    exact j_iret hJ rfl rk_0 dX12_relationAtHand_71 hF
set_option maxHeartbeats 4000000 in
set_option maxRecDepth 100000 in
theorem k_X12_relationAtHand_b31 {l : Launch} {D : va_G} {cy : Nat → ClassId} {ad : Nat → Nat} {Q : Int → MM → Prop} {J : Nat → List (Nat × Value) → List Value → MM → Prop} (hin : jIn ad ksR.length)   (hJ : jOk l D vwCl (tyR cy) cy ad ftR ksR (XtR ad) Om RX12 cX12_relationAtHand 3 1 ({ frames := 1, cells := 0, slots := 0, locals := 22 } : Room) Q J) {K4 : Int → Int → MM → Prop} (hK4 : ∀ (x1 x2 : Int) (M : MM), ri_ x1 → ri_ x2 → K4 x1 x2 M → J 4 [(0, .ref (ad 0)), (1, .int (Ii x1)), (2, .int (Ii x2))] [] M) : ∀ (x2 s0 : Int) (M : MM), ri_ x2 → ri_ s0 → w_X12_relationAtHand_b31  Q K4 x2 s0 M → J 31 [(0, .ref (ad 0)), (2, .int (Ii x2))] [.int (Ii s0)] M := by
  intro x2 s0 M gx2 gs0 hF
  unfold w_X12_relationAtHand_b31 at hF
  refine j_istore_n (lv' := [(1, .int (Ii s0)), (0, .ref (ad 0)), (2, .int (Ii x2))]) hJ dX12_relationAtHand_31 rfl (by decide) rfl ?_
  refine j_iinc (lv' := [(2, .int (Ii (x2 + 1))), (1, .int (Ii s0)), (0, .ref (ad 0))]) (k := 2) hJ dX12_relationAtHand_32 rfl (by decide) rfl ?_
  have g1 := hF.1; have hF := hF.2
  refine j_goto hJ 4 dX12_relationAtHand_35 (by decide) ?_
  exact j_sub hJ [2, 1, 0] rfl (hK4 s0 (x2 + 1) _ gs0 g1 hF)
set_option maxHeartbeats 4000000 in
set_option maxRecDepth 100000 in
theorem k_X12_relationAtHand_b4 {l : Launch} {D : va_G} {cy : Nat → ClassId} {ad : Nat → Nat} {Q : Int → MM → Prop} {J : Nat → List (Nat × Value) → List Value → MM → Prop} (hin : jIn ad ksR.length)   (hJ : jOk l D vwCl (tyR cy) cy ad ftR ksR (XtR ad) Om RX12 cX12_relationAtHand 3 1 ({ frames := 1, cells := 0, slots := 0, locals := 22 } : Room) Q J)  : ∀ (x1 x2 : Int) (M : MM), ri_ x1 → ri_ x2 → w_X12_relationAtHand_b4  Q  x1 x2 M → J 4 [(0, .ref (ad 0)), (1, .int (Ii x1)), (2, .int (Ii x2))] [] M := by
  have H9 : ∀ (n : Nat) (x1 x2 : Int) (M : MM), ri_ x1 → ri_ x2 → jit (fun _ _ _ => False) (wb_X12_relationAtHand_b4  Q ) n x1 x2 M → J 4 [(0, .ref (ad 0)), (1, .int (Ii x1)), (2, .int (Ii x2))] [] M := by
    intro n
    induction n with
    | zero => intro x1 x2 M gx1 gx2 hF; exact False.elim hF
    | succ n ih =>
    intro x1 x2 M gx1 gx2 hF
    have hF : wb_X12_relationAtHand_b4  Q  (jit (fun _ _ _ => False) (wb_X12_relationAtHand_b4  Q ) n) x1 x2 M := hF
    unfold wb_X12_relationAtHand_b4 at hF
    refine j_iload_n hJ dX12_relationAtHand_4 rfl 2 rfl ?_
    refine j_aload_n hJ dX12_relationAtHand_5 rfl 0 rfl ?_
    refine j_gi hJ kR_0 fR_15_133 rfl fl_X12_905 dX12_relationAtHand_6 (fun v1 ev1 gv1 => ?_)
    have hF := hF v1 ev1 gv1
    refine j_icmp_ge hJ 38 gx2 gv1 dX12_relationAtHand_9 (by decide) (fun z2 => ?_) (fun z2 => ?_)
    · have hF := hF.1 z2
      refine j_iload_n hJ dX12_relationAtHand_38 rfl 1 rfl ?_
      refine j_iconst hJ dX12_relationAtHand_39 ?_
      refine j_icmp_eq hJ 45 gx1 rk_m1 dX12_relationAtHand_40 (by decide) (fun z3 => ?_) (fun z3 => ?_)
      · have hF := hF.1 z3
        refine j_aload_n hJ dX12_relationAtHand_45 rfl 0 rfl ?_
        refine j_gi hJ kR_0 fR_15_133 rfl fl_X12_905 dX12_relationAtHand_46 (fun v4 ev4 gv4 => ?_)
        have hF := hF v4 ev4 gv4
        refine j_bipush hJ dX12_relationAtHand_49 (by decide) ?_
        refine j_icmp_ne hJ 63 gv4 rk_6 dX12_relationAtHand_51 (by decide) (fun z5 => ?_) (fun z5 => ?_)
        · have hF := hF.1 z5
          exact j_sub hJ [0] rfl (k_X12_relationAtHand_b63 hin  hJ   _  hF)
        · have hF := hF.2 z5
          refine j_aload_n hJ dX12_relationAtHand_54 rfl 0 rfl ?_
          refine j_iconst hJ dX12_relationAtHand_55 ?_
          refine j_aload_n hJ dX12_relationAtHand_56 rfl 0 rfl ?_
          refine j_gi hJ kR_0 fR_15_79 rfl fl_X12_637 dX12_relationAtHand_57 (fun v6 ev6 gv6 => ?_)
          have hF := hF v6 ev6 gv6
          refine j_callVv hJ (c_X12_fail (l := l) (D := D) (cy := cy) (ad := ad) hin) rfl om_1351 ⟨rfl, rfl, Nat.le_of_ble_eq_true rfl, Nat.le_of_ble_eq_true rfl⟩ [.int (Ii 4), .int (Ii v6)] mv_X12_653 hd_X12_failv kR_0 rfl rfl rfl (Nat.le_of_ble_eq_true rfl) dX12_relationAtHand_60 ⟨4, v6, rfl, rk_4, gv6, hF⟩ (fun M8 qM8 => ?_)
          have hF := qM8
          exact j_sub hJ [0] rfl (k_X12_relationAtHand_b63 hin  hJ   _  hF)
      · have hF := hF.2 z3
        refine j_iload_n hJ dX12_relationAtHand_43 rfl 1 rfl ?_
        exact j_iret hJ rfl gx1 dX12_relationAtHand_44 hF
    · have hF := hF.2 z2
      refine j_aload_n hJ dX12_relationAtHand_12 rfl 0 rfl ?_
      refine j_gr (e := 80) hJ kR_0 fR_15_115 fl_X12_315 dX12_relationAtHand_13 rfl ?_
      refine j_iload_n hJ dX12_relationAtHand_16 rfl 2 rfl ?_
      refine j_lald hJ gx2 kR_80 hF.1 hF.2.1 dX12_relationAtHand_17 (fun v9 ev9 gv9 => ?_)
      have hF := hF.2.2 v9 ev9 gv9
      refine j_aload_n hJ dX12_relationAtHand_18 rfl 0 rfl ?_
      refine j_gl hJ kR_0 fR_15_85 rfl fl_X12_640 dX12_relationAtHand_19 (fun v10 ev10 gv10 => ?_)
      have hF := hF v10 ev10 gv10
      refine j_lcmp_ne hJ 30 gv9 gv10 dX12_relationAtHand_22 dX12_relationAtHand_23 (by decide) (fun z11 => ?_) (fun z11 => ?_)
      · have hF := hF.1 z11
        refine j_iload_n hJ dX12_relationAtHand_30 rfl 1 rfl ?_
        exact j_sub hJ [0, 2] rfl (k_X12_relationAtHand_b31 hin  hJ ih x2 x1 _ gx2 gx1 hF)
      · have hF := hF.2 z11
        refine j_iload_n hJ dX12_relationAtHand_26 rfl 2 rfl ?_
        refine j_goto hJ 31 dX12_relationAtHand_27 (by decide) ?_
        exact j_sub hJ [0, 2] rfl (k_X12_relationAtHand_b31 hin  hJ ih x2 x2 _ gx2 gx2 hF)
  intro x1 x2 M gx1 gx2 hF
  obtain ⟨n, hF⟩ := hF
  exact H9 n x1 x2 M gx1 gx2 hF
set_option maxHeartbeats 4000000 in
set_option maxRecDepth 100000 in
theorem c_X12_relationAtHand {l : Launch} {D : va_G} {cy : Nat → ClassId} {ad : Nat → Nat} (hin : jIn ad ksR.length) : jCN l D vwCl (tyR cy) cy ad ftR ksR (XtR ad) yX12_relationAtHand (.code yX12_relationAtHand cX12_relationAtHand 3 (some .int) :: Om) ({ frames := 1, cells := 0, slots := 0, locals := 22 } : Room) 1 (W_X12_relationAtHand ad) := by
  refine jCN_of (y := yX12_relationAtHand) (cc := cX12_relationAtHand) (nL := 3) (rk := 1) (rm := ({ frames := 1, cells := 0, slots := 0, locals := 22 } : Room)) (own := RX12) (tyR_ok cy) hin (XtR_ok ad) Om_good (by decide) rfl ?_
  intro Q av M hF
  obtain ⟨rfl, hF⟩ := hF
  refine ⟨Nat.le_of_ble_eq_true rfl, fun J hJ => ?_⟩
  show J 0 [(0, .ref (ad 0))] [] M
  unfold w_X12_relationAtHand at hF
  refine j_iconst hJ dX12_relationAtHand_0 ?_
  refine j_istore_n (lv' := [(1, .int (Ii (-1))), (0, .ref (ad 0))]) hJ dX12_relationAtHand_1 rfl (by decide) rfl ?_
  refine j_iconst hJ dX12_relationAtHand_2 ?_
  refine j_istore_n (lv' := [(2, .int (Ii 0)), (1, .int (Ii (-1))), (0, .ref (ad 0))]) hJ dX12_relationAtHand_3 rfl (by decide) rfl ?_
  exact j_sub hJ [2, 1, 0] rfl (k_X12_relationAtHand_b4 hin  hJ  (-1) 0 _ rk_m1 rk_0 hF)
def W_X12_isHeld (ad : Nat → Nat) (Q : Int → MM → Prop) (av : List Value) (M : MM) : Prop := ∃ (p1 : Int) (p2 : Int), av = [.ref (ad 0), .int (Ii p1), .int (Ii p2)] ∧ ri_ p1 ∧ ri_ p2 ∧ w_X12_isHeld  Q p1 p2 M
set_option maxHeartbeats 4000000 in
set_option maxRecDepth 100000 in
theorem k_X12_isHeld_b70 {l : Launch} {D : va_G} {cy : Nat → ClassId} {ad : Nat → Nat} {Q : Int → MM → Prop} {J : Nat → List (Nat × Value) → List Value → MM → Prop} (hin : jIn ad ksR.length)   (hJ : jOk l D vwCl (tyR cy) cy ad ftR ksR (XtR ad) Om RX12 cX12_isHeld 5 3 ({ frames := 0, cells := 0, slots := 0, locals := 0 } : Room) Q J) {K5 : Int → Int → Int → Int → MM → Prop} (hK5 : ∀ (x1 x2 x3 x4 : Int) (M : MM), ri_ x1 → ri_ x2 → ri_ x3 → ri_ x4 → K5 x1 x2 x3 x4 M → J 5 [(0, .ref (ad 0)), (1, .int (Ii x1)), (2, .int (Ii x2)), (3, .int (Ii x3)), (4, .int (Ii x4))] [] M) : ∀ (x1 x2 x4 s0 : Int) (M : MM), ri_ x1 → ri_ x2 → ri_ x4 → ri_ s0 → w_X12_isHeld_b70  Q K5 x1 x2 x4 s0 M → J 70 [(0, .ref (ad 0)), (1, .int (Ii x1)), (2, .int (Ii x2)), (4, .int (Ii x4))] [.int (Ii s0)] M := by
  intro x1 x2 x4 s0 M gx1 gx2 gx4 gs0 hF
  unfold w_X12_isHeld_b70 at hF
  refine j_istore_n (lv' := [(3, .int (Ii s0)), (0, .ref (ad 0)), (1, .int (Ii x1)), (2, .int (Ii x2)), (4, .int (Ii x4))]) hJ dX12_isHeld_70 rfl (by decide) rfl ?_
  refine j_iinc (lv' := [(4, .int (Ii (x4 + 1))), (3, .int (Ii s0)), (0, .ref (ad 0)), (1, .int (Ii x1)), (2, .int (Ii x2))]) (k := 4) hJ dX12_isHeld_71 rfl (by decide) rfl ?_
  have g1 := hF.1; have hF := hF.2
  refine j_goto hJ 5 dX12_isHeld_74 (by decide) ?_
  exact j_sub hJ [2, 3, 4, 1, 0] rfl (hK5 x1 x2 s0 (x4 + 1) _ gx1 gx2 gs0 g1 hF)
set_option maxHeartbeats 4000000 in
set_option maxRecDepth 100000 in
theorem k_X12_isHeld_b65 {l : Launch} {D : va_G} {cy : Nat → ClassId} {ad : Nat → Nat} {Q : Int → MM → Prop} {J : Nat → List (Nat × Value) → List Value → MM → Prop} (hin : jIn ad ksR.length)   (hJ : jOk l D vwCl (tyR cy) cy ad ftR ksR (XtR ad) Om RX12 cX12_isHeld 5 3 ({ frames := 0, cells := 0, slots := 0, locals := 0 } : Room) Q J) {K5 : Int → Int → Int → Int → MM → Prop} (hK5 : ∀ (x1 x2 x3 x4 : Int) (M : MM), ri_ x1 → ri_ x2 → ri_ x3 → ri_ x4 → K5 x1 x2 x3 x4 M → J 5 [(0, .ref (ad 0)), (1, .int (Ii x1)), (2, .int (Ii x2)), (3, .int (Ii x3)), (4, .int (Ii x4))] [] M) : ∀ (x1 x2 x4 : Int) (M : MM), ri_ x1 → ri_ x2 → ri_ x4 → w_X12_isHeld_b65  Q K5 x1 x2 x4 M → J 65 [(0, .ref (ad 0)), (1, .int (Ii x1)), (2, .int (Ii x2)), (4, .int (Ii x4))] [] M := by
  intro x1 x2 x4 M gx1 gx2 gx4 hF
  unfold w_X12_isHeld_b65 at hF
  refine j_iconst hJ dX12_isHeld_65 ?_
  refine j_goto hJ 70 dX12_isHeld_66 (by decide) ?_
  exact j_sub hJ [0, 1, 2, 3] rfl (k_X12_isHeld_b70 hin  hJ hK5 x1 x2 x4 1 _ gx1 gx2 gx4 rk_1 hF)
set_option maxHeartbeats 4000000 in
set_option maxRecDepth 100000 in
theorem k_X12_isHeld_b69 {l : Launch} {D : va_G} {cy : Nat → ClassId} {ad : Nat → Nat} {Q : Int → MM → Prop} {J : Nat → List (Nat × Value) → List Value → MM → Prop} (hin : jIn ad ksR.length)   (hJ : jOk l D vwCl (tyR cy) cy ad ftR ksR (XtR ad) Om RX12 cX12_isHeld 5 3 ({ frames := 0, cells := 0, slots := 0, locals := 0 } : Room) Q J) {K5 : Int → Int → Int → Int → MM → Prop} (hK5 : ∀ (x1 x2 x3 x4 : Int) (M : MM), ri_ x1 → ri_ x2 → ri_ x3 → ri_ x4 → K5 x1 x2 x3 x4 M → J 5 [(0, .ref (ad 0)), (1, .int (Ii x1)), (2, .int (Ii x2)), (3, .int (Ii x3)), (4, .int (Ii x4))] [] M) : ∀ (x1 x2 x4 : Int) (M : MM), ri_ x1 → ri_ x2 → ri_ x4 → w_X12_isHeld_b69  Q K5 x1 x2 x4 M → J 69 [(0, .ref (ad 0)), (1, .int (Ii x1)), (2, .int (Ii x2)), (4, .int (Ii x4))] [] M := by
  intro x1 x2 x4 M gx1 gx2 gx4 hF
  unfold w_X12_isHeld_b69 at hF
  refine j_iconst hJ dX12_isHeld_69 ?_
  exact j_sub hJ [0, 1, 2, 3] rfl (k_X12_isHeld_b70 hin  hJ hK5 x1 x2 x4 0 _ gx1 gx2 gx4 rk_0 hF)
set_option maxHeartbeats 4000000 in
set_option maxRecDepth 100000 in
theorem k_X12_isHeld_b5 {l : Launch} {D : va_G} {cy : Nat → ClassId} {ad : Nat → Nat} {Q : Int → MM → Prop} {J : Nat → List (Nat × Value) → List Value → MM → Prop} (hin : jIn ad ksR.length)   (hJ : jOk l D vwCl (tyR cy) cy ad ftR ksR (XtR ad) Om RX12 cX12_isHeld 5 3 ({ frames := 0, cells := 0, slots := 0, locals := 0 } : Room) Q J)  : ∀ (x1 x2 x3 x4 : Int) (M : MM), ri_ x1 → ri_ x2 → ri_ x3 → ri_ x4 → w_X12_isHeld_b5  Q  x1 x2 x3 x4 M → J 5 [(0, .ref (ad 0)), (1, .int (Ii x1)), (2, .int (Ii x2)), (3, .int (Ii x3)), (4, .int (Ii x4))] [] M := by
  have H9 : ∀ (n : Nat) (x1 x2 x3 x4 : Int) (M : MM), ri_ x1 → ri_ x2 → ri_ x3 → ri_ x4 → jit (fun _ _ _ _ _ => False) (wb_X12_isHeld_b5  Q ) n x1 x2 x3 x4 M → J 5 [(0, .ref (ad 0)), (1, .int (Ii x1)), (2, .int (Ii x2)), (3, .int (Ii x3)), (4, .int (Ii x4))] [] M := by
    intro n
    induction n with
    | zero => intro x1 x2 x3 x4 M gx1 gx2 gx3 gx4 hF; exact False.elim hF
    | succ n ih =>
    intro x1 x2 x3 x4 M gx1 gx2 gx3 gx4 hF
    have hF : wb_X12_isHeld_b5  Q  (jit (fun _ _ _ _ _ => False) (wb_X12_isHeld_b5  Q ) n) x1 x2 x3 x4 M := hF
    unfold wb_X12_isHeld_b5 at hF
    refine j_iload hJ dX12_isHeld_5 4 rfl ?_
    refine j_aload_n hJ dX12_isHeld_7 rfl 0 rfl ?_
    refine j_gr (e := 87) hJ kR_0 fR_15_122 fl_X12_336 dX12_isHeld_8 rfl ?_
    refine j_iload_n hJ dX12_isHeld_11 rfl 1 rfl ?_
    refine j_iald hJ gx1 kR_87 hF.1 hF.2.1 dX12_isHeld_12 (fun v1 ev1 gv1 => ?_)
    have hF := hF.2.2 v1 ev1 gv1
    refine j_icmp_ge hJ 77 gx4 gv1 dX12_isHeld_13 (by decide) (fun z2 => ?_) (fun z2 => ?_)
    · have hF := hF.1 z2
      refine j_iload_n hJ dX12_isHeld_77 rfl 3 rfl ?_
      exact j_zret hJ rfl hF.1 dX12_isHeld_78 hF.2
    · have hF := hF.2 z2
      refine j_iload_n hJ dX12_isHeld_16 rfl 3 rfl ?_
      refine j_if_ne hJ 65 gx3 dX12_isHeld_17 (by decide) (fun z3 => ?_) (fun z3 => ?_)
      · have hF := hF.1 z3
        exact j_sub hJ [0, 1, 2, 4] rfl (k_X12_isHeld_b65 hin  hJ ih x1 x2 x4 _ gx1 gx2 gx4 hF)
      · have hF := hF.2 z3
        refine j_aload_n hJ dX12_isHeld_20 rfl 0 rfl ?_
        refine j_gr (e := 88) hJ kR_0 fR_15_123 fl_X12_339 dX12_isHeld_21 rfl ?_
        refine j_iconst hJ dX12_isHeld_24 ?_
        refine j_iload_n hJ dX12_isHeld_25 rfl 1 rfl ?_
        refine j_imul hJ dX12_isHeld_26 ?_
        have g4 := hF.1; have hF := hF.2
        refine j_iload hJ dX12_isHeld_27 4 rfl ?_
        refine j_iadd hJ dX12_isHeld_29 ?_
        have g5 := hF.1; have hF := hF.2
        refine j_iald hJ g5 kR_88 hF.1 hF.2.1 dX12_isHeld_30 (fun v6 ev6 gv6 => ?_)
        have hF := hF.2.2 v6 ev6 gv6
        refine j_iconst hJ dX12_isHeld_31 ?_
        refine j_icmp_gt hJ 69 gv6 rk_2 dX12_isHeld_32 (by decide) (fun z7 => ?_) (fun z7 => ?_)
        · have hF := hF.1 z7
          exact j_sub hJ [0, 1, 2, 4] rfl (k_X12_isHeld_b69 hin  hJ ih x1 x2 x4 _ gx1 gx2 gx4 hF)
        · have hF := hF.2 z7
          refine j_aload_n hJ dX12_isHeld_35 rfl 0 rfl ?_
          refine j_gr (e := 90) hJ kR_0 fR_15_125 fl_X12_345 dX12_isHeld_36 rfl ?_
          refine j_iconst hJ dX12_isHeld_39 ?_
          refine j_iload_n hJ dX12_isHeld_40 rfl 1 rfl ?_
          refine j_imul hJ dX12_isHeld_41 ?_
          have g8 := hF.1; have hF := hF.2
          refine j_iload hJ dX12_isHeld_42 4 rfl ?_
          refine j_iadd hJ dX12_isHeld_44 ?_
          have g9 := hF.1; have hF := hF.2
          refine j_iald hJ g9 kR_90 hF.1 hF.2.1 dX12_isHeld_45 (fun v10 ev10 gv10 => ?_)
          have hF := hF.2.2 v10 ev10 gv10
          refine j_iload_n hJ dX12_isHeld_46 rfl 2 rfl ?_
          refine j_icmp_eq hJ 65 gv10 gx2 dX12_isHeld_47 (by decide) (fun z11 => ?_) (fun z11 => ?_)
          · have hF := hF.1 z11
            exact j_sub hJ [0, 1, 2, 4] rfl (k_X12_isHeld_b65 hin  hJ ih x1 x2 x4 _ gx1 gx2 gx4 hF)
          · have hF := hF.2 z11
            refine j_aload_n hJ dX12_isHeld_50 rfl 0 rfl ?_
            refine j_gr (e := 91) hJ kR_0 fR_15_126 fl_X12_348 dX12_isHeld_51 rfl ?_
            refine j_iconst hJ dX12_isHeld_54 ?_
            refine j_iload_n hJ dX12_isHeld_55 rfl 1 rfl ?_
            refine j_imul hJ dX12_isHeld_56 ?_
            have g12 := hF.1; have hF := hF.2
            refine j_iload hJ dX12_isHeld_57 4 rfl ?_
            refine j_iadd hJ dX12_isHeld_59 ?_
            have g13 := hF.1; have hF := hF.2
            refine j_iald hJ g13 kR_91 hF.1 hF.2.1 dX12_isHeld_60 (fun v14 ev14 gv14 => ?_)
            have hF := hF.2.2 v14 ev14 gv14
            refine j_iload_n hJ dX12_isHeld_61 rfl 2 rfl ?_
            refine j_icmp_ne hJ 69 gv14 gx2 dX12_isHeld_62 (by decide) (fun z15 => ?_) (fun z15 => ?_)
            · have hF := hF.1 z15
              exact j_sub hJ [0, 1, 2, 4] rfl (k_X12_isHeld_b69 hin  hJ ih x1 x2 x4 _ gx1 gx2 gx4 hF)
            · have hF := hF.2 z15
              exact j_sub hJ [0, 1, 2, 4] rfl (k_X12_isHeld_b65 hin  hJ ih x1 x2 x4 _ gx1 gx2 gx4 hF)
  intro x1 x2 x3 x4 M gx1 gx2 gx3 gx4 hF
  obtain ⟨n, hF⟩ := hF
  exact H9 n x1 x2 x3 x4 M gx1 gx2 gx3 gx4 hF
set_option maxHeartbeats 4000000 in
set_option maxRecDepth 100000 in
theorem c_X12_isHeld {l : Launch} {D : va_G} {cy : Nat → ClassId} {ad : Nat → Nat} (hin : jIn ad ksR.length) : jCN l D vwCl (tyR cy) cy ad ftR ksR (XtR ad) yX12_isHeld (.code yX12_isHeld cX12_isHeld 5 (some .boolean) :: Om) ({ frames := 0, cells := 0, slots := 0, locals := 0 } : Room) 3 (W_X12_isHeld ad) := by
  refine jCN_of (y := yX12_isHeld) (cc := cX12_isHeld) (nL := 5) (rk := 3) (rm := ({ frames := 0, cells := 0, slots := 0, locals := 0 } : Room)) (own := RX12) (tyR_ok cy) hin (XtR_ok ad) Om_good (by decide) rfl ?_
  intro Q av M hF
  obtain ⟨p1, p2, rfl, gp1, gp2, hF⟩ := hF
  refine ⟨Nat.le_of_ble_eq_true rfl, fun J hJ => ?_⟩
  show J 0 [(0, .ref (ad 0)), (1, .int (Ii p1)), (2, .int (Ii p2))] [] M
  unfold w_X12_isHeld at hF
  refine j_iconst hJ dX12_isHeld_0 ?_
  refine j_istore_n (lv' := [(3, .int (Ii 0)), (0, .ref (ad 0)), (1, .int (Ii p1)), (2, .int (Ii p2))]) hJ dX12_isHeld_1 rfl (by decide) rfl ?_
  refine j_iconst hJ dX12_isHeld_2 ?_
  refine j_istore (lv' := [(4, .int (Ii 0)), (3, .int (Ii 0)), (0, .ref (ad 0)), (1, .int (Ii p1)), (2, .int (Ii p2))]) hJ dX12_isHeld_3 (by decide) rfl ?_
  exact j_sub hJ [2, 3, 4, 1, 0] rfl (k_X12_isHeld_b5 hin  hJ  p1 p2 0 0 _ gp1 gp2 rk_0 rk_0 hF)
def W_X12_readRelation (ad : Nat → Nat) (Q : Int → MM → Prop) (av : List Value) (M : MM) : Prop := ∃ (p1 : Int) (p2 : Int) (p3 : Int), av = [.ref (ad 0), .int (Ii p1), .long (Ll p2), .int (Ii p3)] ∧ ri_ p1 ∧ rl_ p2 ∧ ri_ p3 ∧ w_X12_readRelation  Q p1 p2 p3 M
set_option maxHeartbeats 4000000 in
set_option maxRecDepth 100000 in
theorem c_X12_readRelation {l : Launch} {D : va_G} {cy : Nat → ClassId} {ad : Nat → Nat} (hin : jIn ad ksR.length) : jCN l D vwCl (tyR cy) cy ad ftR ksR (XtR ad) yX12_readRelation (.code yX12_readRelation cX12_readRelation 6 none :: Om) ({ frames := 6, cells := 0, slots := 0, locals := 131 } : Room) 0 (W_X12_readRelation ad) := by
  refine jCN_of (y := yX12_readRelation) (cc := cX12_readRelation) (nL := 6) (rk := 0) (rm := ({ frames := 6, cells := 0, slots := 0, locals := 131 } : Room)) (own := RX12) (tyR_ok cy) hin (XtR_ok ad) Om_good (by decide) rfl ?_
  intro Q av M hF
  obtain ⟨p1, p2, p3, rfl, gp1, gp2, gp3, hF⟩ := hF
  refine ⟨Nat.le_of_ble_eq_true rfl, fun J hJ => ?_⟩
  show J 0 [(0, .ref (ad 0)), (1, .int (Ii p1)), (2, .long (Ll p2)), (4, .int (Ii p3))] [] M
  unfold w_X12_readRelation at hF
  refine j_aload_n hJ dX12_readRelation_0 rfl 0 rfl ?_
  refine j_gi hJ kR_0 fR_15_78 rfl fl_X12_631 dX12_readRelation_1 (fun v1 ev1 gv1 => ?_)
  have hF := hF v1 ev1 gv1
  refine j_istore (lv' := [(5, .int (Ii v1)), (0, .ref (ad 0)), (1, .int (Ii p1)), (2, .long (Ll p2)), (4, .int (Ii p3))]) hJ dX12_readRelation_4 (by decide) rfl ?_
  refine j_aload_n hJ dX12_readRelation_6 rfl 1 rfl ?_
  refine j_iload hJ dX12_readRelation_7 4 rfl ?_
  refine j_pi hJ gp3 kR_0 fR_15_78 rfl fp_X12_631 dX12_readRelation_9 (fun M2 eM2 => ?_)
  have hF := hF M2 eM2
  refine j_aload_n hJ dX12_readRelation_12 rfl 1 rfl ?_
  refine j_callVv hJ (c_X12_advance (l := l) (D := D) (cy := cy) (ad := ad) hin) rfl om_1355 ⟨rfl, rfl, Nat.le_of_ble_eq_true rfl, Nat.le_of_ble_eq_true rfl⟩ [] mv_X12_661 hd_X12_advancev kR_0 rfl rfl rfl (Nat.le_of_ble_eq_true rfl) dX12_readRelation_13 ⟨rfl, hF⟩ (fun M4 qM4 => ?_)
  have hF := qM4
  refine j_aload_n hJ dX12_readRelation_16 rfl 1 rfl ?_
  refine j_gr (e := 88) hJ kR_0 fR_15_123 fl_X12_339 dX12_readRelation_17 rfl ?_
  refine j_iload_n hJ dX12_readRelation_20 rfl 2 rfl ?_
  refine j_iconst hJ dX12_readRelation_21 ?_
  refine j_iast hJ gp1 rk_0 kR_88 hF.1 hF.2.1 dX12_readRelation_22 (fun M5 eM5 => ?_)
  have hF := hF.2.2 M5 eM5
  refine j_aload_n hJ dX12_readRelation_23 rfl 1 rfl ?_
  refine j_gr (e := 89) hJ kR_0 fR_15_124 fl_X12_342 dX12_readRelation_24 rfl ?_
  refine j_iload_n hJ dX12_readRelation_27 rfl 2 rfl ?_
  refine j_aload_n hJ dX12_readRelation_28 rfl 1 rfl ?_
  refine j_callVi hJ (c_X12_relationAtHand (l := l) (D := D) (cy := cy) (ad := ad) hin) rfl om_1491 ⟨rfl, rfl, Nat.le_of_ble_eq_true rfl, Nat.le_of_ble_eq_true rfl⟩ [] mv_X12_911 hd_X12_relationAtHandv kR_0 rfl rfl rfl (Nat.le_of_ble_eq_true rfl) dX12_readRelation_29 ⟨rfl, hF⟩ (fun r6 M7 gr6 qM7 => ?_)
  have hF := qM7 gr6
  refine j_iast hJ gp1 gr6 kR_89 hF.1 hF.2.1 dX12_readRelation_32 (fun M8 eM8 => ?_)
  have hF := hF.2.2 M8 eM8
  refine j_aload_n hJ dX12_readRelation_33 rfl 1 rfl ?_
  refine j_gi hJ kR_0 fR_15_83 rfl fl_X12_625 dX12_readRelation_34 (fun v9 ev9 gv9 => ?_)
  have hF := hF v9 ev9 gv9
  refine j_if_le hJ 41 gv9 dX12_readRelation_37 (by decide) (fun z10 => ?_) (fun z10 => ?_)
  · have hF := hF.1 z10
    refine j_aload_n hJ dX12_readRelation_41 rfl 1 rfl ?_
    refine j_callVv hJ (c_X12_advance (l := l) (D := D) (cy := cy) (ad := ad) hin) rfl om_1355 ⟨rfl, rfl, Nat.le_of_ble_eq_true rfl, Nat.le_of_ble_eq_true rfl⟩ [] mv_X12_661 hd_X12_advancev kR_0 rfl rfl rfl (Nat.le_of_ble_eq_true rfl) dX12_readRelation_42 ⟨rfl, hF⟩ (fun M12 qM12 => ?_)
    have hF := qM12
    refine j_aload_n hJ dX12_readRelation_45 rfl 1 rfl ?_
    refine j_aload_n hJ dX12_readRelation_46 rfl 1 rfl ?_
    refine j_gr (e := 89) hJ kR_0 fR_15_124 fl_X12_342 dX12_readRelation_47 rfl ?_
    refine j_iload_n hJ dX12_readRelation_50 rfl 2 rfl ?_
    refine j_iald hJ gp1 kR_89 hF.1 hF.2.1 dX12_readRelation_51 (fun v13 ev13 gv13 => ?_)
    have hF := hF.2.2 v13 ev13 gv13
    refine j_iload hJ dX12_readRelation_52 4 rfl ?_
    refine j_iconst hJ dX12_readRelation_54 ?_
    refine j_callVv hJ (c_X12_readPlaces (l := l) (D := D) (cy := cy) (ad := ad) hin) rfl om_1495 ⟨rfl, rfl, Nat.le_of_ble_eq_true rfl, Nat.le_of_ble_eq_true rfl⟩ [.int (Ii v13), .int (Ii p3), .int (Ii 0)] mv_X12_914 hd_X12_readPlacesv kR_0 rfl rfl rfl (Nat.le_of_ble_eq_true rfl) dX12_readRelation_55 ⟨v13, p3, 0, rfl, gv13, gp3, (by decide), hF⟩ (fun M15 qM15 => ?_)
    have hF := qM15
    refine j_aload_n hJ dX12_readRelation_58 rfl 1 rfl ?_
    refine j_gr (e := 90) hJ kR_0 fR_15_125 fl_X12_345 dX12_readRelation_59 rfl ?_
    refine j_iload_n hJ dX12_readRelation_62 rfl 2 rfl ?_
    refine j_aload_n hJ dX12_readRelation_63 rfl 1 rfl ?_
    refine j_gi hJ kR_0 fR_15_136 rfl fl_X12_894 dX12_readRelation_64 (fun v16 ev16 gv16 => ?_)
    have hF := hF v16 ev16 gv16
    refine j_iast hJ gp1 gv16 kR_90 hF.1 hF.2.1 dX12_readRelation_67 (fun M17 eM17 => ?_)
    have hF := hF.2.2 M17 eM17
    refine j_aload_n hJ dX12_readRelation_68 rfl 1 rfl ?_
    refine j_gr (e := 91) hJ kR_0 fR_15_126 fl_X12_348 dX12_readRelation_69 rfl ?_
    refine j_iload_n hJ dX12_readRelation_72 rfl 2 rfl ?_
    refine j_aload_n hJ dX12_readRelation_73 rfl 1 rfl ?_
    refine j_gi hJ kR_0 fR_15_137 rfl fl_X12_897 dX12_readRelation_74 (fun v18 ev18 gv18 => ?_)
    have hF := hF v18 ev18 gv18
    refine j_iast hJ gp1 gv18 kR_91 hF.1 hF.2.1 dX12_readRelation_77 (fun M19 eM19 => ?_)
    have hF := hF.2.2 M19 eM19
    exact j_vret hJ rfl dX12_readRelation_78 hF
  · have hF := hF.2 z10
    exact j_vret hJ rfl dX12_readRelation_40 hF
def W_X12_readAtomOf (ad : Nat → Nat) (Q : Int → MM → Prop) (av : List Value) (M : MM) : Prop := ∃ (p1 : Int), av = [.ref (ad 0), .int (Ii p1)] ∧ ri_ p1 ∧ w_X12_readAtomOf  Q p1 M
set_option maxHeartbeats 4000000 in
set_option maxRecDepth 100000 in
theorem k_X12_readAtomOf_b327 {l : Launch} {D : va_G} {cy : Nat → ClassId} {ad : Nat → Nat} {Q : Int → MM → Prop} {J : Nat → List (Nat × Value) → List Value → MM → Prop} (hin : jIn ad ksR.length)   (hJ : jOk l D vwCl (tyR cy) cy ad ftR ksR (XtR ad) Om RX12 cX12_readAtomOf 8 0 ({ frames := 7, cells := 0, slots := 0, locals := 156 } : Room) Q J)  : ∀ (s0 s1 : Int) (M : MM), ri_ s0 → ri_ s1 → w_X12_readAtomOf_b327  Q  s0 s1 M → J 327 [] [.int (Ii s0), .int (Ii s1), .ref (ad 91)] M := by
  intro s0 s1 M gs0 gs1 hF
  unfold w_X12_readAtomOf_b327 at hF
  refine j_iast hJ gs1 gs0 kR_91 hF.1 hF.2.1 dX12_readAtomOf_327 (fun M1 eM1 => ?_)
  have hF := hF.2.2 M1 eM1
  refine j_goto hJ 335 dX12_readAtomOf_328 (by decide) ?_
  exact j_vret hJ rfl dX12_readAtomOf_335 hF
set_option maxHeartbeats 4000000 in
set_option maxRecDepth 100000 in
theorem k_X12_readAtomOf_b307 {l : Launch} {D : va_G} {cy : Nat → ClassId} {ad : Nat → Nat} {Q : Int → MM → Prop} {J : Nat → List (Nat × Value) → List Value → MM → Prop} (hin : jIn ad ksR.length)   (hJ : jOk l D vwCl (tyR cy) cy ad ftR ksR (XtR ad) Om RX12 cX12_readAtomOf 8 0 ({ frames := 7, cells := 0, slots := 0, locals := 156 } : Room) Q J)  : ∀ (x3 : Int) (M : MM), ri_ x3 → w_X12_readAtomOf_b307  Q  x3 M → J 307 [(0, .ref (ad 0)), (3, .int (Ii x3))] [] M := by
  intro x3 M gx3 hF
  unfold w_X12_readAtomOf_b307 at hF
  refine j_aload_n hJ dX12_readAtomOf_307 rfl 0 rfl ?_
  refine j_gr (e := 91) hJ kR_0 fR_15_126 fl_X12_348 dX12_readAtomOf_308 rfl ?_
  refine j_iload_n hJ dX12_readAtomOf_311 rfl 1 rfl ?_
  refine j_aload_n hJ dX12_readAtomOf_312 rfl 0 rfl ?_
  refine j_gi hJ kR_0 fR_15_83 rfl fl_X12_625 dX12_readAtomOf_313 (fun v1 ev1 gv1 => ?_)
  have hF := hF v1 ev1 gv1
  refine j_if_ne hJ 326 gv1 dX12_readAtomOf_316 (by decide) (fun z2 => ?_) (fun z2 => ?_)
  · have hF := hF.1 z2
    refine j_iconst hJ dX12_readAtomOf_326 ?_
    exact j_sub hJ [] rfl (k_X12_readAtomOf_b327 hin  hJ  (-1) x3 _ rk_m1 gx3 hF)
  · have hF := hF.2 z2
    refine j_aload_n hJ dX12_readAtomOf_319 rfl 0 rfl ?_
    refine j_callVi hJ (c_X12_readVariable (l := l) (D := D) (cy := cy) (ad := ad) hin) rfl om_1482 ⟨rfl, rfl, Nat.le_of_ble_eq_true rfl, Nat.le_of_ble_eq_true rfl⟩ [] mv_X12_891 hd_X12_readVariablev kR_0 rfl rfl rfl (Nat.le_of_ble_eq_true rfl) dX12_readAtomOf_320 ⟨rfl, hF⟩ (fun r3 M4 gr3 qM4 => ?_)
    have hF := qM4 gr3
    refine j_goto hJ 327 dX12_readAtomOf_323 (by decide) ?_
    exact j_sub hJ [] rfl (k_X12_readAtomOf_b327 hin  hJ  r3 x3 _ gr3 gx3 hF)
set_option maxHeartbeats 4000000 in
set_option maxRecDepth 100000 in
theorem k_X12_readAtomOf_b275 {l : Launch} {D : va_G} {cy : Nat → ClassId} {ad : Nat → Nat} {Q : Int → MM → Prop} {J : Nat → List (Nat × Value) → List Value → MM → Prop} (hin : jIn ad ksR.length)   (hJ : jOk l D vwCl (tyR cy) cy ad ftR ksR (XtR ad) Om RX12 cX12_readAtomOf 8 0 ({ frames := 7, cells := 0, slots := 0, locals := 156 } : Room) Q J)  : ∀ (x3 x4 s0 s1 : Int) (M : MM), ri_ x3 → ri_ x4 → ri_ s0 → ri_ s1 → w_X12_readAtomOf_b275  Q  x3 x4 s0 s1 M → J 275 [(0, .ref (ad 0)), (3, .int (Ii x3)), (4, .int (Ii x4))] [.int (Ii s0), .int (Ii s1), .ref (ad 88)] M := by
  intro x3 x4 s0 s1 M gx3 gx4 gs0 gs1 hF
  unfold w_X12_readAtomOf_b275 at hF
  refine j_iast hJ gs1 gs0 kR_88 hF.1 hF.2.1 dX12_readAtomOf_275 (fun M1 eM1 => ?_)
  have hF := hF.2.2 M1 eM1
  refine j_aload_n hJ dX12_readAtomOf_276 rfl 0 rfl ?_
  refine j_iload hJ dX12_readAtomOf_277 2 rfl ?_
  refine j_pi hJ gx4 kR_0 fR_15_78 rfl fp_X12_631 dX12_readAtomOf_279 (fun M2 eM2 => ?_)
  have hF := hF M2 eM2
  refine j_aload_n hJ dX12_readAtomOf_282 rfl 0 rfl ?_
  refine j_callVv hJ (c_X12_advance (l := l) (D := D) (cy := cy) (ad := ad) hin) rfl om_1355 ⟨rfl, rfl, Nat.le_of_ble_eq_true rfl, Nat.le_of_ble_eq_true rfl⟩ [] mv_X12_661 hd_X12_advancev kR_0 rfl rfl rfl (Nat.le_of_ble_eq_true rfl) dX12_readAtomOf_283 ⟨rfl, hF⟩ (fun M4 qM4 => ?_)
  have hF := qM4
  refine j_aload_n hJ dX12_readAtomOf_286 rfl 0 rfl ?_
  refine j_gr (e := 90) hJ kR_0 fR_15_125 fl_X12_345 dX12_readAtomOf_287 rfl ?_
  refine j_iload_n hJ dX12_readAtomOf_290 rfl 1 rfl ?_
  refine j_aload_n hJ dX12_readAtomOf_291 rfl 0 rfl ?_
  refine j_callVi hJ (c_X12_readVariable (l := l) (D := D) (cy := cy) (ad := ad) hin) rfl om_1482 ⟨rfl, rfl, Nat.le_of_ble_eq_true rfl, Nat.le_of_ble_eq_true rfl⟩ [] mv_X12_891 hd_X12_readVariablev kR_0 rfl rfl rfl (Nat.le_of_ble_eq_true rfl) dX12_readAtomOf_292 ⟨rfl, hF⟩ (fun r5 M6 gr5 qM6 => ?_)
  have hF := qM6 gr5
  refine j_iast hJ gx3 gr5 kR_90 hF.1 hF.2.1 dX12_readAtomOf_295 (fun M7 eM7 => ?_)
  have hF := hF.2.2 M7 eM7
  refine j_aload_n hJ dX12_readAtomOf_296 rfl 0 rfl ?_
  refine j_gi hJ kR_0 fR_15_83 rfl fl_X12_625 dX12_readAtomOf_297 (fun v8 ev8 gv8 => ?_)
  have hF := hF v8 ev8 gv8
  refine j_if_ne hJ 307 gv8 dX12_readAtomOf_300 (by decide) (fun z9 => ?_) (fun z9 => ?_)
  · have hF := hF.1 z9
    exact j_sub hJ [0, 1] rfl (k_X12_readAtomOf_b307 hin  hJ  x3 _ gx3 hF)
  · have hF := hF.2 z9
    refine j_aload_n hJ dX12_readAtomOf_303 rfl 0 rfl ?_
    refine j_callVv hJ (c_X12_advance (l := l) (D := D) (cy := cy) (ad := ad) hin) rfl om_1355 ⟨rfl, rfl, Nat.le_of_ble_eq_true rfl, Nat.le_of_ble_eq_true rfl⟩ [] mv_X12_661 hd_X12_advancev kR_0 rfl rfl rfl (Nat.le_of_ble_eq_true rfl) dX12_readAtomOf_304 ⟨rfl, hF⟩ (fun M11 qM11 => ?_)
    have hF := qM11
    exact j_sub hJ [0, 1] rfl (k_X12_readAtomOf_b307 hin  hJ  x3 _ gx3 hF)
set_option maxHeartbeats 4000000 in
set_option maxRecDepth 100000 in
theorem k_X12_readAtomOf_b255 {l : Launch} {D : va_G} {cy : Nat → ClassId} {ad : Nat → Nat} {Q : Int → MM → Prop} {J : Nat → List (Nat × Value) → List Value → MM → Prop} (hin : jIn ad ksR.length)   (hJ : jOk l D vwCl (tyR cy) cy ad ftR ksR (XtR ad) Om RX12 cX12_readAtomOf 8 0 ({ frames := 7, cells := 0, slots := 0, locals := 156 } : Room) Q J)  : ∀ (x3 x4 : Int) (M : MM), ri_ x3 → ri_ x4 → w_X12_readAtomOf_b255  Q  x3 x4 M → J 255 [(0, .ref (ad 0)), (3, .int (Ii x3)), (4, .int (Ii x4))] [] M := by
  intro x3 x4 M gx3 gx4 hF
  unfold w_X12_readAtomOf_b255 at hF
  refine j_aload_n hJ dX12_readAtomOf_255 rfl 0 rfl ?_
  refine j_gr (e := 88) hJ kR_0 fR_15_123 fl_X12_339 dX12_readAtomOf_256 rfl ?_
  refine j_iload_n hJ dX12_readAtomOf_259 rfl 1 rfl ?_
  refine j_aload_n hJ dX12_readAtomOf_260 rfl 0 rfl ?_
  refine j_ldc2 hJ 61 om_1391 (by decide) dX12_readAtomOf_261 ?_
  refine j_callVz hJ (c_X12_isSign (l := l) (D := D) (cy := cy) (ad := ad) hin) rfl om_1359 ⟨rfl, rfl, Nat.le_of_ble_eq_true rfl, Nat.le_of_ble_eq_true rfl⟩ [.long (Ll 61)] mv_X12_657 hd_X12_isSignv kR_0 rfl rfl rfl (Nat.le_of_ble_eq_true rfl) dX12_readAtomOf_264 ⟨61, rfl, lk_61, hF⟩ (fun r1 M2 gr1 qM2 => ?_)
  have hF := qM2 gr1
  refine j_if_eq hJ 274 (jz_ri gr1) dX12_readAtomOf_267 (by decide) (fun z3 => ?_) (fun z3 => ?_)
  · have hF := hF.1 z3
    refine j_iconst hJ dX12_readAtomOf_274 ?_
    exact j_sub hJ [0, 1, 2] rfl (k_X12_readAtomOf_b275 hin  hJ  x3 x4 4 x3 _ gx3 gx4 rk_4 gx3 hF)
  · have hF := hF.2 z3
    refine j_iconst hJ dX12_readAtomOf_270 ?_
    refine j_goto hJ 275 dX12_readAtomOf_271 (by decide) ?_
    exact j_sub hJ [0, 1, 2] rfl (k_X12_readAtomOf_b275 hin  hJ  x3 x4 3 x3 _ gx3 gx4 rk_3 gx3 hF)
set_option maxHeartbeats 4000000 in
set_option maxRecDepth 100000 in
theorem k_X12_readAtomOf_b69 {l : Launch} {D : va_G} {cy : Nat → ClassId} {ad : Nat → Nat} {Q : Int → MM → Prop} {J : Nat → List (Nat × Value) → List Value → MM → Prop} (hin : jIn ad ksR.length)   (hJ : jOk l D vwCl (tyR cy) cy ad ftR ksR (XtR ad) Om RX12 cX12_readAtomOf 8 0 ({ frames := 7, cells := 0, slots := 0, locals := 156 } : Room) Q J)  : ∀ (x1 x2 : Int) (M : MM), ri_ x1 → ri_ x2 → w_X12_readAtomOf_b69  Q  x1 x2 M → J 69 [(0, .ref (ad 0)), (1, .int (Ii x1)), (2, .int (Ii x2))] [] M := by
  intro x1 x2 M gx1 gx2 hF
  unfold w_X12_readAtomOf_b69 at hF
  refine j_aload_n hJ dX12_readAtomOf_69 rfl 0 rfl ?_
  refine j_gi hJ kR_0 fR_15_83 rfl fl_X12_625 dX12_readAtomOf_70 (fun v1 ev1 gv1 => ?_)
  have hF := hF v1 ev1 gv1
  refine j_if_le hJ 77 gv1 dX12_readAtomOf_73 (by decide) (fun z2 => ?_) (fun z2 => ?_)
  · have hF := hF.1 z2
    refine j_iconst hJ dX12_readAtomOf_77 ?_
    refine j_iload_n hJ dX12_readAtomOf_78 rfl 1 rfl ?_
    refine j_imul hJ dX12_readAtomOf_79 ?_
    have g3 := hF.1; have hF := hF.2
    refine j_aload_n hJ dX12_readAtomOf_80 rfl 0 rfl ?_
    refine j_gr (e := 87) hJ kR_0 fR_15_122 fl_X12_336 dX12_readAtomOf_81 rfl ?_
    refine j_iload_n hJ dX12_readAtomOf_84 rfl 1 rfl ?_
    refine j_iald hJ gx1 kR_87 hF.1 hF.2.1 dX12_readAtomOf_85 (fun v4 ev4 gv4 => ?_)
    have hF := hF.2.2 v4 ev4 gv4
    refine j_iadd hJ dX12_readAtomOf_86 ?_
    have g5 := hF.1; have hF := hF.2
    refine j_istore_n (lv' := [(3, .int (Ii ((4 * x1) + v4))), (0, .ref (ad 0)), (1, .int (Ii x1)), (2, .int (Ii x2))]) hJ dX12_readAtomOf_87 rfl (by decide) rfl ?_
    refine j_aload_n hJ dX12_readAtomOf_88 rfl 1 rfl ?_
    refine j_gr (e := 87) hJ kR_0 fR_15_122 fl_X12_336 dX12_readAtomOf_89 rfl ?_
    refine j_iload_n hJ dX12_readAtomOf_92 rfl 2 rfl ?_
    refine j_dup2_11 hJ dX12_readAtomOf_93 rfl rfl ?_
    refine j_iald hJ gx1 kR_87 hF.1 hF.2.1 dX12_readAtomOf_94 (fun v6 ev6 gv6 => ?_)
    have hF := hF.2.2 v6 ev6 gv6
    refine j_iconst hJ dX12_readAtomOf_95 ?_
    refine j_iadd hJ dX12_readAtomOf_96 ?_
    have g7 := hF.1; have hF := hF.2
    refine j_iast hJ gx1 g7 kR_87 hF.1 hF.2.1 dX12_readAtomOf_97 (fun M8 eM8 => ?_)
    have hF := hF.2.2 M8 eM8
    refine j_aload_n hJ dX12_readAtomOf_98 rfl 1 rfl ?_
    refine j_gi hJ kR_0 fR_15_79 rfl fl_X12_637 dX12_readAtomOf_99 (fun v9 ev9 gv9 => ?_)
    have hF := hF v9 ev9 gv9
    refine j_istore (lv' := [(4, .int (Ii v9)), (3, .int (Ii ((4 * x1) + v4))), (0, .ref (ad 0)), (1, .int (Ii x1)), (2, .int (Ii x2))]) hJ dX12_readAtomOf_102 (by decide) rfl ?_
    refine j_aload_n hJ dX12_readAtomOf_104 rfl 2 rfl ?_
    refine j_gr (e := 91) hJ kR_0 fR_15_126 fl_X12_348 dX12_readAtomOf_105 rfl ?_
    refine j_iload_n hJ dX12_readAtomOf_108 rfl 1 rfl ?_
    refine j_iconst hJ dX12_readAtomOf_109 ?_
    refine j_iast hJ g5 rk_m1 kR_91 hF.1 hF.2.1 dX12_readAtomOf_110 (fun M10 eM10 => ?_)
    have hF := hF.2.2 M10 eM10
    refine j_iload_n hJ dX12_readAtomOf_111 rfl 4 rfl ?_
    refine j_if_eq hJ 155 gx2 dX12_readAtomOf_112 (by decide) (fun z11 => ?_) (fun z11 => ?_)
    · have hF := hF.1 z11
      refine j_aload_n hJ dX12_readAtomOf_155 rfl 2 rfl ?_
      refine j_gl hJ kR_0 fR_15_85 rfl fl_X12_640 dX12_readAtomOf_156 (fun v12 ev12 gv12 => ?_)
      have hF := hF v12 ev12 gv12
      refine j_lstore (lv' := [(5, .long (Ll v12)), (4, .int (Ii v9)), (3, .int (Ii ((4 * x1) + v4))), (0, .ref (ad 0)), (1, .int (Ii x1)), (2, .int (Ii x2))]) hJ dX12_readAtomOf_159 (by decide) rfl ?_
      refine j_aload_n hJ dX12_readAtomOf_161 rfl 3 rfl ?_
      refine j_gi hJ kR_0 fR_15_78 rfl fl_X12_631 dX12_readAtomOf_162 (fun v13 ev13 gv13 => ?_)
      have hF := hF v13 ev13 gv13
      refine j_istore (lv' := [(7, .int (Ii v13)), (5, .long (Ll v12)), (4, .int (Ii v9)), (3, .int (Ii ((4 * x1) + v4))), (0, .ref (ad 0)), (1, .int (Ii x1)), (2, .int (Ii x2))]) hJ dX12_readAtomOf_165 (by decide) rfl ?_
      refine j_aload_n hJ dX12_readAtomOf_167 rfl 4 rfl ?_
      refine j_callVv hJ (c_X12_advance (l := l) (D := D) (cy := cy) (ad := ad) hin) rfl om_1355 ⟨rfl, rfl, Nat.le_of_ble_eq_true rfl, Nat.le_of_ble_eq_true rfl⟩ [] mv_X12_661 hd_X12_advancev kR_0 rfl rfl rfl (Nat.le_of_ble_eq_true rfl) dX12_readAtomOf_168 ⟨rfl, hF⟩ (fun M15 qM15 => ?_)
      have hF := qM15
      refine j_aload_n hJ dX12_readAtomOf_171 rfl 4 rfl ?_
      refine j_ldc2 hJ 40 om_1445 (by decide) dX12_readAtomOf_172 ?_
      refine j_callVz hJ (c_X12_isSign (l := l) (D := D) (cy := cy) (ad := ad) hin) rfl om_1359 ⟨rfl, rfl, Nat.le_of_ble_eq_true rfl, Nat.le_of_ble_eq_true rfl⟩ [.long (Ll 40)] mv_X12_657 hd_X12_isSignv kR_0 rfl rfl rfl (Nat.le_of_ble_eq_true rfl) dX12_readAtomOf_175 ⟨40, rfl, lk_40, hF⟩ (fun r16 M17 gr16 qM17 => ?_)
      have hF := qM17 gr16
      refine j_if_eq hJ 193 (jz_ri gr16) dX12_readAtomOf_178 (by decide) (fun z18 => ?_) (fun z18 => ?_)
      · have hF := hF.1 z18
        refine j_aload_n hJ dX12_readAtomOf_193 rfl 4 rfl ?_
        refine j_ldc2 hJ 58 om_1459 (by decide) dX12_readAtomOf_194 ?_
        refine j_callVz hJ (c_X12_isSign (l := l) (D := D) (cy := cy) (ad := ad) hin) rfl om_1359 ⟨rfl, rfl, Nat.le_of_ble_eq_true rfl, Nat.le_of_ble_eq_true rfl⟩ [.long (Ll 58)] mv_X12_657 hd_X12_isSignv kR_0 rfl rfl rfl (Nat.le_of_ble_eq_true rfl) dX12_readAtomOf_197 ⟨58, rfl, lk_58, hF⟩ (fun r19 M20 gr19 qM20 => ?_)
        have hF := qM20 gr19
        refine j_if_eq hJ 235 (jz_ri gr19) dX12_readAtomOf_200 (by decide) (fun z21 => ?_) (fun z21 => ?_)
        · have hF := hF.1 z21
          refine j_aload_n hJ dX12_readAtomOf_235 rfl 4 rfl ?_
          refine j_ldc2 hJ 61 om_1391 (by decide) dX12_readAtomOf_236 ?_
          refine j_callVz hJ (c_X12_isSign (l := l) (D := D) (cy := cy) (ad := ad) hin) rfl om_1359 ⟨rfl, rfl, Nat.le_of_ble_eq_true rfl, Nat.le_of_ble_eq_true rfl⟩ [.long (Ll 61)] mv_X12_657 hd_X12_isSignv kR_0 rfl rfl rfl (Nat.le_of_ble_eq_true rfl) dX12_readAtomOf_239 ⟨61, rfl, lk_61, hF⟩ (fun r22 M23 gr22 qM23 => ?_)
          have hF := qM23 gr22
          refine j_if_ne hJ 255 (jz_ri gr22) dX12_readAtomOf_242 (by decide) (fun z24 => ?_) (fun z24 => ?_)
          · have hF := hF.1 z24
            exact j_sub hJ [4, 3, 2] rfl (k_X12_readAtomOf_b255 hin  hJ  ((4 * x1) + v4) v9 _ g5 gv9 hF)
          · have hF := hF.2 z24
            refine j_aload_n hJ dX12_readAtomOf_245 rfl 4 rfl ?_
            refine j_ldc2 hJ 8509 om_1392 (by decide) dX12_readAtomOf_246 ?_
            refine j_callVz hJ (c_X12_isSign (l := l) (D := D) (cy := cy) (ad := ad) hin) rfl om_1359 ⟨rfl, rfl, Nat.le_of_ble_eq_true rfl, Nat.le_of_ble_eq_true rfl⟩ [.long (Ll 8509)] mv_X12_657 hd_X12_isSignv kR_0 rfl rfl rfl (Nat.le_of_ble_eq_true rfl) dX12_readAtomOf_249 ⟨8509, rfl, lk_8509, hF⟩ (fun r25 M26 gr25 qM26 => ?_)
            have hF := qM26 gr25
            refine j_if_eq hJ 331 (jz_ri gr25) dX12_readAtomOf_252 (by decide) (fun z27 => ?_) (fun z27 => ?_)
            · have hF := hF.1 z27
              refine j_aload_n hJ dX12_readAtomOf_331 rfl 4 rfl ?_
              refine j_callVv hJ (c_X12_wrong (l := l) (D := D) (cy := cy) (ad := ad) hin) rfl om_1363 ⟨rfl, rfl, Nat.le_of_ble_eq_true rfl, Nat.le_of_ble_eq_true rfl⟩ [] mv_X12_664 hd_X12_wrongv kR_0 rfl rfl rfl (Nat.le_of_ble_eq_true rfl) dX12_readAtomOf_332 ⟨rfl, hF⟩ (fun M29 qM29 => ?_)
              have hF := qM29
              exact j_vret hJ rfl dX12_readAtomOf_335 hF
            · have hF := hF.2 z27
              exact j_sub hJ [4, 3, 2] rfl (k_X12_readAtomOf_b255 hin  hJ  ((4 * x1) + v4) v9 _ g5 gv9 hF)
        · have hF := hF.2 z21
          refine j_aload_n hJ dX12_readAtomOf_203 rfl 4 rfl ?_
          refine j_gr (e := 88) hJ kR_0 fR_15_123 fl_X12_339 dX12_readAtomOf_204 rfl ?_
          refine j_iload_n hJ dX12_readAtomOf_207 rfl 3 rfl ?_
          refine j_iconst hJ dX12_readAtomOf_208 ?_
          refine j_iast hJ g5 rk_2 kR_88 hF.1 hF.2.1 dX12_readAtomOf_209 (fun M30 eM30 => ?_)
          have hF := hF.2.2 M30 eM30
          refine j_aload_n hJ dX12_readAtomOf_210 rfl 4 rfl ?_
          refine j_gr (e := 82) hJ kR_0 fR_15_117 fl_X12_321 dX12_readAtomOf_211 rfl ?_
          refine j_iload_n hJ dX12_readAtomOf_214 rfl 3 rfl ?_
          refine j_lload hJ dX12_readAtomOf_215 1 rfl ?_
          refine j_last hJ g5 gv12 kR_82 hF.1 hF.2.1 dX12_readAtomOf_217 (fun M31 eM31 => ?_)
          have hF := hF.2.2 M31 eM31
          refine j_aload_n hJ dX12_readAtomOf_218 rfl 4 rfl ?_
          refine j_callVv hJ (c_X12_advance (l := l) (D := D) (cy := cy) (ad := ad) hin) rfl om_1355 ⟨rfl, rfl, Nat.le_of_ble_eq_true rfl, Nat.le_of_ble_eq_true rfl⟩ [] mv_X12_661 hd_X12_advancev kR_0 rfl rfl rfl (Nat.le_of_ble_eq_true rfl) dX12_readAtomOf_219 ⟨rfl, hF⟩ (fun M33 qM33 => ?_)
          have hF := qM33
          refine j_aload_n hJ dX12_readAtomOf_222 rfl 4 rfl ?_
          refine j_gr (e := 90) hJ kR_0 fR_15_125 fl_X12_345 dX12_readAtomOf_223 rfl ?_
          refine j_iload_n hJ dX12_readAtomOf_226 rfl 3 rfl ?_
          refine j_aload_n hJ dX12_readAtomOf_227 rfl 4 rfl ?_
          refine j_callVi hJ (c_X12_readVariable (l := l) (D := D) (cy := cy) (ad := ad) hin) rfl om_1482 ⟨rfl, rfl, Nat.le_of_ble_eq_true rfl, Nat.le_of_ble_eq_true rfl⟩ [] mv_X12_891 hd_X12_readVariablev kR_0 rfl rfl rfl (Nat.le_of_ble_eq_true rfl) dX12_readAtomOf_228 ⟨rfl, hF⟩ (fun r34 M35 gr34 qM35 => ?_)
          have hF := qM35 gr34
          refine j_iast hJ g5 gr34 kR_90 hF.1 hF.2.1 dX12_readAtomOf_231 (fun M36 eM36 => ?_)
          have hF := hF.2.2 M36 eM36
          refine j_goto hJ 335 dX12_readAtomOf_232 (by decide) ?_
          exact j_vret hJ rfl dX12_readAtomOf_335 hF
      · have hF := hF.2 z18
        refine j_aload_n hJ dX12_readAtomOf_181 rfl 4 rfl ?_
        refine j_iload_n hJ dX12_readAtomOf_182 rfl 3 rfl ?_
        refine j_lload hJ dX12_readAtomOf_183 1 rfl ?_
        refine j_iload hJ dX12_readAtomOf_185 2 rfl ?_
        refine j_callVv hJ (c_X12_readRelation (l := l) (D := D) (cy := cy) (ad := ad) hin) rfl om_1504 ⟨rfl, rfl, Nat.le_of_ble_eq_true rfl, Nat.le_of_ble_eq_true rfl⟩ [.int (Ii ((4 * x1) + v4)), .long (Ll v12), .int (Ii v9)] mv_X12_926 hd_X12_readRelationv kR_0 rfl rfl rfl (Nat.le_of_ble_eq_true rfl) dX12_readAtomOf_187 ⟨((4 * x1) + v4), v12, v9, rfl, g5, gv12, gv9, hF⟩ (fun M38 qM38 => ?_)
        have hF := qM38
        refine j_goto hJ 335 dX12_readAtomOf_190 (by decide) ?_
        exact j_vret hJ rfl dX12_readAtomOf_335 hF
    · have hF := hF.2 z11
      refine j_aload_n hJ dX12_readAtomOf_115 rfl 2 rfl ?_
      refine j_callVv hJ (c_X12_advance (l := l) (D := D) (cy := cy) (ad := ad) hin) rfl om_1355 ⟨rfl, rfl, Nat.le_of_ble_eq_true rfl, Nat.le_of_ble_eq_true rfl⟩ [] mv_X12_661 hd_X12_advancev kR_0 rfl rfl rfl (Nat.le_of_ble_eq_true rfl) dX12_readAtomOf_116 ⟨rfl, hF⟩ (fun M40 qM40 => ?_)
      have hF := qM40
      refine j_aload_n hJ dX12_readAtomOf_119 rfl 2 rfl ?_
      refine j_gr (e := 88) hJ kR_0 fR_15_123 fl_X12_339 dX12_readAtomOf_120 rfl ?_
      refine j_iload_n hJ dX12_readAtomOf_123 rfl 1 rfl ?_
      refine j_iconst hJ dX12_readAtomOf_124 ?_
      refine j_iast hJ g5 rk_1 kR_88 hF.1 hF.2.1 dX12_readAtomOf_125 (fun M41 eM41 => ?_)
      have hF := hF.2.2 M41 eM41
      refine j_aload_n hJ dX12_readAtomOf_126 rfl 2 rfl ?_
      refine j_iconst hJ dX12_readAtomOf_127 ?_
      refine j_iload hJ dX12_readAtomOf_128 0 rfl ?_
      refine j_iconst hJ dX12_readAtomOf_130 ?_
      refine j_callVv hJ (c_X12_readPlaces (l := l) (D := D) (cy := cy) (ad := ad) hin) rfl om_1495 ⟨rfl, rfl, Nat.le_of_ble_eq_true rfl, Nat.le_of_ble_eq_true rfl⟩ [.int (Ii (-1)), .int (Ii v9), .int (Ii 1)] mv_X12_914 hd_X12_readPlacesv kR_0 rfl rfl rfl (Nat.le_of_ble_eq_true rfl) dX12_readAtomOf_131 ⟨(-1), v9, 1, rfl, rk_m1, gv9, (by decide), hF⟩ (fun M43 qM43 => ?_)
      have hF := qM43
      refine j_aload_n hJ dX12_readAtomOf_134 rfl 2 rfl ?_
      refine j_gr (e := 90) hJ kR_0 fR_15_125 fl_X12_345 dX12_readAtomOf_135 rfl ?_
      refine j_iload_n hJ dX12_readAtomOf_138 rfl 1 rfl ?_
      refine j_aload_n hJ dX12_readAtomOf_139 rfl 2 rfl ?_
      refine j_gi hJ kR_0 fR_15_136 rfl fl_X12_894 dX12_readAtomOf_140 (fun v44 ev44 gv44 => ?_)
      have hF := hF v44 ev44 gv44
      refine j_iast hJ g5 gv44 kR_90 hF.1 hF.2.1 dX12_readAtomOf_143 (fun M45 eM45 => ?_)
      have hF := hF.2.2 M45 eM45
      refine j_aload_n hJ dX12_readAtomOf_144 rfl 2 rfl ?_
      refine j_gr (e := 91) hJ kR_0 fR_15_126 fl_X12_348 dX12_readAtomOf_145 rfl ?_
      refine j_iload_n hJ dX12_readAtomOf_148 rfl 1 rfl ?_
      refine j_aload_n hJ dX12_readAtomOf_149 rfl 2 rfl ?_
      refine j_gi hJ kR_0 fR_15_137 rfl fl_X12_897 dX12_readAtomOf_150 (fun v46 ev46 gv46 => ?_)
      have hF := hF v46 ev46 gv46
      refine j_iast hJ g5 gv46 kR_91 hF.1 hF.2.1 dX12_readAtomOf_153 (fun M47 eM47 => ?_)
      have hF := hF.2.2 M47 eM47
      exact j_vret hJ rfl dX12_readAtomOf_154 hF
  · have hF := hF.2 z2
    exact j_vret hJ rfl dX12_readAtomOf_76 hF
set_option maxHeartbeats 4000000 in
set_option maxRecDepth 100000 in
theorem k_X12_readAtomOf_b43 {l : Launch} {D : va_G} {cy : Nat → ClassId} {ad : Nat → Nat} {Q : Int → MM → Prop} {J : Nat → List (Nat × Value) → List Value → MM → Prop} (hin : jIn ad ksR.length)   (hJ : jOk l D vwCl (tyR cy) cy ad ftR ksR (XtR ad) Om RX12 cX12_readAtomOf 8 0 ({ frames := 7, cells := 0, slots := 0, locals := 156 } : Room) Q J)  : ∀ (x1 x2 : Int) (M : MM), ri_ x1 → ri_ x2 → w_X12_readAtomOf_b43  Q  x1 x2 M → J 43 [(0, .ref (ad 0)), (1, .int (Ii x1)), (2, .int (Ii x2))] [] M := by
  intro x1 x2 M gx1 gx2 hF
  unfold w_X12_readAtomOf_b43 at hF
  refine j_aload_n hJ dX12_readAtomOf_43 rfl 0 rfl ?_
  refine j_gi hJ kR_0 fR_15_83 rfl fl_X12_625 dX12_readAtomOf_44 (fun v1 ev1 gv1 => ?_)
  have hF := hF v1 ev1 gv1
  refine j_if_ne hJ 69 gv1 dX12_readAtomOf_47 (by decide) (fun z2 => ?_) (fun z2 => ?_)
  · have hF := hF.1 z2
    exact j_sub hJ [0, 1, 2] rfl (k_X12_readAtomOf_b69 hin  hJ  x1 x2 _ gx1 gx2 hF)
  · have hF := hF.2 z2
    refine j_aload_n hJ dX12_readAtomOf_50 rfl 0 rfl ?_
    refine j_gr (e := 87) hJ kR_0 fR_15_122 fl_X12_336 dX12_readAtomOf_51 rfl ?_
    refine j_iload_n hJ dX12_readAtomOf_54 rfl 1 rfl ?_
    refine j_iald hJ gx1 kR_87 hF.1 hF.2.1 dX12_readAtomOf_55 (fun v3 ev3 gv3 => ?_)
    have hF := hF.2.2 v3 ev3 gv3
    refine j_iconst hJ dX12_readAtomOf_56 ?_
    refine j_icmp_ne hJ 69 gv3 rk_4 dX12_readAtomOf_57 (by decide) (fun z4 => ?_) (fun z4 => ?_)
    · have hF := hF.1 z4
      exact j_sub hJ [0, 1, 2] rfl (k_X12_readAtomOf_b69 hin  hJ  x1 x2 _ gx1 gx2 hF)
    · have hF := hF.2 z4
      refine j_aload_n hJ dX12_readAtomOf_60 rfl 0 rfl ?_
      refine j_iconst hJ dX12_readAtomOf_61 ?_
      refine j_aload_n hJ dX12_readAtomOf_62 rfl 0 rfl ?_
      refine j_gi hJ kR_0 fR_15_79 rfl fl_X12_637 dX12_readAtomOf_63 (fun v5 ev5 gv5 => ?_)
      have hF := hF v5 ev5 gv5
      refine j_callVv hJ (c_X12_fail (l := l) (D := D) (cy := cy) (ad := ad) hin) rfl om_1351 ⟨rfl, rfl, Nat.le_of_ble_eq_true rfl, Nat.le_of_ble_eq_true rfl⟩ [.int (Ii 4), .int (Ii v5)] mv_X12_653 hd_X12_failv kR_0 rfl rfl rfl (Nat.le_of_ble_eq_true rfl) dX12_readAtomOf_66 ⟨4, v5, rfl, rk_4, gv5, hF⟩ (fun M7 qM7 => ?_)
      have hF := qM7
      exact j_sub hJ [0, 1, 2] rfl (k_X12_readAtomOf_b69 hin  hJ  x1 x2 _ gx1 gx2 hF)
set_option maxHeartbeats 4000000 in
set_option maxRecDepth 100000 in
theorem k_X12_readAtomOf_b27 {l : Launch} {D : va_G} {cy : Nat → ClassId} {ad : Nat → Nat} {Q : Int → MM → Prop} {J : Nat → List (Nat × Value) → List Value → MM → Prop} (hin : jIn ad ksR.length)   (hJ : jOk l D vwCl (tyR cy) cy ad ftR ksR (XtR ad) Om RX12 cX12_readAtomOf 8 0 ({ frames := 7, cells := 0, slots := 0, locals := 156 } : Room) Q J)  : ∀ (x1 s0 : Int) (M : MM), ri_ x1 → ri_ s0 → w_X12_readAtomOf_b27  Q  x1 s0 M → J 27 [(0, .ref (ad 0)), (1, .int (Ii x1))] [.int (Ii s0)] M := by
  intro x1 s0 M gx1 gs0 hF
  unfold w_X12_readAtomOf_b27 at hF
  refine j_istore_n (lv' := [(2, .int (Ii s0)), (0, .ref (ad 0)), (1, .int (Ii x1))]) hJ dX12_readAtomOf_27 rfl (by decide) rfl ?_
  refine j_iload_n hJ dX12_readAtomOf_28 rfl 0 rfl ?_
  refine j_if_ne hJ 43 gs0 dX12_readAtomOf_29 (by decide) (fun z1 => ?_) (fun z1 => ?_)
  · have hF := hF.1 z1
    exact j_sub hJ [1, 2, 0] rfl (k_X12_readAtomOf_b43 hin  hJ  x1 s0 _ gx1 gs0 hF)
  · have hF := hF.2 z1
    refine j_aload_n hJ dX12_readAtomOf_32 rfl 1 rfl ?_
    refine j_callVz hJ (c_X12_isRuleName (l := l) (D := D) (cy := cy) (ad := ad) hin) rfl om_1478 ⟨rfl, rfl, Nat.le_of_ble_eq_true rfl, Nat.le_of_ble_eq_true rfl⟩ [] mv_X12_885 hd_X12_isRuleNamev kR_0 rfl rfl rfl (Nat.le_of_ble_eq_true rfl) dX12_readAtomOf_33 ⟨rfl, hF⟩ (fun r2 M3 gr2 qM3 => ?_)
    have hF := qM3 gr2
    refine j_if_ne hJ 43 (jz_ri gr2) dX12_readAtomOf_36 (by decide) (fun z4 => ?_) (fun z4 => ?_)
    · have hF := hF.1 z4
      exact j_sub hJ [1, 2, 0] rfl (k_X12_readAtomOf_b43 hin  hJ  x1 s0 _ gx1 gs0 hF)
    · have hF := hF.2 z4
      refine j_aload_n hJ dX12_readAtomOf_39 rfl 1 rfl ?_
      refine j_callVv hJ (c_X12_wrong (l := l) (D := D) (cy := cy) (ad := ad) hin) rfl om_1363 ⟨rfl, rfl, Nat.le_of_ble_eq_true rfl, Nat.le_of_ble_eq_true rfl⟩ [] mv_X12_664 hd_X12_wrongv kR_0 rfl rfl rfl (Nat.le_of_ble_eq_true rfl) dX12_readAtomOf_40 ⟨rfl, hF⟩ (fun M6 qM6 => ?_)
      have hF := qM6
      exact j_sub hJ [1, 2, 0] rfl (k_X12_readAtomOf_b43 hin  hJ  x1 s0 _ gx1 gs0 hF)
set_option maxHeartbeats 4000000 in
set_option maxRecDepth 100000 in
theorem k_X12_readAtomOf_b26 {l : Launch} {D : va_G} {cy : Nat → ClassId} {ad : Nat → Nat} {Q : Int → MM → Prop} {J : Nat → List (Nat × Value) → List Value → MM → Prop} (hin : jIn ad ksR.length)   (hJ : jOk l D vwCl (tyR cy) cy ad ftR ksR (XtR ad) Om RX12 cX12_readAtomOf 8 0 ({ frames := 7, cells := 0, slots := 0, locals := 156 } : Room) Q J)  : ∀ (x1 : Int) (M : MM), ri_ x1 → w_X12_readAtomOf_b26  Q  x1 M → J 26 [(0, .ref (ad 0)), (1, .int (Ii x1))] [] M := by
  intro x1 M gx1 hF
  unfold w_X12_readAtomOf_b26 at hF
  refine j_iconst hJ dX12_readAtomOf_26 ?_
  exact j_sub hJ [0, 1] rfl (k_X12_readAtomOf_b27 hin  hJ  x1 0 _ gx1 rk_0 hF)
set_option maxHeartbeats 4000000 in
set_option maxRecDepth 100000 in
theorem c_X12_readAtomOf {l : Launch} {D : va_G} {cy : Nat → ClassId} {ad : Nat → Nat} (hin : jIn ad ksR.length) : jCN l D vwCl (tyR cy) cy ad ftR ksR (XtR ad) yX12_readAtomOf (.code yX12_readAtomOf cX12_readAtomOf 8 none :: Om) ({ frames := 7, cells := 0, slots := 0, locals := 156 } : Room) 0 (W_X12_readAtomOf ad) := by
  refine jCN_of (y := yX12_readAtomOf) (cc := cX12_readAtomOf) (nL := 8) (rk := 0) (rm := ({ frames := 7, cells := 0, slots := 0, locals := 156 } : Room)) (own := RX12) (tyR_ok cy) hin (XtR_ok ad) Om_good (by decide) rfl ?_
  intro Q av M hF
  obtain ⟨p1, rfl, gp1, hF⟩ := hF
  refine ⟨Nat.le_of_ble_eq_true rfl, fun J hJ => ?_⟩
  show J 0 [(0, .ref (ad 0)), (1, .int (Ii p1))] [] M
  unfold w_X12_readAtomOf at hF
  refine j_aload_n hJ dX12_readAtomOf_0 rfl 0 rfl ?_
  refine j_gi hJ kR_0 fR_15_80 rfl fl_X12_644 dX12_readAtomOf_1 (fun v1 ev1 gv1 => ?_)
  have hF := hF v1 ev1 gv1
  refine j_iconst hJ dX12_readAtomOf_4 ?_
  refine j_icmp_ne hJ 26 gv1 rk_1 dX12_readAtomOf_5 (by decide) (fun z2 => ?_) (fun z2 => ?_)
  · have hF := hF.1 z2
    exact j_sub hJ [0, 1] rfl (k_X12_readAtomOf_b26 hin  hJ  p1 _ gp1 hF)
  · have hF := hF.2 z2
    refine j_aload_n hJ dX12_readAtomOf_8 rfl 0 rfl ?_
    refine j_gl hJ kR_0 fR_15_85 rfl fl_X12_640 dX12_readAtomOf_9 (fun v3 ev3 gv3 => ?_)
    have hF := hF v3 ev3 gv3
    refine j_ldc2 hJ 1818848875 om_1477 (by decide) dX12_readAtomOf_12 ?_
    refine j_callSl hJ (c_X12_coded (l := l) (D := D) (cy := cy) (ad := ad) hin) rfl om_1474 ⟨rfl, rfl, Nat.le_of_ble_eq_true rfl, Nat.le_of_ble_eq_true rfl⟩ [.long (Ll 1818848875)] mv_X12_384 hd_X12_coded rfl (Nat.le_of_ble_eq_true rfl) dX12_readAtomOf_15 ⟨1818848875, rfl, lk_1818848875, hF⟩ (fun r4 M5 gr4 qM5 => ?_)
    have hF := qM5 gr4
    refine j_lcmp_ne hJ 26 gv3 gr4 dX12_readAtomOf_18 dX12_readAtomOf_19 (by decide) (fun z6 => ?_) (fun z6 => ?_)
    · have hF := hF.1 z6
      exact j_sub hJ [0, 1] rfl (k_X12_readAtomOf_b26 hin  hJ  p1 _ gp1 hF)
    · have hF := hF.2 z6
      refine j_iconst hJ dX12_readAtomOf_22 ?_
      refine j_goto hJ 27 dX12_readAtomOf_23 (by decide) ?_
      exact j_sub hJ [0, 1] rfl (k_X12_readAtomOf_b27 hin  hJ  p1 1 _ gp1 rk_1 hF)
def W_X12_readRule (ad : Nat → Nat) (Q : Int → MM → Prop) (av : List Value) (M : MM) : Prop := av = [.ref (ad 0)] ∧ w_X12_readRule  Q  M
set_option maxHeartbeats 4000000 in
set_option maxRecDepth 100000 in
theorem k_X12_readRule_b257 {l : Launch} {D : va_G} {cy : Nat → ClassId} {ad : Nat → Nat} {Q : Int → MM → Prop} {J : Nat → List (Nat × Value) → List Value → MM → Prop} (hin : jIn ad ksR.length)   (hJ : jOk l D vwCl (tyR cy) cy ad ftR ksR (XtR ad) Om RX12 cX12_readRule 4 0 ({ frames := 8, cells := 0, slots := 0, locals := 183 } : Room) Q J)  : ∀ (x1 : Int) (M : MM), ri_ x1 → w_X12_readRule_b257  Q  x1 M → J 257 [(0, .ref (ad 0)), (1, .int (Ii x1))] [] M := by
  intro x1 M gx1 hF
  unfold w_X12_readRule_b257 at hF
  refine j_aload_n hJ dX12_readRule_257 rfl 0 rfl ?_
  refine j_ldc2 hJ 59 om_1499 (by decide) dX12_readRule_258 ?_
  refine j_callVv hJ (c_X12_needSign (l := l) (D := D) (cy := cy) (ad := ad) hin) rfl om_1428 ⟨rfl, rfl, Nat.le_of_ble_eq_true rfl, Nat.le_of_ble_eq_true rfl⟩ [.long (Ll 59)] mv_X12_748 hd_X12_needSignv kR_0 rfl rfl rfl (Nat.le_of_ble_eq_true rfl) dX12_readRule_261 ⟨59, rfl, lk_59, hF⟩ (fun M2 qM2 => ?_)
  have hF := qM2
  refine j_aload_n hJ dX12_readRule_264 rfl 0 rfl ?_
  refine j_gr (e := 92) hJ kR_0 fR_15_127 fl_X12_351 dX12_readRule_265 rfl ?_
  refine j_iload_n hJ dX12_readRule_268 rfl 1 rfl ?_
  refine j_aload_n hJ dX12_readRule_269 rfl 0 rfl ?_
  refine j_gi hJ kR_0 fR_15_135 rfl fl_X12_888 dX12_readRule_270 (fun v3 ev3 gv3 => ?_)
  have hF := hF v3 ev3 gv3
  refine j_iast hJ gx1 gv3 kR_92 hF.1 hF.2.1 dX12_readRule_273 (fun M4 eM4 => ?_)
  have hF := hF.2.2 M4 eM4
  refine j_aload_n hJ dX12_readRule_274 rfl 0 rfl ?_
  refine j_dup hJ dX12_readRule_275 rfl ?_
  refine j_gi hJ kR_0 fR_15_134 rfl fl_X12_908 dX12_readRule_276 (fun v5 ev5 gv5 => ?_)
  have hF := hF v5 ev5 gv5
  refine j_iconst hJ dX12_readRule_279 ?_
  refine j_iadd hJ dX12_readRule_280 ?_
  have g6 := hF.1; have hF := hF.2
  refine j_pi hJ g6 kR_0 fR_15_134 rfl fp_X12_908 dX12_readRule_281 (fun M7 eM7 => ?_)
  have hF := hF M7 eM7
  exact j_vret hJ rfl dX12_readRule_284 hF
set_option maxHeartbeats 4000000 in
set_option maxRecDepth 100000 in
theorem k_X12_readRule_b248 {l : Launch} {D : va_G} {cy : Nat → ClassId} {ad : Nat → Nat} {Q : Int → MM → Prop} {J : Nat → List (Nat × Value) → List Value → MM → Prop} (hin : jIn ad ksR.length)   (hJ : jOk l D vwCl (tyR cy) cy ad ftR ksR (XtR ad) Om RX12 cX12_readRule 4 0 ({ frames := 8, cells := 0, slots := 0, locals := 183 } : Room) Q J)  : ∀ (x1 : Int) (M : MM), ri_ x1 → w_X12_readRule_b248  Q  x1 M → J 248 [(0, .ref (ad 0)), (1, .int (Ii x1))] [] M := by
  intro x1 M gx1 hF
  unfold w_X12_readRule_b248 at hF
  refine j_aload_n hJ dX12_readRule_248 rfl 0 rfl ?_
  refine j_iconst hJ dX12_readRule_249 ?_
  refine j_aload_n hJ dX12_readRule_250 rfl 0 rfl ?_
  refine j_gi hJ kR_0 fR_15_79 rfl fl_X12_637 dX12_readRule_251 (fun v1 ev1 gv1 => ?_)
  have hF := hF v1 ev1 gv1
  refine j_callVv hJ (c_X12_fail (l := l) (D := D) (cy := cy) (ad := ad) hin) rfl om_1351 ⟨rfl, rfl, Nat.le_of_ble_eq_true rfl, Nat.le_of_ble_eq_true rfl⟩ [.int (Ii 3), .int (Ii v1)] mv_X12_653 hd_X12_failv kR_0 rfl rfl rfl (Nat.le_of_ble_eq_true rfl) dX12_readRule_254 ⟨3, v1, rfl, rk_3, gv1, hF⟩ (fun M3 qM3 => ?_)
  have hF := qM3
  exact j_sub hJ [0, 1] rfl (k_X12_readRule_b257 hin  hJ  x1 _ gx1 hF)
set_option maxHeartbeats 4000000 in
set_option maxRecDepth 100000 in
theorem k_X12_readRule_b193 {l : Launch} {D : va_G} {cy : Nat → ClassId} {ad : Nat → Nat} {Q : Int → MM → Prop} {J : Nat → List (Nat × Value) → List Value → MM → Prop} (hin : jIn ad ksR.length)   (hJ : jOk l D vwCl (tyR cy) cy ad ftR ksR (XtR ad) Om RX12 cX12_readRule 4 0 ({ frames := 8, cells := 0, slots := 0, locals := 183 } : Room) Q J)  : ∀ (x1 : Int) (M : MM), ri_ x1 → w_X12_readRule_b193  Q  x1 M → J 193 [(0, .ref (ad 0)), (1, .int (Ii x1))] [] M := by
  intro x1 M gx1 hF
  unfold w_X12_readRule_b193 at hF
  refine j_aload_n hJ dX12_readRule_193 rfl 0 rfl ?_
  refine j_gi hJ kR_0 fR_15_83 rfl fl_X12_625 dX12_readRule_194 (fun v1 ev1 gv1 => ?_)
  have hF := hF v1 ev1 gv1
  refine j_if_ne hJ 257 gv1 dX12_readRule_197 (by decide) (fun z2 => ?_) (fun z2 => ?_)
  · have hF := hF.1 z2
    exact j_sub hJ [0, 1] rfl (k_X12_readRule_b257 hin  hJ  x1 _ gx1 hF)
  · have hF := hF.2 z2
    refine j_aload_n hJ dX12_readRule_200 rfl 0 rfl ?_
    refine j_ldc2 hJ 59 om_1499 (by decide) dX12_readRule_201 ?_
    refine j_callVz hJ (c_X12_isSign (l := l) (D := D) (cy := cy) (ad := ad) hin) rfl om_1359 ⟨rfl, rfl, Nat.le_of_ble_eq_true rfl, Nat.le_of_ble_eq_true rfl⟩ [.long (Ll 59)] mv_X12_657 hd_X12_isSignv kR_0 rfl rfl rfl (Nat.le_of_ble_eq_true rfl) dX12_readRule_204 ⟨59, rfl, lk_59, hF⟩ (fun r3 M4 gr3 qM4 => ?_)
    have hF := qM4 gr3
    refine j_if_eq hJ 257 (jz_ri gr3) dX12_readRule_207 (by decide) (fun z5 => ?_) (fun z5 => ?_)
    · have hF := hF.1 z5
      exact j_sub hJ [0, 1] rfl (k_X12_readRule_b257 hin  hJ  x1 _ gx1 hF)
    · have hF := hF.2 z5
      refine j_aload_n hJ dX12_readRule_210 rfl 0 rfl ?_
      refine j_iload_n hJ dX12_readRule_211 rfl 1 rfl ?_
      refine j_aload_n hJ dX12_readRule_212 rfl 0 rfl ?_
      refine j_gr (e := 85) hJ kR_0 fR_15_120 fl_X12_330 dX12_readRule_213 rfl ?_
      refine j_iload_n hJ dX12_readRule_216 rfl 1 rfl ?_
      refine j_iald hJ gx1 kR_85 hF.1 hF.2.1 dX12_readRule_217 (fun v6 ev6 gv6 => ?_)
      have hF := hF.2.2 v6 ev6 gv6
      refine j_callVz hJ (c_X12_isHeld (l := l) (D := D) (cy := cy) (ad := ad) hin) rfl om_1500 ⟨rfl, rfl, Nat.le_of_ble_eq_true rfl, Nat.le_of_ble_eq_true rfl⟩ [.int (Ii x1), .int (Ii v6)] mv_X12_923 hd_X12_isHeldv kR_0 rfl rfl rfl (Nat.le_of_ble_eq_true rfl) dX12_readRule_218 ⟨x1, v6, rfl, gx1, gv6, hF⟩ (fun r7 M8 gr7 qM8 => ?_)
      have hF := qM8 gr7
      refine j_if_eq hJ 248 (jz_ri gr7) dX12_readRule_221 (by decide) (fun z9 => ?_) (fun z9 => ?_)
      · have hF := hF.1 z9
        exact j_sub hJ [0, 1] rfl (k_X12_readRule_b248 hin  hJ  x1 _ gx1 hF)
      · have hF := hF.2 z9
        refine j_aload_n hJ dX12_readRule_224 rfl 0 rfl ?_
        refine j_gr (e := 86) hJ kR_0 fR_15_121 fl_X12_333 dX12_readRule_225 rfl ?_
        refine j_iload_n hJ dX12_readRule_228 rfl 1 rfl ?_
        refine j_iald hJ gx1 kR_86 hF.1 hF.2.1 dX12_readRule_229 (fun v10 ev10 gv10 => ?_)
        have hF := hF.2.2 v10 ev10 gv10
        refine j_iconst hJ dX12_readRule_230 ?_
        refine j_icmp_eq hJ 257 gv10 rk_m1 dX12_readRule_231 (by decide) (fun z11 => ?_) (fun z11 => ?_)
        · have hF := hF.1 z11
          exact j_sub hJ [0, 1] rfl (k_X12_readRule_b257 hin  hJ  x1 _ gx1 hF)
        · have hF := hF.2 z11
          refine j_aload_n hJ dX12_readRule_234 rfl 0 rfl ?_
          refine j_iload_n hJ dX12_readRule_235 rfl 1 rfl ?_
          refine j_aload_n hJ dX12_readRule_236 rfl 0 rfl ?_
          refine j_gr (e := 86) hJ kR_0 fR_15_121 fl_X12_333 dX12_readRule_237 rfl ?_
          refine j_iload_n hJ dX12_readRule_240 rfl 1 rfl ?_
          refine j_iald hJ gx1 kR_86 hF.1 hF.2.1 dX12_readRule_241 (fun v12 ev12 gv12 => ?_)
          have hF := hF.2.2 v12 ev12 gv12
          refine j_callVz hJ (c_X12_isHeld (l := l) (D := D) (cy := cy) (ad := ad) hin) rfl om_1500 ⟨rfl, rfl, Nat.le_of_ble_eq_true rfl, Nat.le_of_ble_eq_true rfl⟩ [.int (Ii x1), .int (Ii v12)] mv_X12_923 hd_X12_isHeldv kR_0 rfl rfl rfl (Nat.le_of_ble_eq_true rfl) dX12_readRule_242 ⟨x1, v12, rfl, gx1, gv12, hF⟩ (fun r13 M14 gr13 qM14 => ?_)
          have hF := qM14 gr13
          refine j_if_ne hJ 257 (jz_ri gr13) dX12_readRule_245 (by decide) (fun z15 => ?_) (fun z15 => ?_)
          · have hF := hF.1 z15
            exact j_sub hJ [0, 1] rfl (k_X12_readRule_b257 hin  hJ  x1 _ gx1 hF)
          · have hF := hF.2 z15
            exact j_sub hJ [0, 1] rfl (k_X12_readRule_b248 hin  hJ  x1 _ gx1 hF)
set_option maxHeartbeats 4000000 in
set_option maxRecDepth 100000 in
theorem k_X12_readRule_b166 {l : Launch} {D : va_G} {cy : Nat → ClassId} {ad : Nat → Nat} {Q : Int → MM → Prop} {J : Nat → List (Nat × Value) → List Value → MM → Prop} (hin : jIn ad ksR.length)   (hJ : jOk l D vwCl (tyR cy) cy ad ftR ksR (XtR ad) Om RX12 cX12_readRule 4 0 ({ frames := 8, cells := 0, slots := 0, locals := 183 } : Room) Q J)  : ∀ (x1 x3 : Int) (M : MM), ri_ x1 → ri_ x3 → w_X12_readRule_b166  Q  x1 x3 M → J 166 [(0, .ref (ad 0)), (1, .int (Ii x1)), (3, .int (Ii x3))] [] M := by
  have H9 : ∀ (n : Nat) (x1 x3 : Int) (M : MM), ri_ x1 → ri_ x3 → jit (fun _ _ _ => False) (wb_X12_readRule_b166  Q ) n x1 x3 M → J 166 [(0, .ref (ad 0)), (1, .int (Ii x1)), (3, .int (Ii x3))] [] M := by
    intro n
    induction n with
    | zero => intro x1 x3 M gx1 gx3 hF; exact False.elim hF
    | succ n ih =>
    intro x1 x3 M gx1 gx3 hF
    have hF : wb_X12_readRule_b166  Q  (jit (fun _ _ _ => False) (wb_X12_readRule_b166  Q ) n) x1 x3 M := hF
    unfold wb_X12_readRule_b166 at hF
    refine j_iload_n hJ dX12_readRule_166 rfl 2 rfl ?_
    refine j_if_eq hJ 193 gx3 dX12_readRule_167 (by decide) (fun z1 => ?_) (fun z1 => ?_)
    · have hF := hF.1 z1
      exact j_sub hJ [0, 1] rfl (k_X12_readRule_b193 hin  hJ  x1 _ gx1 hF)
    · have hF := hF.2 z1
      refine j_aload_n hJ dX12_readRule_170 rfl 0 rfl ?_
      refine j_gi hJ kR_0 fR_15_83 rfl fl_X12_625 dX12_readRule_171 (fun v2 ev2 gv2 => ?_)
      have hF := hF v2 ev2 gv2
      refine j_if_ne hJ 193 gv2 dX12_readRule_174 (by decide) (fun z3 => ?_) (fun z3 => ?_)
      · have hF := hF.1 z3
        exact j_sub hJ [0, 1] rfl (k_X12_readRule_b193 hin  hJ  x1 _ gx1 hF)
      · have hF := hF.2 z3
        refine j_aload_n hJ dX12_readRule_177 rfl 0 rfl ?_
        refine j_iload_n hJ dX12_readRule_178 rfl 1 rfl ?_
        refine j_callVv hJ (c_X12_readAtomOf (l := l) (D := D) (cy := cy) (ad := ad) hin) rfl om_1508 ⟨rfl, rfl, Nat.le_of_ble_eq_true rfl, Nat.le_of_ble_eq_true rfl⟩ [.int (Ii x1)] mv_X12_918 hd_X12_readAtomOfv kR_0 rfl rfl rfl (Nat.le_of_ble_eq_true rfl) dX12_readRule_179 ⟨x1, rfl, gx1, hF⟩ (fun M5 qM5 => ?_)
        have hF := qM5
        refine j_aload_n hJ dX12_readRule_182 rfl 0 rfl ?_
        refine j_ldc2 hJ 44 om_1486 (by decide) dX12_readRule_183 ?_
        refine j_callVz hJ (c_X12_takesSign (l := l) (D := D) (cy := cy) (ad := ad) hin) rfl om_1487 ⟨rfl, rfl, Nat.le_of_ble_eq_true rfl, Nat.le_of_ble_eq_true rfl⟩ [.long (Ll 44)] mv_X12_902 hd_X12_takesSignv kR_0 rfl rfl rfl (Nat.le_of_ble_eq_true rfl) dX12_readRule_186 ⟨44, rfl, lk_44, hF⟩ (fun r6 M7 gr6 qM7 => ?_)
        have hF := qM7 gr6
        refine j_istore_n (lv' := [(3, .int (Ii r6)), (0, .ref (ad 0)), (1, .int (Ii x1))]) hJ dX12_readRule_189 rfl (by decide) rfl ?_
        refine j_goto hJ 166 dX12_readRule_190 (by decide) ?_
        exact j_sub hJ [1, 2, 0] rfl (ih x1 r6 _ gx1 (jz_ri gr6) hF)
  intro x1 x3 M gx1 gx3 hF
  obtain ⟨n, hF⟩ := hF
  exact H9 n x1 x3 M gx1 gx3 hF
set_option maxHeartbeats 4000000 in
set_option maxRecDepth 100000 in
theorem k_X12_readRule_b157 {l : Launch} {D : va_G} {cy : Nat → ClassId} {ad : Nat → Nat} {Q : Int → MM → Prop} {J : Nat → List (Nat × Value) → List Value → MM → Prop} (hin : jIn ad ksR.length)   (hJ : jOk l D vwCl (tyR cy) cy ad ftR ksR (XtR ad) Om RX12 cX12_readRule 4 0 ({ frames := 8, cells := 0, slots := 0, locals := 183 } : Room) Q J)  : ∀ (x1 : Int) (M : MM), ri_ x1 → w_X12_readRule_b157  Q  x1 M → J 157 [(0, .ref (ad 0)), (1, .int (Ii x1))] [] M := by
  intro x1 M gx1 hF
  unfold w_X12_readRule_b157 at hF
  refine j_aload_n hJ dX12_readRule_157 rfl 0 rfl ?_
  refine j_gr (e := 87) hJ kR_0 fR_15_122 fl_X12_336 dX12_readRule_158 rfl ?_
  refine j_iload_n hJ dX12_readRule_161 rfl 1 rfl ?_
  refine j_iconst hJ dX12_readRule_162 ?_
  refine j_iast hJ gx1 rk_0 kR_87 hF.1 hF.2.1 dX12_readRule_163 (fun M1 eM1 => ?_)
  have hF := hF.2.2 M1 eM1
  refine j_iconst hJ dX12_readRule_164 ?_
  refine j_istore_n (lv' := [(3, .int (Ii 1)), (0, .ref (ad 0)), (1, .int (Ii x1))]) hJ dX12_readRule_165 rfl (by decide) rfl ?_
  exact j_sub hJ [1, 2, 0] rfl (k_X12_readRule_b166 hin  hJ  x1 1 _ gx1 rk_1 hF)
set_option maxHeartbeats 4000000 in
set_option maxRecDepth 100000 in
theorem k_X12_readRule_b146 {l : Launch} {D : va_G} {cy : Nat → ClassId} {ad : Nat → Nat} {Q : Int → MM → Prop} {J : Nat → List (Nat × Value) → List Value → MM → Prop} (hin : jIn ad ksR.length)   (hJ : jOk l D vwCl (tyR cy) cy ad ftR ksR (XtR ad) Om RX12 cX12_readRule 4 0 ({ frames := 8, cells := 0, slots := 0, locals := 183 } : Room) Q J)  : ∀ (x1 : Int) (M : MM), ri_ x1 → w_X12_readRule_b146  Q  x1 M → J 146 [(0, .ref (ad 0)), (1, .int (Ii x1))] [] M := by
  intro x1 M gx1 hF
  unfold w_X12_readRule_b146 at hF
  refine j_aload_n hJ dX12_readRule_146 rfl 0 rfl ?_
  refine j_gi hJ kR_0 fR_15_83 rfl fl_X12_625 dX12_readRule_147 (fun v1 ev1 gv1 => ?_)
  have hF := hF v1 ev1 gv1
  refine j_if_ne hJ 157 gv1 dX12_readRule_150 (by decide) (fun z2 => ?_) (fun z2 => ?_)
  · have hF := hF.1 z2
    exact j_sub hJ [0, 1] rfl (k_X12_readRule_b157 hin  hJ  x1 _ gx1 hF)
  · have hF := hF.2 z2
    refine j_aload_n hJ dX12_readRule_153 rfl 0 rfl ?_
    refine j_callVv hJ (c_X12_advance (l := l) (D := D) (cy := cy) (ad := ad) hin) rfl om_1355 ⟨rfl, rfl, Nat.le_of_ble_eq_true rfl, Nat.le_of_ble_eq_true rfl⟩ [] mv_X12_661 hd_X12_advancev kR_0 rfl rfl rfl (Nat.le_of_ble_eq_true rfl) dX12_readRule_154 ⟨rfl, hF⟩ (fun M4 qM4 => ?_)
    have hF := qM4
    exact j_sub hJ [0, 1] rfl (k_X12_readRule_b157 hin  hJ  x1 _ gx1 hF)
set_option maxHeartbeats 4000000 in
set_option maxRecDepth 100000 in
theorem k_X12_readRule_b142 {l : Launch} {D : va_G} {cy : Nat → ClassId} {ad : Nat → Nat} {Q : Int → MM → Prop} {J : Nat → List (Nat × Value) → List Value → MM → Prop} (hin : jIn ad ksR.length)   (hJ : jOk l D vwCl (tyR cy) cy ad ftR ksR (XtR ad) Om RX12 cX12_readRule 4 0 ({ frames := 8, cells := 0, slots := 0, locals := 183 } : Room) Q J)  : ∀ (x1 : Int) (M : MM), ri_ x1 → w_X12_readRule_b142  Q  x1 M → J 142 [(0, .ref (ad 0)), (1, .int (Ii x1))] [] M := by
  intro x1 M gx1 hF
  unfold w_X12_readRule_b142 at hF
  refine j_aload_n hJ dX12_readRule_142 rfl 0 rfl ?_
  refine j_callVv hJ (c_X12_wrong (l := l) (D := D) (cy := cy) (ad := ad) hin) rfl om_1363 ⟨rfl, rfl, Nat.le_of_ble_eq_true rfl, Nat.le_of_ble_eq_true rfl⟩ [] mv_X12_664 hd_X12_wrongv kR_0 rfl rfl rfl (Nat.le_of_ble_eq_true rfl) dX12_readRule_143 ⟨rfl, hF⟩ (fun M2 qM2 => ?_)
  have hF := qM2
  exact j_sub hJ [0, 1] rfl (k_X12_readRule_b146 hin  hJ  x1 _ gx1 hF)
set_option maxHeartbeats 4000000 in
set_option maxRecDepth 100000 in
theorem k_X12_readRule_b36 {l : Launch} {D : va_G} {cy : Nat → ClassId} {ad : Nat → Nat} {Q : Int → MM → Prop} {J : Nat → List (Nat × Value) → List Value → MM → Prop} (hin : jIn ad ksR.length)   (hJ : jOk l D vwCl (tyR cy) cy ad ftR ksR (XtR ad) Om RX12 cX12_readRule 4 0 ({ frames := 8, cells := 0, slots := 0, locals := 183 } : Room) Q J)  : ∀ (M : MM), w_X12_readRule_b36  Q   M → J 36 [(0, .ref (ad 0))] [] M := by
  intro  M  hF
  unfold w_X12_readRule_b36 at hF
  refine j_aload_n hJ dX12_readRule_36 rfl 0 rfl ?_
  refine j_gi hJ kR_0 fR_15_83 rfl fl_X12_625 dX12_readRule_37 (fun v1 ev1 gv1 => ?_)
  have hF := hF v1 ev1 gv1
  refine j_if_le hJ 44 gv1 dX12_readRule_40 (by decide) (fun z2 => ?_) (fun z2 => ?_)
  · have hF := hF.1 z2
    refine j_aload_n hJ dX12_readRule_44 rfl 0 rfl ?_
    refine j_gi hJ kR_0 fR_15_134 rfl fl_X12_908 dX12_readRule_45 (fun v3 ev3 gv3 => ?_)
    have hF := hF v3 ev3 gv3
    refine j_istore_n (lv' := [(1, .int (Ii v3)), (0, .ref (ad 0))]) hJ dX12_readRule_48 rfl (by decide) rfl ?_
    refine j_aload_n hJ dX12_readRule_49 rfl 1 rfl ?_
    refine j_gi hJ kR_0 fR_15_79 rfl fl_X12_637 dX12_readRule_50 (fun v4 ev4 gv4 => ?_)
    have hF := hF v4 ev4 gv4
    refine j_istore_n (lv' := [(2, .int (Ii v4)), (1, .int (Ii v3)), (0, .ref (ad 0))]) hJ dX12_readRule_53 rfl (by decide) rfl ?_
    refine j_aload_n hJ dX12_readRule_54 rfl 2 rfl ?_
    refine j_iconst hJ dX12_readRule_55 ?_
    refine j_pi hJ rk_0 kR_0 fR_15_135 rfl fp_X12_888 dX12_readRule_56 (fun M5 eM5 => ?_)
    have hF := hF M5 eM5
    refine j_aload_n hJ dX12_readRule_59 rfl 2 rfl ?_
    refine j_gr (e := 84) hJ kR_0 fR_15_119 fl_X12_327 dX12_readRule_60 rfl ?_
    refine j_iload_n hJ dX12_readRule_63 rfl 1 rfl ?_
    refine j_aload_n hJ dX12_readRule_64 rfl 2 rfl ?_
    refine j_callVi hJ (c_X12_relationAtHand (l := l) (D := D) (cy := cy) (ad := ad) hin) rfl om_1491 ⟨rfl, rfl, Nat.le_of_ble_eq_true rfl, Nat.le_of_ble_eq_true rfl⟩ [] mv_X12_911 hd_X12_relationAtHandv kR_0 rfl rfl rfl (Nat.le_of_ble_eq_true rfl) dX12_readRule_65 ⟨rfl, hF⟩ (fun r6 M7 gr6 qM7 => ?_)
    have hF := qM7 gr6
    refine j_iast hJ gv3 gr6 kR_84 hF.1 hF.2.1 dX12_readRule_68 (fun M8 eM8 => ?_)
    have hF := hF.2.2 M8 eM8
    refine j_aload_n hJ dX12_readRule_69 rfl 2 rfl ?_
    refine j_gi hJ kR_0 fR_15_83 rfl fl_X12_625 dX12_readRule_70 (fun v9 ev9 gv9 => ?_)
    have hF := hF v9 ev9 gv9
    refine j_if_le hJ 77 gv9 dX12_readRule_73 (by decide) (fun z10 => ?_) (fun z10 => ?_)
    · have hF := hF.1 z10
      refine j_aload_n hJ dX12_readRule_77 rfl 2 rfl ?_
      refine j_callVv hJ (c_X12_advance (l := l) (D := D) (cy := cy) (ad := ad) hin) rfl om_1355 ⟨rfl, rfl, Nat.le_of_ble_eq_true rfl, Nat.le_of_ble_eq_true rfl⟩ [] mv_X12_661 hd_X12_advancev kR_0 rfl rfl rfl (Nat.le_of_ble_eq_true rfl) dX12_readRule_78 ⟨rfl, hF⟩ (fun M12 qM12 => ?_)
      have hF := qM12
      refine j_aload_n hJ dX12_readRule_81 rfl 2 rfl ?_
      refine j_aload_n hJ dX12_readRule_82 rfl 2 rfl ?_
      refine j_gr (e := 84) hJ kR_0 fR_15_119 fl_X12_327 dX12_readRule_83 rfl ?_
      refine j_iload_n hJ dX12_readRule_86 rfl 1 rfl ?_
      refine j_iald hJ gv3 kR_84 hF.1 hF.2.1 dX12_readRule_87 (fun v13 ev13 gv13 => ?_)
      have hF := hF.2.2 v13 ev13 gv13
      refine j_iload_n hJ dX12_readRule_88 rfl 0 rfl ?_
      refine j_iconst hJ dX12_readRule_89 ?_
      refine j_callVv hJ (c_X12_readPlaces (l := l) (D := D) (cy := cy) (ad := ad) hin) rfl om_1495 ⟨rfl, rfl, Nat.le_of_ble_eq_true rfl, Nat.le_of_ble_eq_true rfl⟩ [.int (Ii v13), .int (Ii v4), .int (Ii 0)] mv_X12_914 hd_X12_readPlacesv kR_0 rfl rfl rfl (Nat.le_of_ble_eq_true rfl) dX12_readRule_90 ⟨v13, v4, 0, rfl, gv13, gv4, (by decide), hF⟩ (fun M15 qM15 => ?_)
      have hF := qM15
      refine j_aload_n hJ dX12_readRule_93 rfl 2 rfl ?_
      refine j_gr (e := 85) hJ kR_0 fR_15_120 fl_X12_330 dX12_readRule_94 rfl ?_
      refine j_iload_n hJ dX12_readRule_97 rfl 1 rfl ?_
      refine j_aload_n hJ dX12_readRule_98 rfl 2 rfl ?_
      refine j_gi hJ kR_0 fR_15_136 rfl fl_X12_894 dX12_readRule_99 (fun v16 ev16 gv16 => ?_)
      have hF := hF v16 ev16 gv16
      refine j_iast hJ gv3 gv16 kR_85 hF.1 hF.2.1 dX12_readRule_102 (fun M17 eM17 => ?_)
      have hF := hF.2.2 M17 eM17
      refine j_aload_n hJ dX12_readRule_103 rfl 2 rfl ?_
      refine j_gr (e := 86) hJ kR_0 fR_15_121 fl_X12_333 dX12_readRule_104 rfl ?_
      refine j_iload_n hJ dX12_readRule_107 rfl 1 rfl ?_
      refine j_aload_n hJ dX12_readRule_108 rfl 2 rfl ?_
      refine j_gi hJ kR_0 fR_15_137 rfl fl_X12_897 dX12_readRule_109 (fun v18 ev18 gv18 => ?_)
      have hF := hF v18 ev18 gv18
      refine j_iast hJ gv3 gv18 kR_86 hF.1 hF.2.1 dX12_readRule_112 (fun M19 eM19 => ?_)
      have hF := hF.2.2 M19 eM19
      refine j_aload_n hJ dX12_readRule_113 rfl 2 rfl ?_
      refine j_gi hJ kR_0 fR_15_83 rfl fl_X12_625 dX12_readRule_114 (fun v20 ev20 gv20 => ?_)
      have hF := hF v20 ev20 gv20
      refine j_if_ne hJ 146 gv20 dX12_readRule_117 (by decide) (fun z21 => ?_) (fun z21 => ?_)
      · have hF := hF.1 z21
        exact j_sub hJ [2, 1] rfl (k_X12_readRule_b146 hin  hJ  v3 _ gv3 hF)
      · have hF := hF.2 z21
        refine j_aload_n hJ dX12_readRule_120 rfl 2 rfl ?_
        refine j_gi hJ kR_0 fR_15_80 rfl fl_X12_644 dX12_readRule_121 (fun v22 ev22 gv22 => ?_)
        have hF := hF v22 ev22 gv22
        refine j_iconst hJ dX12_readRule_124 ?_
        refine j_icmp_ne hJ 142 gv22 rk_1 dX12_readRule_125 (by decide) (fun z23 => ?_) (fun z23 => ?_)
        · have hF := hF.1 z23
          exact j_sub hJ [2, 1] rfl (k_X12_readRule_b142 hin  hJ  v3 _ gv3 hF)
        · have hF := hF.2 z23
          refine j_aload_n hJ dX12_readRule_128 rfl 2 rfl ?_
          refine j_gl hJ kR_0 fR_15_85 rfl fl_X12_640 dX12_readRule_129 (fun v24 ev24 gv24 => ?_)
          have hF := hF v24 ev24 gv24
          refine j_ldc2 hJ 26982 om_1473 (by decide) dX12_readRule_132 ?_
          refine j_callSl hJ (c_X12_coded (l := l) (D := D) (cy := cy) (ad := ad) hin) rfl om_1474 ⟨rfl, rfl, Nat.le_of_ble_eq_true rfl, Nat.le_of_ble_eq_true rfl⟩ [.long (Ll 26982)] mv_X12_384 hd_X12_coded rfl (Nat.le_of_ble_eq_true rfl) dX12_readRule_135 ⟨26982, rfl, lk_26982, hF⟩ (fun r25 M26 gr25 qM26 => ?_)
          have hF := qM26 gr25
          refine j_lcmp_eq hJ 146 gv24 gr25 dX12_readRule_138 dX12_readRule_139 (by decide) (fun z27 => ?_) (fun z27 => ?_)
          · have hF := hF.1 z27
            exact j_sub hJ [2, 1] rfl (k_X12_readRule_b146 hin  hJ  v3 _ gv3 hF)
          · have hF := hF.2 z27
            exact j_sub hJ [2, 1] rfl (k_X12_readRule_b142 hin  hJ  v3 _ gv3 hF)
    · have hF := hF.2 z10
      exact j_vret hJ rfl dX12_readRule_76 hF
  · have hF := hF.2 z2
    exact j_vret hJ rfl dX12_readRule_43 hF
set_option maxHeartbeats 4000000 in
set_option maxRecDepth 100000 in
theorem k_X12_readRule_b11 {l : Launch} {D : va_G} {cy : Nat → ClassId} {ad : Nat → Nat} {Q : Int → MM → Prop} {J : Nat → List (Nat × Value) → List Value → MM → Prop} (hin : jIn ad ksR.length)   (hJ : jOk l D vwCl (tyR cy) cy ad ftR ksR (XtR ad) Om RX12 cX12_readRule 4 0 ({ frames := 8, cells := 0, slots := 0, locals := 183 } : Room) Q J)  : ∀ (M : MM), w_X12_readRule_b11  Q   M → J 11 [(0, .ref (ad 0))] [] M := by
  intro  M  hF
  unfold w_X12_readRule_b11 at hF
  refine j_aload_n hJ dX12_readRule_11 rfl 0 rfl ?_
  refine j_gi hJ kR_0 fR_15_83 rfl fl_X12_625 dX12_readRule_12 (fun v1 ev1 gv1 => ?_)
  have hF := hF v1 ev1 gv1
  refine j_if_ne hJ 36 gv1 dX12_readRule_15 (by decide) (fun z2 => ?_) (fun z2 => ?_)
  · have hF := hF.1 z2
    exact j_sub hJ [0] rfl (k_X12_readRule_b36 hin  hJ   _  hF)
  · have hF := hF.2 z2
    refine j_aload_n hJ dX12_readRule_18 rfl 0 rfl ?_
    refine j_gi hJ kR_0 fR_15_134 rfl fl_X12_908 dX12_readRule_19 (fun v3 ev3 gv3 => ?_)
    have hF := hF v3 ev3 gv3
    refine j_bipush hJ dX12_readRule_22 (by decide) ?_
    refine j_icmp_ne hJ 36 gv3 rk_12 dX12_readRule_24 (by decide) (fun z4 => ?_) (fun z4 => ?_)
    · have hF := hF.1 z4
      exact j_sub hJ [0] rfl (k_X12_readRule_b36 hin  hJ   _  hF)
    · have hF := hF.2 z4
      refine j_aload_n hJ dX12_readRule_27 rfl 0 rfl ?_
      refine j_iconst hJ dX12_readRule_28 ?_
      refine j_aload_n hJ dX12_readRule_29 rfl 0 rfl ?_
      refine j_gi hJ kR_0 fR_15_79 rfl fl_X12_637 dX12_readRule_30 (fun v5 ev5 gv5 => ?_)
      have hF := hF v5 ev5 gv5
      refine j_callVv hJ (c_X12_fail (l := l) (D := D) (cy := cy) (ad := ad) hin) rfl om_1351 ⟨rfl, rfl, Nat.le_of_ble_eq_true rfl, Nat.le_of_ble_eq_true rfl⟩ [.int (Ii 4), .int (Ii v5)] mv_X12_653 hd_X12_failv kR_0 rfl rfl rfl (Nat.le_of_ble_eq_true rfl) dX12_readRule_33 ⟨4, v5, rfl, rk_4, gv5, hF⟩ (fun M7 qM7 => ?_)
      have hF := qM7
      exact j_sub hJ [0] rfl (k_X12_readRule_b36 hin  hJ   _  hF)
set_option maxHeartbeats 4000000 in
set_option maxRecDepth 100000 in
theorem c_X12_readRule {l : Launch} {D : va_G} {cy : Nat → ClassId} {ad : Nat → Nat} (hin : jIn ad ksR.length) : jCN l D vwCl (tyR cy) cy ad ftR ksR (XtR ad) yX12_readRule (.code yX12_readRule cX12_readRule 4 none :: Om) ({ frames := 8, cells := 0, slots := 0, locals := 183 } : Room) 0 (W_X12_readRule ad) := by
  refine jCN_of (y := yX12_readRule) (cc := cX12_readRule) (nL := 4) (rk := 0) (rm := ({ frames := 8, cells := 0, slots := 0, locals := 183 } : Room)) (own := RX12) (tyR_ok cy) hin (XtR_ok ad) Om_good (by decide) rfl ?_
  intro Q av M hF
  obtain ⟨rfl, hF⟩ := hF
  refine ⟨Nat.le_of_ble_eq_true rfl, fun J hJ => ?_⟩
  show J 0 [(0, .ref (ad 0))] [] M
  unfold w_X12_readRule at hF
  refine j_aload_n hJ dX12_readRule_0 rfl 0 rfl ?_
  refine j_callVz hJ (c_X12_isRuleName (l := l) (D := D) (cy := cy) (ad := ad) hin) rfl om_1478 ⟨rfl, rfl, Nat.le_of_ble_eq_true rfl, Nat.le_of_ble_eq_true rfl⟩ [] mv_X12_885 hd_X12_isRuleNamev kR_0 rfl rfl rfl (Nat.le_of_ble_eq_true rfl) dX12_readRule_1 ⟨rfl, hF⟩ (fun r1 M2 gr1 qM2 => ?_)
  have hF := qM2 gr1
  refine j_if_ne hJ 11 (jz_ri gr1) dX12_readRule_4 (by decide) (fun z3 => ?_) (fun z3 => ?_)
  · have hF := hF.1 z3
    exact j_sub hJ [0] rfl (k_X12_readRule_b11 hin  hJ   _  hF)
  · have hF := hF.2 z3
    refine j_aload_n hJ dX12_readRule_7 rfl 0 rfl ?_
    refine j_callVv hJ (c_X12_wrong (l := l) (D := D) (cy := cy) (ad := ad) hin) rfl om_1363 ⟨rfl, rfl, Nat.le_of_ble_eq_true rfl, Nat.le_of_ble_eq_true rfl⟩ [] mv_X12_664 hd_X12_wrongv kR_0 rfl rfl rfl (Nat.le_of_ble_eq_true rfl) dX12_readRule_8 ⟨rfl, hF⟩ (fun M5 qM5 => ?_)
    have hF := qM5
    exact j_sub hJ [0] rfl (k_X12_readRule_b11 hin  hJ   _  hF)
