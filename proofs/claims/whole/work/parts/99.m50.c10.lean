def W_X10_addField (ad : Nat → Nat) (Q : Int → MM → Prop) (av : List Value) (M : MM) : Prop := ∃ (p1 : Int) (p2 : Int) (p3 : Int) (p4 : Int) (p5 : Int), av = [.ref (ad 8), .int (Ii p1), .long (Ll p2), .int (Ii p3), .int (Ii p4), .int (Ii p5)] ∧ ri_ p1 ∧ rl_ p2 ∧ ri_ p3 ∧ ri_ p4 ∧ (p5 = 0 ∨ p5 = 1) ∧ w_X10_addField  Q p1 p2 p3 p4 p5 M
set_option maxHeartbeats 4000000 in
set_option maxRecDepth 100000 in
theorem c_X10_addField {l : Launch} {D : va_G} {cy : Nat → ClassId} {ad : Nat → Nat} (hin : jIn ad ksC.length) : jCN l D vwCl (tyC cy) cy ad ftC ksC (XtC ad) yX10_addField (.code yX10_addField cX10_addField 10 (some .int) :: Om) ({ frames := 1, cells := 0, slots := 0, locals := 27 } : Room) 1 (W_X10_addField ad) := by
  refine jCN_of (y := yX10_addField) (cc := cX10_addField) (nL := 10) (rk := 1) (rm := ({ frames := 1, cells := 0, slots := 0, locals := 27 } : Room)) (own := RX10) (tyC_ok cy) hin (XtC_ok ad) Om_good (by decide) rfl ?_
  intro Q av M hF
  obtain ⟨p1, p2, p3, p4, p5, rfl, gp1, gp2, gp3, gp4, gp5, hF⟩ := hF
  refine ⟨Nat.le_of_ble_eq_true rfl, fun J hJ => ?_⟩
  show J 0 [(0, .ref (ad 8)), (1, .int (Ii p1)), (2, .long (Ll p2)), (4, .int (Ii p3)), (5, .int (Ii p4)), (6, .int (Ii p5))] [] M
  unfold w_X10_addField at hF
  refine j_aload_n hJ dX10_addField_0 rfl 0 rfl ?_
  refine j_gr (e := 14) hJ kC_8 fC_13_6 fl_X10_29 dX10_addField_1 rfl ?_
  refine j_iload_n hJ dX10_addField_4 rfl 1 rfl ?_
  refine j_iald hJ gp1 kC_14 hF.1 hF.2.1 dX10_addField_5 (fun v1 ev1 gv1 => ?_)
  have hF := hF.2.2 v1 ev1 gv1
  refine j_istore (lv' := [(7, .int (Ii v1)), (0, .ref (ad 8)), (1, .int (Ii p1)), (2, .long (Ll p2)), (4, .int (Ii p3)), (5, .int (Ii p4)), (6, .int (Ii p5))]) hJ dX10_addField_6 (by decide) rfl ?_
  refine j_iload_n hJ dX10_addField_8 rfl 2 rfl ?_
  refine j_bipush hJ dX10_addField_9 (by decide) ?_
  refine j_imul hJ dX10_addField_11 ?_
  have g2 := hF.1; have hF := hF.2
  refine j_iload hJ dX10_addField_12 0 rfl ?_
  refine j_iadd hJ dX10_addField_14 ?_
  have g3 := hF.1; have hF := hF.2
  refine j_istore (lv' := [(8, .int (Ii ((p1 * 6) + v1))), (7, .int (Ii v1)), (0, .ref (ad 8)), (1, .int (Ii p1)), (2, .long (Ll p2)), (4, .int (Ii p3)), (5, .int (Ii p4)), (6, .int (Ii p5))]) hJ dX10_addField_15 (by decide) rfl ?_
  refine j_aload_n hJ dX10_addField_17 rfl 2 rfl ?_
  refine j_gr (e := 14) hJ kC_8 fC_13_6 fl_X10_29 dX10_addField_18 rfl ?_
  refine j_iload_n hJ dX10_addField_21 rfl 3 rfl ?_
  refine j_dup2_11 hJ dX10_addField_22 rfl rfl ?_
  refine j_iald hJ gp1 kC_14 hF.1 hF.2.1 dX10_addField_23 (fun v4 ev4 gv4 => ?_)
  have hF := hF.2.2 v4 ev4 gv4
  refine j_iconst hJ dX10_addField_24 ?_
  refine j_iadd hJ dX10_addField_25 ?_
  have g5 := hF.1; have hF := hF.2
  refine j_iast hJ gp1 g5 kC_14 hF.1 hF.2.1 dX10_addField_26 (fun M6 eM6 => ?_)
  have hF := hF.2.2 M6 eM6
  refine j_aload_n hJ dX10_addField_27 rfl 2 rfl ?_
  refine j_gr (e := 18) hJ kC_8 fC_13_10 fl_X10_41 dX10_addField_28 rfl ?_
  refine j_iload hJ dX10_addField_31 0 rfl ?_
  refine j_lload_n hJ dX10_addField_33 rfl 4 rfl ?_
  refine j_last hJ g3 gp2 kC_18 hF.1 hF.2.1 dX10_addField_34 (fun M7 eM7 => ?_)
  have hF := hF.2.2 M7 eM7
  refine j_aload_n hJ dX10_addField_35 rfl 2 rfl ?_
  refine j_gr (e := 19) hJ kC_8 fC_13_11 fl_X10_44 dX10_addField_36 rfl ?_
  refine j_iload hJ dX10_addField_39 0 rfl ?_
  refine j_iload hJ dX10_addField_41 5 rfl ?_
  refine j_iast hJ g3 gp3 kC_19 hF.1 hF.2.1 dX10_addField_43 (fun M8 eM8 => ?_)
  have hF := hF.2.2 M8 eM8
  refine j_aload_n hJ dX10_addField_44 rfl 2 rfl ?_
  refine j_gr (e := 20) hJ kC_8 fC_13_12 fl_X10_47 dX10_addField_45 rfl ?_
  refine j_iload hJ dX10_addField_48 0 rfl ?_
  refine j_iload hJ dX10_addField_50 6 rfl ?_
  refine j_iast hJ g3 gp4 kC_20 hF.1 hF.2.1 dX10_addField_52 (fun M9 eM9 => ?_)
  have hF := hF.2.2 M9 eM9
  refine j_aload_n hJ dX10_addField_53 rfl 2 rfl ?_
  refine j_gr (e := 21) hJ kC_8 fC_13_13 fl_X10_50 dX10_addField_54 rfl ?_
  refine j_iload hJ dX10_addField_57 0 rfl ?_
  refine j_iload hJ dX10_addField_59 7 rfl ?_
  refine j_zast hJ g3 gp5 kC_21 hF.1 hF.2.1 dX10_addField_61 (fun M10 eM10 => ?_)
  have hF := hF.2.2 M10 eM10
  refine j_iload hJ dX10_addField_62 7 rfl ?_
  refine j_if_eq hJ 93 (jz_ri gp5) dX10_addField_64 (by decide) (fun z11 => ?_) (fun z11 => ?_)
  · have hF := hF.1 z11
    refine j_iload_n hJ dX10_addField_93 rfl 3 rfl ?_
    refine j_bipush hJ dX10_addField_94 (by decide) ?_
    refine j_imul hJ dX10_addField_96 ?_
    have g12 := hF.1; have hF := hF.2
    refine j_aload_n hJ dX10_addField_97 rfl 2 rfl ?_
    refine j_gr (e := 16) hJ kC_8 fC_13_8 fl_X10_35 dX10_addField_98 rfl ?_
    refine j_iload_n hJ dX10_addField_101 rfl 3 rfl ?_
    refine j_iald hJ gp1 kC_16 hF.1 hF.2.1 dX10_addField_102 (fun v13 ev13 gv13 => ?_)
    have hF := hF.2.2 v13 ev13 gv13
    refine j_iadd hJ dX10_addField_103 ?_
    have g14 := hF.1; have hF := hF.2
    refine j_istore (lv' := [(9, .int (Ii ((p1 * 96) + v13))), (8, .int (Ii ((p1 * 6) + v1))), (7, .int (Ii v1)), (0, .ref (ad 8)), (1, .int (Ii p1)), (2, .long (Ll p2)), (4, .int (Ii p3)), (5, .int (Ii p4)), (6, .int (Ii p5))]) hJ dX10_addField_104 (by decide) rfl ?_
    refine j_aload_n hJ dX10_addField_106 rfl 3 rfl ?_
    refine j_gr (e := 22) hJ kC_8 fC_13_14 fl_X10_53 dX10_addField_107 rfl ?_
    refine j_iload hJ dX10_addField_110 1 rfl ?_
    refine j_aload_n hJ dX10_addField_112 rfl 3 rfl ?_
    refine j_gr (e := 16) hJ kC_8 fC_13_8 fl_X10_35 dX10_addField_113 rfl ?_
    refine j_iload_n hJ dX10_addField_116 rfl 4 rfl ?_
    refine j_iald hJ gp1 kC_16 hF.1 hF.2.1 dX10_addField_117 (fun v15 ev15 gv15 => ?_)
    have hF := hF.2.2 v15 ev15 gv15
    refine j_iast hJ g3 gv15 kC_22 hF.1 hF.2.1 dX10_addField_118 (fun M16 eM16 => ?_)
    have hF := hF.2.2 M16 eM16
    refine j_aload_n hJ dX10_addField_119 rfl 3 rfl ?_
    refine j_gr (e := 16) hJ kC_8 fC_13_8 fl_X10_35 dX10_addField_120 rfl ?_
    refine j_iload_n hJ dX10_addField_123 rfl 4 rfl ?_
    refine j_dup2_11 hJ dX10_addField_124 rfl rfl ?_
    refine j_iald hJ gp1 kC_16 hF.1 hF.2.1 dX10_addField_125 (fun v17 ev17 gv17 => ?_)
    have hF := hF.2.2 v17 ev17 gv17
    refine j_iconst hJ dX10_addField_126 ?_
    refine j_iadd hJ dX10_addField_127 ?_
    have g18 := hF.1; have hF := hF.2
    refine j_iast hJ gp1 g18 kC_16 hF.1 hF.2.1 dX10_addField_128 (fun M19 eM19 => ?_)
    have hF := hF.2.2 M19 eM19
    refine j_aload_n hJ dX10_addField_129 rfl 3 rfl ?_
    refine j_gr (e := 23) hJ kC_8 fC_13_15 fl_X10_56 dX10_addField_130 rfl ?_
    refine j_iload hJ dX10_addField_133 0 rfl ?_
    refine j_lload_n hJ dX10_addField_135 rfl 5 rfl ?_
    refine j_last hJ g14 gp2 kC_23 hF.1 hF.2.1 dX10_addField_136 (fun M20 eM20 => ?_)
    have hF := hF.2.2 M20 eM20
    refine j_aload_n hJ dX10_addField_137 rfl 3 rfl ?_
    refine j_gr (e := 24) hJ kC_8 fC_13_16 fl_X10_59 dX10_addField_138 rfl ?_
    refine j_iload hJ dX10_addField_141 0 rfl ?_
    refine j_iload hJ dX10_addField_143 6 rfl ?_
    refine j_iast hJ g14 gp3 kC_24 hF.1 hF.2.1 dX10_addField_145 (fun M21 eM21 => ?_)
    have hF := hF.2.2 M21 eM21
    refine j_aload_n hJ dX10_addField_146 rfl 3 rfl ?_
    refine j_gr (e := 25) hJ kC_8 fC_13_17 fl_X10_62 dX10_addField_147 rfl ?_
    refine j_iload hJ dX10_addField_150 0 rfl ?_
    refine j_iload hJ dX10_addField_152 7 rfl ?_
    refine j_iast hJ g14 gp4 kC_25 hF.1 hF.2.1 dX10_addField_154 (fun M22 eM22 => ?_)
    have hF := hF.2.2 M22 eM22
    refine j_aload_n hJ dX10_addField_155 rfl 3 rfl ?_
    refine j_gr (e := 17) hJ kC_8 fC_13_9 fl_X10_38 dX10_addField_156 rfl ?_
    refine j_iload_n hJ dX10_addField_159 rfl 4 rfl ?_
    refine j_aload_n hJ dX10_addField_160 rfl 3 rfl ?_
    refine j_iload_n hJ dX10_addField_161 rfl 4 rfl ?_
    refine j_iconst hJ dX10_addField_162 ?_
    refine j_callVi hJ (c_X10_firstByte (l := l) (D := D) (cy := cy) (ad := ad) hin) rfl om_761 ⟨rfl, rfl, Nat.le_of_ble_eq_true rfl, Nat.le_of_ble_eq_true rfl⟩ [.int (Ii p1), .int (Ii (-1))] mv_X10_79 hd_X10_firstBytev kC_8 rfl rfl rfl (Nat.le_of_ble_eq_true rfl) dX10_addField_163 ⟨p1, (-1), rfl, gp1, rk_m1, hF⟩ (fun r23 M24 gr23 qM24 => ?_)
    have hF := qM24 gr23
    refine j_iast hJ gp1 gr23 kC_17 hF.1 hF.2.1 dX10_addField_166 (fun M25 eM25 => ?_)
    have hF := hF.2.2 M25 eM25
    refine j_iload hJ dX10_addField_167 2 rfl ?_
    exact j_iret hJ rfl gv1 dX10_addField_169 hF
  · have hF := hF.2 z11
    refine j_aload_n hJ dX10_addField_67 rfl 2 rfl ?_
    refine j_gr (e := 22) hJ kC_8 fC_13_14 fl_X10_53 dX10_addField_68 rfl ?_
    refine j_iload hJ dX10_addField_71 0 rfl ?_
    refine j_aload_n hJ dX10_addField_73 rfl 2 rfl ?_
    refine j_gr (e := 15) hJ kC_8 fC_13_7 fl_X10_32 dX10_addField_74 rfl ?_
    refine j_iload_n hJ dX10_addField_77 rfl 3 rfl ?_
    refine j_iald hJ gp1 kC_15 hF.1 hF.2.1 dX10_addField_78 (fun v26 ev26 gv26 => ?_)
    have hF := hF.2.2 v26 ev26 gv26
    refine j_iast hJ g3 gv26 kC_22 hF.1 hF.2.1 dX10_addField_79 (fun M27 eM27 => ?_)
    have hF := hF.2.2 M27 eM27
    refine j_aload_n hJ dX10_addField_80 rfl 2 rfl ?_
    refine j_gr (e := 15) hJ kC_8 fC_13_7 fl_X10_32 dX10_addField_81 rfl ?_
    refine j_iload_n hJ dX10_addField_84 rfl 3 rfl ?_
    refine j_dup2_11 hJ dX10_addField_85 rfl rfl ?_
    refine j_iald hJ gp1 kC_15 hF.1 hF.2.1 dX10_addField_86 (fun v28 ev28 gv28 => ?_)
    have hF := hF.2.2 v28 ev28 gv28
    refine j_iconst hJ dX10_addField_87 ?_
    refine j_iadd hJ dX10_addField_88 ?_
    have g29 := hF.1; have hF := hF.2
    refine j_iast hJ gp1 g29 kC_15 hF.1 hF.2.1 dX10_addField_89 (fun M30 eM30 => ?_)
    have hF := hF.2.2 M30 eM30
    refine j_iload hJ dX10_addField_90 1 rfl ?_
    exact j_iret hJ rfl gv1 dX10_addField_92 hF
def W_X10_staticField (ad : Nat → Nat) (Q : Int → MM → Prop) (av : List Value) (M : MM) : Prop := ∃ (p1 : Int) (p2 : Int), av = [.ref (ad 8), .int (Ii p1), .int (Ii p2)] ∧ ri_ p1 ∧ ri_ p2 ∧ w_X10_staticField  Q p1 p2 M
set_option maxHeartbeats 4000000 in
set_option maxRecDepth 100000 in
theorem k_X10_staticField_b67 {l : Launch} {D : va_G} {cy : Nat → ClassId} {ad : Nat → Nat} {Q : Int → MM → Prop} {J : Nat → List (Nat × Value) → List Value → MM → Prop} (hin : jIn ad ksC.length)   (hJ : jOk l D vwCl (tyC cy) cy ad ftC ksC (XtC ad) Om RX10 cX10_staticField 5 1 ({ frames := 1, cells := 0, slots := 0, locals := 21 } : Room) Q J) {K26 : Int → Int → Int → MM → Prop} (hK26 : ∀ (x1 x2 x3 : Int) (M : MM), ri_ x1 → ri_ x2 → ri_ x3 → K26 x1 x2 x3 M → J 26 [(0, .ref (ad 8)), (1, .int (Ii x1)), (2, .int (Ii x2)), (3, .int (Ii x3))] [] M) : ∀ (x1 x2 x3 : Int) (M : MM), ri_ x1 → ri_ x2 → ri_ x3 → w_X10_staticField_b67  Q K26 x1 x2 x3 M → J 67 [(0, .ref (ad 8)), (1, .int (Ii x1)), (2, .int (Ii x2)), (3, .int (Ii x3))] [] M := by
  intro x1 x2 x3 M gx1 gx2 gx3 hF
  unfold w_X10_staticField_b67 at hF
  refine j_iinc (lv' := [(3, .int (Ii (x3 + 1))), (0, .ref (ad 8)), (1, .int (Ii x1)), (2, .int (Ii x2))]) (k := 3) hJ dX10_staticField_67 rfl (by decide) rfl ?_
  have g1 := hF.1; have hF := hF.2
  refine j_goto hJ 26 dX10_staticField_70 (by decide) ?_
  exact j_sub hJ [1, 2, 3, 0] rfl (hK26 x1 x2 (x3 + 1) _ gx1 gx2 g1 hF)
set_option maxHeartbeats 4000000 in
set_option maxRecDepth 100000 in
theorem k_X10_staticField_b26 {l : Launch} {D : va_G} {cy : Nat → ClassId} {ad : Nat → Nat} {Q : Int → MM → Prop} {J : Nat → List (Nat × Value) → List Value → MM → Prop} (hin : jIn ad ksC.length)   (hJ : jOk l D vwCl (tyC cy) cy ad ftC ksC (XtC ad) Om RX10 cX10_staticField 5 1 ({ frames := 1, cells := 0, slots := 0, locals := 21 } : Room) Q J)  : ∀ (x1 x2 x3 : Int) (M : MM), ri_ x1 → ri_ x2 → ri_ x3 → w_X10_staticField_b26  Q  x1 x2 x3 M → J 26 [(0, .ref (ad 8)), (1, .int (Ii x1)), (2, .int (Ii x2)), (3, .int (Ii x3))] [] M := by
  have H9 : ∀ (n : Nat) (x1 x2 x3 : Int) (M : MM), ri_ x1 → ri_ x2 → ri_ x3 → jit (fun _ _ _ _ => False) (wb_X10_staticField_b26  Q ) n x1 x2 x3 M → J 26 [(0, .ref (ad 8)), (1, .int (Ii x1)), (2, .int (Ii x2)), (3, .int (Ii x3))] [] M := by
    intro n
    induction n with
    | zero => intro x1 x2 x3 M gx1 gx2 gx3 hF; exact False.elim hF
    | succ n ih =>
    intro x1 x2 x3 M gx1 gx2 gx3 hF
    have hF : wb_X10_staticField_b26  Q  (jit (fun _ _ _ _ => False) (wb_X10_staticField_b26  Q ) n) x1 x2 x3 M := hF
    unfold wb_X10_staticField_b26 at hF
    refine j_iload_n hJ dX10_staticField_26 rfl 3 rfl ?_
    refine j_aload_n hJ dX10_staticField_27 rfl 0 rfl ?_
    refine j_gr (e := 14) hJ kC_8 fC_13_6 fl_X10_29 dX10_staticField_28 rfl ?_
    refine j_iload_n hJ dX10_staticField_31 rfl 1 rfl ?_
    refine j_iald hJ gx1 kC_14 hF.1 hF.2.1 dX10_staticField_32 (fun v1 ev1 gv1 => ?_)
    have hF := hF.2.2 v1 ev1 gv1
    refine j_icmp_ge hJ 73 gx3 gv1 dX10_staticField_33 (by decide) (fun z2 => ?_) (fun z2 => ?_)
    · have hF := hF.1 z2
      refine j_iconst hJ dX10_staticField_73 ?_
      exact j_iret hJ rfl rk_m1 dX10_staticField_74 hF
    · have hF := hF.2 z2
      refine j_iload_n hJ dX10_staticField_36 rfl 1 rfl ?_
      refine j_bipush hJ dX10_staticField_37 (by decide) ?_
      refine j_imul hJ dX10_staticField_39 ?_
      have g3 := hF.1; have hF := hF.2
      refine j_iload_n hJ dX10_staticField_40 rfl 3 rfl ?_
      refine j_iadd hJ dX10_staticField_41 ?_
      have g4 := hF.1; have hF := hF.2
      refine j_istore (lv' := [(4, .int (Ii ((x1 * 6) + x3))), (0, .ref (ad 8)), (1, .int (Ii x1)), (2, .int (Ii x2)), (3, .int (Ii x3))]) hJ dX10_staticField_42 (by decide) rfl ?_
      refine j_aload_n hJ dX10_staticField_44 rfl 1 rfl ?_
      refine j_gr (e := 21) hJ kC_8 fC_13_13 fl_X10_50 dX10_staticField_45 rfl ?_
      refine j_iload hJ dX10_staticField_48 0 rfl ?_
      refine j_zald hJ g4 kC_21 hF.1 hF.2.1 dX10_staticField_50 (fun v5 ev5 gv5 => ?_)
      have hF := hF.2.2 v5 ev5 gv5
      refine j_if_eq hJ 67 (jz_ri gv5) dX10_staticField_51 (by decide) (fun z6 => ?_) (fun z6 => ?_)
      · have hF := hF.1 z6
        exact j_sub hJ [1, 2, 3, 4] rfl (k_X10_staticField_b67 hin  hJ ih x1 x2 x3 _ gx1 gx2 gx3 hF)
      · have hF := hF.2 z6
        refine j_aload_n hJ dX10_staticField_54 rfl 1 rfl ?_
        refine j_gr (e := 22) hJ kC_8 fC_13_14 fl_X10_53 dX10_staticField_55 rfl ?_
        refine j_iload hJ dX10_staticField_58 0 rfl ?_
        refine j_iald hJ g4 kC_22 hF.1 hF.2.1 dX10_staticField_60 (fun v7 ev7 gv7 => ?_)
        have hF := hF.2.2 v7 ev7 gv7
        refine j_iload_n hJ dX10_staticField_61 rfl 3 rfl ?_
        refine j_icmp_ne hJ 67 gv7 gx2 dX10_staticField_62 (by decide) (fun z8 => ?_) (fun z8 => ?_)
        · have hF := hF.1 z8
          exact j_sub hJ [1, 2, 3, 4] rfl (k_X10_staticField_b67 hin  hJ ih x1 x2 x3 _ gx1 gx2 gx3 hF)
        · have hF := hF.2 z8
          refine j_iload_n hJ dX10_staticField_65 rfl 4 rfl ?_
          exact j_iret hJ rfl gx3 dX10_staticField_66 hF
  intro x1 x2 x3 M gx1 gx2 gx3 hF
  obtain ⟨n, hF⟩ := hF
  exact H9 n x1 x2 x3 M gx1 gx2 gx3 hF
set_option maxHeartbeats 4000000 in
set_option maxRecDepth 100000 in
theorem c_X10_staticField {l : Launch} {D : va_G} {cy : Nat → ClassId} {ad : Nat → Nat} (hin : jIn ad ksC.length) : jCN l D vwCl (tyC cy) cy ad ftC ksC (XtC ad) yX10_staticField (.code yX10_staticField cX10_staticField 5 (some .int) :: Om) ({ frames := 1, cells := 0, slots := 0, locals := 21 } : Room) 1 (W_X10_staticField ad) := by
  refine jCN_of (y := yX10_staticField) (cc := cX10_staticField) (nL := 5) (rk := 1) (rm := ({ frames := 1, cells := 0, slots := 0, locals := 21 } : Room)) (own := RX10) (tyC_ok cy) hin (XtC_ok ad) Om_good (by decide) rfl ?_
  intro Q av M hF
  obtain ⟨p1, p2, rfl, gp1, gp2, hF⟩ := hF
  refine ⟨Nat.le_of_ble_eq_true rfl, fun J hJ => ?_⟩
  show J 0 [(0, .ref (ad 8)), (1, .int (Ii p1)), (2, .int (Ii p2))] [] M
  unfold w_X10_staticField at hF
  refine j_aload_n hJ dX10_staticField_0 rfl 0 rfl ?_
  refine j_iload_n hJ dX10_staticField_1 rfl 1 rfl ?_
  refine j_callVz hJ (c_X10_isClass (l := l) (D := D) (cy := cy) (ad := ad) hin) rfl om_52 ⟨rfl, rfl, Nat.le_of_ble_eq_true rfl, Nat.le_of_ble_eq_true rfl⟩ [.int (Ii p1)] mv_X10_69 hd_X10_isClassv kC_8 rfl rfl rfl (Nat.le_of_ble_eq_true rfl) dX10_staticField_2 ⟨p1, rfl, gp1, hF⟩ (fun r1 M2 gr1 qM2 => ?_)
  have hF := qM2 gr1
  refine j_if_eq hJ 22 (jz_ri gr1) dX10_staticField_5 (by decide) (fun z3 => ?_) (fun z3 => ?_)
  · have hF := hF.1 z3
    refine j_iconst hJ dX10_staticField_22 ?_
    exact j_iret hJ rfl rk_m1 dX10_staticField_23 hF
  · have hF := hF.2 z3
    refine j_iload_n hJ dX10_staticField_8 rfl 2 rfl ?_
    refine j_if_lt hJ 22 gp2 dX10_staticField_9 (by decide) (fun z4 => ?_) (fun z4 => ?_)
    · have hF := hF.1 z4
      refine j_iconst hJ dX10_staticField_22 ?_
      exact j_iret hJ rfl rk_m1 dX10_staticField_23 hF
    · have hF := hF.2 z4
      refine j_iload_n hJ dX10_staticField_12 rfl 2 rfl ?_
      refine j_aload_n hJ dX10_staticField_13 rfl 0 rfl ?_
      refine j_gr (e := 15) hJ kC_8 fC_13_7 fl_X10_32 dX10_staticField_14 rfl ?_
      refine j_iload_n hJ dX10_staticField_17 rfl 1 rfl ?_
      refine j_iald hJ gp1 kC_15 hF.1 hF.2.1 dX10_staticField_18 (fun v5 ev5 gv5 => ?_)
      have hF := hF.2.2 v5 ev5 gv5
      refine j_icmp_lt hJ 24 gp2 gv5 dX10_staticField_19 (by decide) (fun z6 => ?_) (fun z6 => ?_)
      · have hF := hF.1 z6
        refine j_iconst hJ dX10_staticField_24 ?_
        refine j_istore_n (lv' := [(3, .int (Ii 0)), (0, .ref (ad 8)), (1, .int (Ii p1)), (2, .int (Ii p2))]) hJ dX10_staticField_25 rfl (by decide) rfl ?_
        exact j_sub hJ [1, 2, 3, 0] rfl (k_X10_staticField_b26 hin  hJ  p1 p2 0 _ gp1 gp2 rk_0 hF)
      · have hF := hF.2 z6
        refine j_iconst hJ dX10_staticField_22 ?_
        exact j_iret hJ rfl rk_m1 dX10_staticField_23 hF
def W_X11_feed (ad : Nat → Nat) (Q : Int → MM → Prop) (av : List Value) (M : MM) : Prop := ∃ (p1 : Int) (p2 : Int) (p3 : Int) (p4 : Int) (p5 : Int), av = [.ref (ad 0), .int (Ii p1), .int (Ii p2), .int (Ii p3), .int (Ii p4), .int (Ii p5)] ∧ ri_ p1 ∧ ri_ p2 ∧ ri_ p3 ∧ ri_ p4 ∧ ri_ p5 ∧ w_X11_feed  Q p1 p2 p3 p4 p5 M
set_option maxHeartbeats 4000000 in
set_option maxRecDepth 100000 in
theorem c_X11_feed {l : Launch} {D : va_G} {cy : Nat → ClassId} {ad : Nat → Nat} (hin : jIn ad ksC.length) : jCN l D vwCl (tyC cy) cy ad ftC ksC (XtC ad) yX11_feed (.code yX11_feed cX11_feed 6 none :: Om) ({ frames := 1, cells := 0, slots := 0, locals := 23 } : Room) 0 (W_X11_feed ad) := by
  refine jCN_of (y := yX11_feed) (cc := cX11_feed) (nL := 6) (rk := 0) (rm := ({ frames := 1, cells := 0, slots := 0, locals := 23 } : Room)) (own := RX11) (tyC_ok cy) hin (XtC_ok ad) Om_good (by decide) rfl ?_
  intro Q av M hF
  obtain ⟨p1, p2, p3, p4, p5, rfl, gp1, gp2, gp3, gp4, gp5, hF⟩ := hF
  refine ⟨Nat.le_of_ble_eq_true rfl, fun J hJ => ?_⟩
  show J 0 [(0, .ref (ad 0)), (1, .int (Ii p1)), (2, .int (Ii p2)), (3, .int (Ii p3)), (4, .int (Ii p4)), (5, .int (Ii p5))] [] M
  unfold w_X11_feed at hF
  refine j_aload_n hJ dX11_feed_0 rfl 0 rfl ?_
  refine j_ga hJ kC_0 fC_14_0 fl_X11_12 dX11_feed_1 ?_
  refine j_iconst hJ dX11_feed_4 ?_
  refine j_iload_n hJ dX11_feed_5 rfl 1 rfl ?_
  refine j_callVv hJ (c_X9_putReady (l := l) (D := D) (cy := cy) (ad := ad) hin) rfl om_765 ⟨rfl, rfl, Nat.le_of_ble_eq_true rfl, Nat.le_of_ble_eq_true rfl⟩ [.int (Ii 0), .int (Ii p1)] mv_X11_102 hd_X9_putReadyv kC_1 rfl rfl rfl (Nat.le_of_ble_eq_true rfl) dX11_feed_6 ⟨0, p1, rfl, rk_0, gp1, hF⟩ (fun M2 qM2 => ?_)
  have hF := qM2
  refine j_aload_n hJ dX11_feed_9 rfl 0 rfl ?_
  refine j_ga hJ kC_0 fC_14_0 fl_X11_12 dX11_feed_10 ?_
  refine j_iconst hJ dX11_feed_13 ?_
  refine j_iload_n hJ dX11_feed_14 rfl 2 rfl ?_
  refine j_callVv hJ (c_X9_putReady (l := l) (D := D) (cy := cy) (ad := ad) hin) rfl om_765 ⟨rfl, rfl, Nat.le_of_ble_eq_true rfl, Nat.le_of_ble_eq_true rfl⟩ [.int (Ii 4), .int (Ii p2)] mv_X11_102 hd_X9_putReadyv kC_1 rfl rfl rfl (Nat.le_of_ble_eq_true rfl) dX11_feed_15 ⟨4, p2, rfl, rk_4, gp2, hF⟩ (fun M4 qM4 => ?_)
  have hF := qM4
  refine j_aload_n hJ dX11_feed_18 rfl 0 rfl ?_
  refine j_ga hJ kC_0 fC_14_0 fl_X11_12 dX11_feed_19 ?_
  refine j_bipush hJ dX11_feed_22 (by decide) ?_
  refine j_iload_n hJ dX11_feed_24 rfl 3 rfl ?_
  refine j_callVv hJ (c_X9_putReady (l := l) (D := D) (cy := cy) (ad := ad) hin) rfl om_765 ⟨rfl, rfl, Nat.le_of_ble_eq_true rfl, Nat.le_of_ble_eq_true rfl⟩ [.int (Ii 8), .int (Ii p3)] mv_X11_102 hd_X9_putReadyv kC_1 rfl rfl rfl (Nat.le_of_ble_eq_true rfl) dX11_feed_25 ⟨8, p3, rfl, rk_8, gp3, hF⟩ (fun M6 qM6 => ?_)
  have hF := qM6
  refine j_aload_n hJ dX11_feed_28 rfl 0 rfl ?_
  refine j_ga hJ kC_0 fC_14_0 fl_X11_12 dX11_feed_29 ?_
  refine j_bipush hJ dX11_feed_32 (by decide) ?_
  refine j_iload hJ dX11_feed_34 4 rfl ?_
  refine j_callVv hJ (c_X9_putReady (l := l) (D := D) (cy := cy) (ad := ad) hin) rfl om_765 ⟨rfl, rfl, Nat.le_of_ble_eq_true rfl, Nat.le_of_ble_eq_true rfl⟩ [.int (Ii 12), .int (Ii p4)] mv_X11_102 hd_X9_putReadyv kC_1 rfl rfl rfl (Nat.le_of_ble_eq_true rfl) dX11_feed_36 ⟨12, p4, rfl, rk_12, gp4, hF⟩ (fun M8 qM8 => ?_)
  have hF := qM8
  refine j_aload_n hJ dX11_feed_39 rfl 0 rfl ?_
  refine j_ga hJ kC_0 fC_14_0 fl_X11_12 dX11_feed_40 ?_
  refine j_bipush hJ dX11_feed_43 (by decide) ?_
  refine j_iload hJ dX11_feed_45 5 rfl ?_
  refine j_callVv hJ (c_X9_putReady (l := l) (D := D) (cy := cy) (ad := ad) hin) rfl om_765 ⟨rfl, rfl, Nat.le_of_ble_eq_true rfl, Nat.le_of_ble_eq_true rfl⟩ [.int (Ii 16), .int (Ii p5)] mv_X11_102 hd_X9_putReadyv kC_1 rfl rfl rfl (Nat.le_of_ble_eq_true rfl) dX11_feed_47 ⟨16, p5, rfl, rk_16, gp5, hF⟩ (fun M10 qM10 => ?_)
  have hF := qM10
  exact j_vret hJ rfl dX11_feed_50 hF
def W_X11_end (ad : Nat → Nat) (Q : Int → MM → Prop) (av : List Value) (M : MM) : Prop := ∃ (p1 : Int), av = [.ref (ad 0), .int (Ii p1)] ∧ ri_ p1 ∧ w_X11_end  Q p1 M
set_option maxHeartbeats 4000000 in
set_option maxRecDepth 100000 in
theorem c_X11_end {l : Launch} {D : va_G} {cy : Nat → ClassId} {ad : Nat → Nat} (hin : jIn ad ksC.length) : jCN l D vwCl (tyC cy) cy ad ftC ksC (XtC ad) yX11_end (.code yX11_end cX11_end 2 (some .int) :: Om) ({ frames := 2, cells := 0, slots := 0, locals := 81 } : Room) 1 (W_X11_end ad) := by
  refine jCN_of (y := yX11_end) (cc := cX11_end) (nL := 2) (rk := 1) (rm := ({ frames := 2, cells := 0, slots := 0, locals := 81 } : Room)) (own := RX11) (tyC_ok cy) hin (XtC_ok ad) Om_good (by decide) rfl ?_
  intro Q av M hF
  obtain ⟨p1, rfl, gp1, hF⟩ := hF
  refine ⟨Nat.le_of_ble_eq_true rfl, fun J hJ => ?_⟩
  show J 0 [(0, .ref (ad 0)), (1, .int (Ii p1))] [] M
  unfold w_X11_end at hF
  refine j_aload_n hJ dX11_end_0 rfl 0 rfl ?_
  refine j_ga hJ kC_0 fC_14_0 fl_X11_12 dX11_end_1 ?_
  refine j_iload_n hJ dX11_end_4 rfl 1 rfl ?_
  refine j_callVi hJ (c_X9_takeReady (l := l) (D := D) (cy := cy) (ad := ad) hin) rfl om_769 ⟨rfl, rfl, Nat.le_of_ble_eq_true rfl, Nat.le_of_ble_eq_true rfl⟩ [.int (Ii p1)] mv_X11_106 hd_X9_takeReadyv kC_1 rfl rfl rfl (Nat.le_of_ble_eq_true rfl) dX11_end_5 ⟨p1, rfl, gp1, hF⟩ (fun r1 M2 gr1 qM2 => ?_)
  have hF := qM2 gr1
  exact j_iret hJ rfl gr1 dX11_end_8 hF
def W_X11_wipe (ad : Nat → Nat) (Q : Int → MM → Prop) (av : List Value) (M : MM) : Prop := av = [.ref (ad 0)] ∧ w_X11_wipe  Q  M
set_option maxHeartbeats 4000000 in
set_option maxRecDepth 100000 in
theorem c_X11_wipe {l : Launch} {D : va_G} {cy : Nat → ClassId} {ad : Nat → Nat} (hin : jIn ad ksC.length) : jCN l D vwCl (tyC cy) cy ad ftC ksC (XtC ad) yX11_wipe (.code yX11_wipe cX11_wipe 1 none :: Om) ({ frames := 0, cells := 0, slots := 0, locals := 0 } : Room) 0 (W_X11_wipe ad) := by
  refine jCN_of (y := yX11_wipe) (cc := cX11_wipe) (nL := 1) (rk := 0) (rm := ({ frames := 0, cells := 0, slots := 0, locals := 0 } : Room)) (own := RX11) (tyC_ok cy) hin (XtC_ok ad) Om_good (by decide) rfl ?_
  intro Q av M hF
  obtain ⟨rfl, hF⟩ := hF
  refine ⟨Nat.le_of_ble_eq_true rfl, fun J hJ => ?_⟩
  show J 0 [(0, .ref (ad 0))] [] M
  unfold w_X11_wipe at hF
  refine j_aload_n hJ dX11_wipe_0 rfl 0 rfl ?_
  refine j_ga hJ kC_0 fC_14_0 fl_X11_12 dX11_wipe_1 ?_
  refine j_iconst hJ dX11_wipe_4 ?_
  refine j_pi hJ rk_0 kC_1 fC_12_1 rfl fp_X11_110 dX11_wipe_5 (fun M1 eM1 => ?_)
  have hF := hF M1 eM1
  exact j_vret hJ rfl dX11_wipe_8 hF
def W_X11_flip (ad : Nat → Nat) (Q : Int → MM → Prop) (av : List Value) (M : MM) : Prop := ∃ (p1 : Int) (p2 : Int), av = [.ref (ad 0), .int (Ii p1), .int (Ii p2)] ∧ ri_ p1 ∧ ri_ p2 ∧ w_X11_flip  Q p1 p2 M
set_option maxHeartbeats 4000000 in
set_option maxRecDepth 100000 in
theorem c_X11_flip {l : Launch} {D : va_G} {cy : Nat → ClassId} {ad : Nat → Nat} (hin : jIn ad ksC.length) : jCN l D vwCl (tyC cy) cy ad ftC ksC (XtC ad) yX11_flip (.code yX11_flip cX11_flip 3 (some .boolean) :: Om) ({ frames := 0, cells := 0, slots := 0, locals := 0 } : Room) 3 (W_X11_flip ad) := by
  refine jCN_of (y := yX11_flip) (cc := cX11_flip) (nL := 3) (rk := 3) (rm := ({ frames := 0, cells := 0, slots := 0, locals := 0 } : Room)) (own := RX11) (tyC_ok cy) hin (XtC_ok ad) Om_good (by decide) rfl ?_
  intro Q av M hF
  obtain ⟨p1, p2, rfl, gp1, gp2, hF⟩ := hF
  refine ⟨Nat.le_of_ble_eq_true rfl, fun J hJ => ?_⟩
  show J 0 [(0, .ref (ad 0)), (1, .int (Ii p1)), (2, .int (Ii p2))] [] M
  unfold w_X11_flip at hF
  refine j_iload_n hJ dX11_flip_0 rfl 1 rfl ?_
  refine j_if_lt hJ 25 gp1 dX11_flip_1 (by decide) (fun z1 => ?_) (fun z1 => ?_)
  · have hF := hF.1 z1
    refine j_iconst hJ dX11_flip_25 ?_
    exact j_zret hJ rfl (by decide) dX11_flip_26 hF
  · have hF := hF.2 z1
    refine j_iload_n hJ dX11_flip_4 rfl 1 rfl ?_
    refine j_aload_n hJ dX11_flip_5 rfl 0 rfl ?_
    refine j_ga hJ kC_0 fC_14_0 fl_X11_12 dX11_flip_6 ?_
    refine j_gi hJ kC_1 fC_12_1 rfl fl_X11_110 dX11_flip_9 (fun v2 ev2 gv2 => ?_)
    have hF := hF v2 ev2 gv2
    refine j_icmp_ge hJ 25 gp1 gv2 dX11_flip_12 (by decide) (fun z3 => ?_) (fun z3 => ?_)
    · have hF := hF.1 z3
      refine j_iconst hJ dX11_flip_25 ?_
      exact j_zret hJ rfl (by decide) dX11_flip_26 hF
    · have hF := hF.2 z3
      refine j_iload_n hJ dX11_flip_15 rfl 2 rfl ?_
      refine j_if_lt hJ 25 gp2 dX11_flip_16 (by decide) (fun z4 => ?_) (fun z4 => ?_)
      · have hF := hF.1 z4
        refine j_iconst hJ dX11_flip_25 ?_
        exact j_zret hJ rfl (by decide) dX11_flip_26 hF
      · have hF := hF.2 z4
        refine j_iload_n hJ dX11_flip_19 rfl 2 rfl ?_
        refine j_bipush hJ dX11_flip_20 (by decide) ?_
        refine j_icmp_le hJ 27 gp2 rk_7 dX11_flip_22 (by decide) (fun z5 => ?_) (fun z5 => ?_)
        · have hF := hF.1 z5
          refine j_aload_n hJ dX11_flip_27 rfl 0 rfl ?_
          refine j_ga hJ kC_0 fC_14_0 fl_X11_12 dX11_flip_28 ?_
          refine j_gr (e := 2) hJ kC_1 fC_12_0 fl_X11_113 dX11_flip_31 rfl ?_
          refine j_iload_n hJ dX11_flip_34 rfl 1 rfl ?_
          refine j_dup2_11 hJ dX11_flip_35 rfl rfl ?_
          refine j_iald hJ gp1 kC_2 hF.1 hF.2.1 dX11_flip_36 (fun v6 ev6 gv6 => ?_)
          have hF := hF.2.2 v6 ev6 gv6
          refine j_iconst hJ dX11_flip_37 ?_
          refine j_iload_n hJ dX11_flip_38 rfl 2 rfl ?_
          refine j_ishl hJ dX11_flip_39 ?_
          refine j_ixor hJ dX11_flip_40 ?_
          refine j_iast hJ gp1 (ri_of _) kC_2 hF.1 hF.2.1 dX11_flip_41 (fun M7 eM7 => ?_)
          have hF := hF.2.2 M7 eM7
          refine j_iconst hJ dX11_flip_42 ?_
          exact j_zret hJ rfl (by decide) dX11_flip_43 hF
        · have hF := hF.2 z5
          refine j_iconst hJ dX11_flip_25 ?_
          exact j_zret hJ rfl (by decide) dX11_flip_26 hF
def W_X11_cut (ad : Nat → Nat) (Q : Int → MM → Prop) (av : List Value) (M : MM) : Prop := ∃ (p1 : Int), av = [.ref (ad 0), .int (Ii p1)] ∧ ri_ p1 ∧ w_X11_cut  Q p1 M
set_option maxHeartbeats 4000000 in
set_option maxRecDepth 100000 in
theorem c_X11_cut {l : Launch} {D : va_G} {cy : Nat → ClassId} {ad : Nat → Nat} (hin : jIn ad ksC.length) : jCN l D vwCl (tyC cy) cy ad ftC ksC (XtC ad) yX11_cut (.code yX11_cut cX11_cut 2 (some .boolean) :: Om) ({ frames := 0, cells := 0, slots := 0, locals := 0 } : Room) 3 (W_X11_cut ad) := by
  refine jCN_of (y := yX11_cut) (cc := cX11_cut) (nL := 2) (rk := 3) (rm := ({ frames := 0, cells := 0, slots := 0, locals := 0 } : Room)) (own := RX11) (tyC_ok cy) hin (XtC_ok ad) Om_good (by decide) rfl ?_
  intro Q av M hF
  obtain ⟨p1, rfl, gp1, hF⟩ := hF
  refine ⟨Nat.le_of_ble_eq_true rfl, fun J hJ => ?_⟩
  show J 0 [(0, .ref (ad 0)), (1, .int (Ii p1))] [] M
  unfold w_X11_cut at hF
  refine j_iload_n hJ dX11_cut_0 rfl 1 rfl ?_
  refine j_if_lt hJ 15 gp1 dX11_cut_1 (by decide) (fun z1 => ?_) (fun z1 => ?_)
  · have hF := hF.1 z1
    refine j_iconst hJ dX11_cut_15 ?_
    exact j_zret hJ rfl (by decide) dX11_cut_16 hF
  · have hF := hF.2 z1
    refine j_iload_n hJ dX11_cut_4 rfl 1 rfl ?_
    refine j_aload_n hJ dX11_cut_5 rfl 0 rfl ?_
    refine j_ga hJ kC_0 fC_14_0 fl_X11_12 dX11_cut_6 ?_
    refine j_gi hJ kC_1 fC_12_1 rfl fl_X11_110 dX11_cut_9 (fun v2 ev2 gv2 => ?_)
    have hF := hF v2 ev2 gv2
    refine j_icmp_le hJ 17 gp1 gv2 dX11_cut_12 (by decide) (fun z3 => ?_) (fun z3 => ?_)
    · have hF := hF.1 z3
      refine j_aload_n hJ dX11_cut_17 rfl 0 rfl ?_
      refine j_ga hJ kC_0 fC_14_0 fl_X11_12 dX11_cut_18 ?_
      refine j_iload_n hJ dX11_cut_21 rfl 1 rfl ?_
      refine j_pi hJ gp1 kC_1 fC_12_1 rfl fp_X11_110 dX11_cut_22 (fun M4 eM4 => ?_)
      have hF := hF M4 eM4
      refine j_iconst hJ dX11_cut_25 ?_
      exact j_zret hJ rfl (by decide) dX11_cut_26 hF
    · have hF := hF.2 z3
      refine j_iconst hJ dX11_cut_15 ?_
      exact j_zret hJ rfl (by decide) dX11_cut_16 hF
def W_X11_letter (ad : Nat → Nat) (Q : Int → MM → Prop) (av : List Value) (M : MM) : Prop := ∃ (p1 : Int), av = [.ref (ad 0), .int (Ii p1)] ∧ ri_ p1 ∧ w_X11_letter  Q p1 M
set_option maxHeartbeats 4000000 in
set_option maxRecDepth 100000 in
theorem c_X11_letter {l : Launch} {D : va_G} {cy : Nat → ClassId} {ad : Nat → Nat} (hin : jIn ad ksC.length) : jCN l D vwCl (tyC cy) cy ad ftC ksC (XtC ad) yX11_letter (.code yX11_letter cX11_letter 2 (some .int) :: Om) ({ frames := 0, cells := 0, slots := 0, locals := 0 } : Room) 1 (W_X11_letter ad) := by
  refine jCN_of (y := yX11_letter) (cc := cX11_letter) (nL := 2) (rk := 1) (rm := ({ frames := 0, cells := 0, slots := 0, locals := 0 } : Room)) (own := RX11) (tyC_ok cy) hin (XtC_ok ad) Om_good (by decide) rfl ?_
  intro Q av M hF
  obtain ⟨p1, rfl, gp1, hF⟩ := hF
  refine ⟨Nat.le_of_ble_eq_true rfl, fun J hJ => ?_⟩
  show J 0 [(0, .ref (ad 0)), (1, .int (Ii p1))] [] M
  unfold w_X11_letter at hF
  refine j_iload_n hJ dX11_letter_0 rfl 1 rfl ?_
  refine j_if_lt hJ 27 gp1 dX11_letter_1 (by decide) (fun z1 => ?_) (fun z1 => ?_)
  · have hF := hF.1 z1
    refine j_iconst hJ dX11_letter_27 ?_
    exact j_iret hJ rfl rk_m1 dX11_letter_28 hF
  · have hF := hF.2 z1
    refine j_iload_n hJ dX11_letter_4 rfl 1 rfl ?_
    refine j_aload_n hJ dX11_letter_5 rfl 0 rfl ?_
    refine j_ga hJ kC_0 fC_14_0 fl_X11_12 dX11_letter_6 ?_
    refine j_gi hJ kC_1 fC_12_1 rfl fl_X11_110 dX11_letter_9 (fun v2 ev2 gv2 => ?_)
    have hF := hF v2 ev2 gv2
    refine j_icmp_ge hJ 27 gp1 gv2 dX11_letter_12 (by decide) (fun z3 => ?_) (fun z3 => ?_)
    · have hF := hF.1 z3
      refine j_iconst hJ dX11_letter_27 ?_
      exact j_iret hJ rfl rk_m1 dX11_letter_28 hF
    · have hF := hF.2 z3
      refine j_aload_n hJ dX11_letter_15 rfl 0 rfl ?_
      refine j_ga hJ kC_0 fC_14_0 fl_X11_12 dX11_letter_16 ?_
      refine j_gr (e := 2) hJ kC_1 fC_12_0 fl_X11_113 dX11_letter_19 rfl ?_
      refine j_iload_n hJ dX11_letter_22 rfl 1 rfl ?_
      refine j_iald hJ gp1 kC_2 hF.1 hF.2.1 dX11_letter_23 (fun v4 ev4 gv4 => ?_)
      have hF := hF.2.2 v4 ev4 gv4
      refine j_goto hJ 28 dX11_letter_24 (by decide) ?_
      exact j_iret hJ rfl gv4 dX11_letter_28 hF
def W_X11_type (ad : Nat → Nat) (Q : Int → MM → Prop) (X : String → MM → Prop) (av : List Value) (M : MM) : Prop := ∃ (p1 : Int) (p2 : Int), av = [.ref (ad 0), .int (Ii p1), .int (Ii p2)] ∧ ri_ p1 ∧ ri_ p2 ∧ w_X11_type  Q X p1 p2 M
set_option maxHeartbeats 4000000 in
set_option maxRecDepth 100000 in
theorem k_X11_type_b25 {l : Launch} {D : va_G} {cy : Nat → ClassId} {ad : Nat → Nat} {Q : Int → MM → Prop} {X : String → MM → Prop} {J : Nat → List (Nat × Value) → List Value → MM → Prop} (hst : l.stackTraces = false) (hin : jIn ad ksC.length)   (hJ : jOk l D vwCl (tyC cy) cy ad ftC ksC (XtC ad) Om RX11 cX11_type 5 1 ({ frames := 9, cells := 1, slots := 6, locals := 168 } : Room) Q J) (hT : jTh RX11 cX11_type Om ({ frames := 9, cells := 1, slots := 6, locals := 168 } : Room) ["java/lang/IllegalArgumentException", "java/lang/IllegalStateException", "java/lang/IndexOutOfBoundsException"] X J)  : ∀ (M : MM), w_X11_type_b25  Q X   M → J 25 [] [] M := by
  intro  M  hF
  unfold w_X11_type_b25 at hF
  exact hT _ _ _ _ _ _ _ (by decide) (tw_X11_120_122 (Nat.le_of_ble_eq_true rfl) (Nat.le_of_ble_eq_true rfl)) dX11_type_25 dX11_type_28 dX11_type_29 dX11_type_32 hF
set_option maxHeartbeats 4000000 in
set_option maxRecDepth 100000 in
theorem k_X11_type_b79 {l : Launch} {D : va_G} {cy : Nat → ClassId} {ad : Nat → Nat} {Q : Int → MM → Prop} {X : String → MM → Prop} {J : Nat → List (Nat × Value) → List Value → MM → Prop} (hst : l.stackTraces = false) (hin : jIn ad ksC.length)   (hJ : jOk l D vwCl (tyC cy) cy ad ftC ksC (XtC ad) Om RX11 cX11_type 5 1 ({ frames := 9, cells := 1, slots := 6, locals := 168 } : Room) Q J) (hT : jTh RX11 cX11_type Om ({ frames := 9, cells := 1, slots := 6, locals := 168 } : Room) ["java/lang/IllegalArgumentException", "java/lang/IllegalStateException", "java/lang/IndexOutOfBoundsException"] X J)  : ∀ (M : MM), w_X11_type_b79  Q X   M → J 79 [] [] M := by
  intro  M  hF
  unfold w_X11_type_b79 at hF
  exact hT _ _ _ _ _ _ _ (by decide) (tw_X11_137_139 (Nat.le_of_ble_eq_true rfl) (Nat.le_of_ble_eq_true rfl)) dX11_type_79 dX11_type_82 dX11_type_83 dX11_type_86 hF
set_option maxHeartbeats 4000000 in
set_option maxRecDepth 100000 in
theorem k_X11_type_b16 {l : Launch} {D : va_G} {cy : Nat → ClassId} {ad : Nat → Nat} {Q : Int → MM → Prop} {X : String → MM → Prop} {J : Nat → List (Nat × Value) → List Value → MM → Prop} (hst : l.stackTraces = false) (hin : jIn ad ksC.length)   (hJ : jOk l D vwCl (tyC cy) cy ad ftC ksC (XtC ad) Om RX11 cX11_type 5 1 ({ frames := 9, cells := 1, slots := 6, locals := 168 } : Room) Q J) (hT : jTh RX11 cX11_type Om ({ frames := 9, cells := 1, slots := 6, locals := 168 } : Room) ["java/lang/IllegalArgumentException", "java/lang/IllegalStateException", "java/lang/IndexOutOfBoundsException"] X J)  : ∀ (x1 x2 : Int) (M : MM), ri_ x1 → ri_ x2 → w_X11_type_b16  Q X  x1 x2 M → J 16 [(0, .ref (ad 0)), (1, .int (Ii x1)), (2, .int (Ii x2))] [] M := by
  intro x1 x2 M gx1 gx2 hF
  unfold w_X11_type_b16 at hF
  refine j_iload_n hJ dX11_type_16 rfl 2 rfl ?_
  refine j_if_lt hJ 25 gx2 dX11_type_17 (by decide) (fun z1 => ?_) (fun z1 => ?_)
  · have hF := hF.1 z1
    exact j_sub hJ [] rfl (k_X11_type_b25 hst hin  hJ hT   _  hF)
  · have hF := hF.2 z1
    refine j_iload_n hJ dX11_type_20 rfl 2 rfl ?_
    refine j_iconst hJ dX11_type_21 ?_
    refine j_icmp_lt hJ 33 gx2 rk_4 dX11_type_22 (by decide) (fun z2 => ?_) (fun z2 => ?_)
    · have hF := hF.1 z2
      refine j_aload_n hJ dX11_type_33 rfl 0 rfl ?_
      refine j_ga hJ kC_0 fC_14_0 fl_X11_12 dX11_type_34 ?_
      refine j_callVl hJ (c_X9_wholeName (l := l) (D := D) (cy := cy) (ad := ad) hin) rfl om_775 ⟨rfl, rfl, Nat.le_of_ble_eq_true rfl, Nat.le_of_ble_eq_true rfl⟩ [] mv_X11_123 hd_X9_wholeNamev kC_1 rfl rfl rfl (Nat.le_of_ble_eq_true rfl) dX11_type_37 ⟨rfl, hF⟩ (fun r3 M4 gr3 qM4 => ?_)
      have hF := qM4 gr3
      refine j_lstore_n (lv' := [(3, .long (Ll r3)), (0, .ref (ad 0)), (1, .int (Ii x1)), (2, .int (Ii x2))]) hJ dX11_type_40 rfl (by decide) rfl ?_
      refine j_lload_n hJ dX11_type_41 rfl 0 rfl ?_
      refine j_lconst (x := 0) hJ dX11_type_42 rfl ?_
      refine j_lcmp_ne hJ 55 gr3 lkm_0 dX11_type_43 dX11_type_44 (by decide) (fun z5 => ?_) (fun z5 => ?_)
      · have hF := hF.1 z5
        refine j_aload_n hJ dX11_type_55 rfl 1 rfl ?_
        refine j_ga hJ kC_0 fC_14_1 fl_X11_19 dX11_type_56 ?_
        refine j_gi hJ kC_8 fC_13_0 rfl fl_X11_130 dX11_type_59 (fun v6 ev6 gv6 => ?_)
        have hF := hF v6 ev6 gv6
        refine j_bipush hJ dX11_type_62 (by decide) ?_
        refine j_icmp_eq hJ 79 gv6 rk_16 dX11_type_64 (by decide) (fun z7 => ?_) (fun z7 => ?_)
        · have hF := hF.1 z7
          exact j_sub hJ [] rfl (k_X11_type_b79 hst hin  hJ hT   _  hF)
        · have hF := hF.2 z7
          refine j_aload_n hJ dX11_type_67 rfl 1 rfl ?_
          refine j_ga hJ kC_0 fC_14_1 fl_X11_19 dX11_type_68 ?_
          refine j_iload_n hJ dX11_type_71 rfl 3 rfl ?_
          refine j_lload_n hJ dX11_type_72 rfl 0 rfl ?_
          refine j_callVz hJ (c_X10_hasName (l := l) (D := D) (cy := cy) (ad := ad) hin) rfl om_781 ⟨rfl, rfl, Nat.le_of_ble_eq_true rfl, Nat.le_of_ble_eq_true rfl⟩ [.int (Ii x2), .long (Ll r3)] mv_X11_133 hd_X10_hasNamev kC_8 rfl rfl rfl (Nat.le_of_ble_eq_true rfl) dX11_type_73 ⟨x2, r3, rfl, gx2, gr3, hF⟩ (fun r8 M9 gr8 qM9 => ?_)
          have hF := qM9 gr8
          refine j_if_eq hJ 87 (jz_ri gr8) dX11_type_76 (by decide) (fun z10 => ?_) (fun z10 => ?_)
          · have hF := hF.1 z10
            refine j_aload_n hJ dX11_type_87 rfl 1 rfl ?_
            refine j_ga hJ kC_0 fC_14_0 fl_X11_12 dX11_type_88 ?_
            refine j_iconst hJ dX11_type_91 ?_
            refine j_pi hJ rk_0 kC_1 fC_12_1 rfl fp_X11_110 dX11_type_92 (fun M11 eM11 => ?_)
            have hF := hF M11 eM11
            refine j_aload_n hJ dX11_type_95 rfl 1 rfl ?_
            refine j_ga hJ kC_0 fC_14_1 fl_X11_19 dX11_type_96 ?_
            refine j_lload_n hJ dX11_type_99 rfl 0 rfl ?_
            refine j_iload_n hJ dX11_type_100 rfl 2 rfl ?_
            refine j_iload_n hJ dX11_type_101 rfl 3 rfl ?_
            refine j_callVi hJ (c_X10_addClass (l := l) (D := D) (cy := cy) (ad := ad) hin) rfl om_785 ⟨rfl, rfl, Nat.le_of_ble_eq_true rfl, Nat.le_of_ble_eq_true rfl⟩ [.long (Ll r3), .int (Ii x1), .int (Ii x2)] mv_X11_140 hd_X10_addClassv kC_8 rfl rfl rfl (Nat.le_of_ble_eq_true rfl) dX11_type_102 ⟨r3, x1, x2, rfl, gr3, gx1, gx2, hF⟩ (fun r12 M13 gr12 qM13 => ?_)
            have hF := qM13 gr12
            exact j_iret hJ rfl gr12 dX11_type_105 hF
          · have hF := hF.2 z10
            exact j_sub hJ [] rfl (k_X11_type_b79 hst hin  hJ hT   _  hF)
      · have hF := hF.2 z5
        exact hT _ _ _ _ _ _ _ (by decide) (tw_X11_127_129 (Nat.le_of_ble_eq_true rfl) (Nat.le_of_ble_eq_true rfl)) dX11_type_47 dX11_type_50 dX11_type_51 dX11_type_54 hF
    · have hF := hF.2 z2
      exact j_sub hJ [] rfl (k_X11_type_b25 hst hin  hJ hT   _  hF)
set_option maxHeartbeats 4000000 in
set_option maxRecDepth 100000 in
theorem c_X11_type {l : Launch} {D : va_G} {cy : Nat → ClassId} {ad : Nat → Nat} (hst : l.stackTraces = false) (hin : jIn ad ksC.length) : jXN l D vwCl (tyC cy) cy ad ftC ksC (XtC ad) yX11_type (.code yX11_type cX11_type 5 (some .int) :: Om) ({ frames := 9, cells := 1, slots := 6, locals := 168 } : Room) 1 1 6 ["java/lang/IllegalArgumentException", "java/lang/IllegalStateException", "java/lang/IndexOutOfBoundsException"] (W_X11_type ad) := by
  refine jXN_of (y := yX11_type) (cc := cX11_type) (nL := 5) (rk := 1) (rm := ({ frames := 9, cells := 1, slots := 6, locals := 168 } : Room)) (own := RX11) 0 ["java/lang/IllegalArgumentException", "java/lang/IllegalStateException", "java/lang/IndexOutOfBoundsException"] hst (XtC_z ad) (tyC_ok cy) hin (XtC_ok ad) Om_good (by decide) rfl ⟨rfl, rfl⟩ ?_
  intro Q X av M hF
  obtain ⟨p1, p2, rfl, gp1, gp2, hF⟩ := hF
  refine ⟨Nat.le_of_ble_eq_true rfl, fun J hJ hT hC => ?_⟩
  have hJ0 := hJ 0 (by decide)
  have hT0 := hT 0 (by decide)
  show J 0 0 [(0, .ref (ad 0)), (1, .int (Ii p1)), (2, .int (Ii p2))] [] M
  unfold w_X11_type at hF
  refine j_iload_n hJ0 dX11_type_0 rfl 1 rfl ?_
  refine j_iconst hJ0 dX11_type_1 ?_
  refine j_icmp_eq hJ0 16 gp1 rk_m1 dX11_type_2 (by decide) (fun z1 => ?_) (fun z1 => ?_)
  · have hF := hF.1 z1
    exact j_sub hJ0 [0, 1, 2] rfl (k_X11_type_b16 hst hin  hJ0 hT0  p1 p2 _ gp1 gp2 hF)
  · have hF := hF.2 z1
    refine j_aload_n hJ0 dX11_type_5 rfl 0 rfl ?_
    refine j_ga hJ0 kC_0 fC_14_1 fl_X11_19 dX11_type_6 ?_
    refine j_iload_n hJ0 dX11_type_9 rfl 1 rfl ?_
    refine j_callVz hJ0 (c_X10_isClass (l := l) (D := D) (cy := cy) (ad := ad) hin) rfl om_52 ⟨rfl, rfl, Nat.le_of_ble_eq_true rfl, Nat.le_of_ble_eq_true rfl⟩ [.int (Ii p1)] mv_X11_116 hd_X10_isClassv kC_8 rfl rfl rfl (Nat.le_of_ble_eq_true rfl) dX11_type_10 ⟨p1, rfl, gp1, hF⟩ (fun r2 M3 gr2 qM3 => ?_)
    have hF := qM3 gr2
    refine j_if_eq hJ0 25 (jz_ri gr2) dX11_type_13 (by decide) (fun z4 => ?_) (fun z4 => ?_)
    · have hF := hF.1 z4
      exact j_sub hJ0 [] rfl (k_X11_type_b25 hst hin  hJ0 hT0   _  hF)
    · have hF := hF.2 z4
      exact j_sub hJ0 [0, 1, 2] rfl (k_X11_type_b16 hst hin  hJ0 hT0  p1 p2 _ gp1 gp2 hF)
def W_X11_field (ad : Nat → Nat) (Q : Int → MM → Prop) (X : String → MM → Prop) (av : List Value) (M : MM) : Prop := ∃ (p1 : Int) (p2 : Int) (p3 : Int) (p4 : Int), av = [.ref (ad 0), .int (Ii p1), .int (Ii p2), .int (Ii p3), .int (Ii p4)] ∧ ri_ p1 ∧ ri_ p2 ∧ ri_ p3 ∧ (p4 = 0 ∨ p4 = 1) ∧ w_X11_field  Q X p1 p2 p3 p4 M
set_option maxHeartbeats 4000000 in
set_option maxRecDepth 100000 in
theorem k_X11_field_b65 {l : Launch} {D : va_G} {cy : Nat → ClassId} {ad : Nat → Nat} {Q : Int → MM → Prop} {X : String → MM → Prop} {J : Nat → List (Nat × Value) → List Value → MM → Prop} (hst : l.stackTraces = false) (hin : jIn ad ksC.length)   (hJ : jOk l D vwCl (tyC cy) cy ad ftC ksC (XtC ad) Om RX11 cX11_field 8 1 ({ frames := 9, cells := 1, slots := 6, locals := 168 } : Room) Q J) (hT : jTh RX11 cX11_field Om ({ frames := 9, cells := 1, slots := 6, locals := 168 } : Room) ["java/lang/IllegalArgumentException", "java/lang/IllegalStateException", "java/lang/IndexOutOfBoundsException"] X J)  : ∀ (M : MM), w_X11_field_b65  Q X   M → J 65 [] [] M := by
  intro  M  hF
  unfold w_X11_field_b65 at hF
  exact hT _ _ _ _ _ _ _ (by decide) (tw_X11_127_129 (Nat.le_of_ble_eq_true rfl) (Nat.le_of_ble_eq_true rfl)) dX11_field_65 dX11_field_68 dX11_field_69 dX11_field_72 hF
set_option maxHeartbeats 4000000 in
set_option maxRecDepth 100000 in
theorem k_X11_field_b112 {l : Launch} {D : va_G} {cy : Nat → ClassId} {ad : Nat → Nat} {Q : Int → MM → Prop} {X : String → MM → Prop} {J : Nat → List (Nat × Value) → List Value → MM → Prop} (hst : l.stackTraces = false) (hin : jIn ad ksC.length)   (hJ : jOk l D vwCl (tyC cy) cy ad ftC ksC (XtC ad) Om RX11 cX11_field 8 1 ({ frames := 9, cells := 1, slots := 6, locals := 168 } : Room) Q J) (hT : jTh RX11 cX11_field Om ({ frames := 9, cells := 1, slots := 6, locals := 168 } : Room) ["java/lang/IllegalArgumentException", "java/lang/IllegalStateException", "java/lang/IndexOutOfBoundsException"] X J)  : ∀ (M : MM), w_X11_field_b112  Q X   M → J 112 [] [] M := by
  intro  M  hF
  unfold w_X11_field_b112 at hF
  exact hT _ _ _ _ _ _ _ (by decide) (tw_X11_137_139 (Nat.le_of_ble_eq_true rfl) (Nat.le_of_ble_eq_true rfl)) dX11_field_112 dX11_field_115 dX11_field_116 dX11_field_119 hF
set_option maxHeartbeats 4000000 in
set_option maxRecDepth 100000 in
theorem k_X11_field_b146 {l : Launch} {D : va_G} {cy : Nat → ClassId} {ad : Nat → Nat} {Q : Int → MM → Prop} {X : String → MM → Prop} {J : Nat → List (Nat × Value) → List Value → MM → Prop} (hst : l.stackTraces = false) (hin : jIn ad ksC.length)   (hJ : jOk l D vwCl (tyC cy) cy ad ftC ksC (XtC ad) Om RX11 cX11_field 8 1 ({ frames := 9, cells := 1, slots := 6, locals := 168 } : Room) Q J) (hT : jTh RX11 cX11_field Om ({ frames := 9, cells := 1, slots := 6, locals := 168 } : Room) ["java/lang/IllegalArgumentException", "java/lang/IllegalStateException", "java/lang/IndexOutOfBoundsException"] X J)  : ∀ (x1 x2 x4 s0 s1 s2 s3 : Int) (M : MM), ri_ x1 → ri_ x2 → ri_ x4 → ri_ s0 → ri_ s1 → rl_ s2 → ri_ s3 → w_X11_field_b146  Q X  x1 x2 x4 s0 s1 s2 s3 M → J 146 [(0, .ref (ad 0)), (1, .int (Ii x1)), (2, .int (Ii x2)), (4, .int (Ii x4))] [.int (Ii s0), .int (Ii s1), .long (Ll s2), .int (Ii s3), .ref (ad 8)] M := by
  intro x1 x2 x4 s0 s1 s2 s3 M gx1 gx2 gx4 gs0 gs1 gs2 gs3 hF
  unfold w_X11_field_b146 at hF
  refine j_iload hJ dX11_field_146 3 rfl ?_
  refine j_callVi hJ (c_X10_addField (l := l) (D := D) (cy := cy) (ad := ad) hin) rfl om_796 ⟨rfl, rfl, Nat.le_of_ble_eq_true rfl, Nat.le_of_ble_eq_true rfl⟩ [.int (Ii s3), .long (Ll s2), .int (Ii s1), .int (Ii s0), .int (Ii x4)] mv_X11_157 hd_X10_addFieldv kC_8 rfl rfl rfl (Nat.le_of_ble_eq_true rfl) dX11_field_148 ⟨s3, s2, s1, s0, x4, rfl, gs3, gs2, gs1, gs0, hF.1, hF.2⟩ (fun r1 M2 gr1 qM2 => ?_)
  have hF := qM2 gr1
  refine j_istore (lv' := [(7, .int (Ii r1)), (0, .ref (ad 0)), (1, .int (Ii x1)), (2, .int (Ii x2)), (4, .int (Ii x4))]) hJ dX11_field_151 (by decide) rfl ?_
  refine j_aload_n hJ dX11_field_153 rfl 1 rfl ?_
  refine j_ga hJ kC_0 fC_14_2 fl_X11_28 dX11_field_154 ?_
  refine j_gr (e := 32) hJ kC_26 fC_5_9 fl_X11_161 dX11_field_157 rfl ?_
  refine j_iload_n hJ dX11_field_160 rfl 2 rfl ?_
  refine j_bipush hJ dX11_field_161 (by decide) ?_
  refine j_imul hJ dX11_field_163 ?_
  have g3 := hF.1; have hF := hF.2
  refine j_iload hJ dX11_field_164 0 rfl ?_
  refine j_iadd hJ dX11_field_166 ?_
  have g4 := hF.1; have hF := hF.2
  refine j_iload_n hJ dX11_field_167 rfl 3 rfl ?_
  refine j_callSl hJ (c_X10_firstValue (l := l) (D := D) (cy := cy) (ad := ad) hin) rfl om_195 ⟨rfl, rfl, Nat.le_of_ble_eq_true rfl, Nat.le_of_ble_eq_true rfl⟩ [.int (Ii x2)] mv_X11_165 hd_X10_firstValue rfl (Nat.le_of_ble_eq_true rfl) dX11_field_168 ⟨x2, rfl, gx2, hF⟩ (fun r5 M6 gr5 qM6 => ?_)
  have hF := qM6 gr5
  refine j_last hJ g4 gr5 kC_32 hF.1 hF.2.1 dX11_field_171 (fun M7 eM7 => ?_)
  have hF := hF.2.2 M7 eM7
  refine j_iload hJ dX11_field_172 0 rfl ?_
  exact j_iret hJ rfl gr1 dX11_field_174 hF
set_option maxHeartbeats 4000000 in
set_option maxRecDepth 100000 in
theorem k_X11_field_b73 {l : Launch} {D : va_G} {cy : Nat → ClassId} {ad : Nat → Nat} {Q : Int → MM → Prop} {X : String → MM → Prop} {J : Nat → List (Nat × Value) → List Value → MM → Prop} (hst : l.stackTraces = false) (hin : jIn ad ksC.length)   (hJ : jOk l D vwCl (tyC cy) cy ad ftC ksC (XtC ad) Om RX11 cX11_field 8 1 ({ frames := 9, cells := 1, slots := 6, locals := 168 } : Room) Q J) (hT : jTh RX11 cX11_field Om ({ frames := 9, cells := 1, slots := 6, locals := 168 } : Room) ["java/lang/IllegalArgumentException", "java/lang/IllegalStateException", "java/lang/IndexOutOfBoundsException"] X J)  : ∀ (x1 x2 x3 x4 x5 : Int) (M : MM), ri_ x1 → ri_ x2 → ri_ x3 → ri_ x4 → rl_ x5 → w_X11_field_b73  Q X  x1 x2 x3 x4 x5 M → J 73 [(0, .ref (ad 0)), (1, .int (Ii x1)), (2, .int (Ii x2)), (3, .int (Ii x3)), (4, .int (Ii x4)), (5, .long (Ll x5))] [] M := by
  intro x1 x2 x3 x4 x5 M gx1 gx2 gx3 gx4 gx5 hF
  unfold w_X11_field_b73 at hF
  refine j_aload_n hJ dX11_field_73 rfl 0 rfl ?_
  refine j_ga hJ kC_0 fC_14_1 fl_X11_19 dX11_field_74 ?_
  refine j_gr (e := 12) hJ kC_8 fC_13_4 fl_X11_147 dX11_field_77 rfl ?_
  refine j_iload_n hJ dX11_field_80 rfl 1 rfl ?_
  refine j_zald hJ gx1 kC_12 hF.1 hF.2.1 dX11_field_81 (fun v1 ev1 gv1 => ?_)
  have hF := hF.2.2 v1 ev1 gv1
  refine j_if_ne hJ 112 (jz_ri gv1) dX11_field_82 (by decide) (fun z2 => ?_) (fun z2 => ?_)
  · have hF := hF.1 z2
    exact j_sub hJ [] rfl (k_X11_field_b112 hst hin  hJ hT   _  hF)
  · have hF := hF.2 z2
    refine j_aload_n hJ dX11_field_85 rfl 0 rfl ?_
    refine j_ga hJ kC_0 fC_14_1 fl_X11_19 dX11_field_86 ?_
    refine j_gr (e := 14) hJ kC_8 fC_13_6 fl_X11_151 dX11_field_89 rfl ?_
    refine j_iload_n hJ dX11_field_92 rfl 1 rfl ?_
    refine j_iald hJ gx1 kC_14 hF.1 hF.2.1 dX11_field_93 (fun v3 ev3 gv3 => ?_)
    have hF := hF.2.2 v3 ev3 gv3
    refine j_bipush hJ dX11_field_94 (by decide) ?_
    refine j_icmp_eq hJ 112 gv3 rk_6 dX11_field_96 (by decide) (fun z4 => ?_) (fun z4 => ?_)
    · have hF := hF.1 z4
      exact j_sub hJ [] rfl (k_X11_field_b112 hst hin  hJ hT   _  hF)
    · have hF := hF.2 z4
      refine j_aload_n hJ dX11_field_99 rfl 0 rfl ?_
      refine j_ga hJ kC_0 fC_14_1 fl_X11_19 dX11_field_100 ?_
      refine j_iload_n hJ dX11_field_103 rfl 1 rfl ?_
      refine j_lload hJ dX11_field_104 5 rfl ?_
      refine j_callVz hJ (c_X10_hasFieldNamed (l := l) (D := D) (cy := cy) (ad := ad) hin) rfl om_792 ⟨rfl, rfl, Nat.le_of_ble_eq_true rfl, Nat.le_of_ble_eq_true rfl⟩ [.int (Ii x1), .long (Ll x5)] mv_X11_154 hd_X10_hasFieldNamedv kC_8 rfl rfl rfl (Nat.le_of_ble_eq_true rfl) dX11_field_106 ⟨x1, x5, rfl, gx1, gx5, hF⟩ (fun r5 M6 gr5 qM6 => ?_)
      have hF := qM6 gr5
      refine j_if_eq hJ 120 (jz_ri gr5) dX11_field_109 (by decide) (fun z7 => ?_) (fun z7 => ?_)
      · have hF := hF.1 z7
        refine j_aload_n hJ dX11_field_120 rfl 0 rfl ?_
        refine j_ga hJ kC_0 fC_14_0 fl_X11_12 dX11_field_121 ?_
        refine j_iconst hJ dX11_field_124 ?_
        refine j_pi hJ rk_0 kC_1 fC_12_1 rfl fp_X11_110 dX11_field_125 (fun M8 eM8 => ?_)
        have hF := hF M8 eM8
        refine j_aload_n hJ dX11_field_128 rfl 0 rfl ?_
        refine j_ga hJ kC_0 fC_14_1 fl_X11_19 dX11_field_129 ?_
        refine j_iload_n hJ dX11_field_132 rfl 1 rfl ?_
        refine j_lload hJ dX11_field_133 5 rfl ?_
        refine j_iload_n hJ dX11_field_135 rfl 2 rfl ?_
        refine j_iload_n hJ dX11_field_136 rfl 2 rfl ?_
        refine j_iconst hJ dX11_field_137 ?_
        refine j_icmp_ne hJ 145 gx2 rk_5 dX11_field_138 (by decide) (fun z9 => ?_) (fun z9 => ?_)
        · have hF := hF.1 z9
          refine j_iconst hJ dX11_field_145 ?_
          exact j_sub hJ [0, 1, 2, 4] rfl (k_X11_field_b146 hst hin  hJ hT  x1 x2 x4 (-1) x2 x5 x1 _ gx1 gx2 gx4 rk_m1 gx2 gx5 gx1 hF)
        · have hF := hF.2 z9
          refine j_iload_n hJ dX11_field_141 rfl 3 rfl ?_
          refine j_goto hJ 146 dX11_field_142 (by decide) ?_
          exact j_sub hJ [0, 1, 2, 4] rfl (k_X11_field_b146 hst hin  hJ hT  x1 x2 x4 x3 x2 x5 x1 _ gx1 gx2 gx4 gx3 gx2 gx5 gx1 hF)
      · have hF := hF.2 z7
        exact j_sub hJ [] rfl (k_X11_field_b112 hst hin  hJ hT   _  hF)
set_option maxHeartbeats 4000000 in
set_option maxRecDepth 100000 in
theorem c_X11_field {l : Launch} {D : va_G} {cy : Nat → ClassId} {ad : Nat → Nat} (hst : l.stackTraces = false) (hin : jIn ad ksC.length) : jXN l D vwCl (tyC cy) cy ad ftC ksC (XtC ad) yX11_field (.code yX11_field cX11_field 8 (some .int) :: Om) ({ frames := 9, cells := 1, slots := 6, locals := 168 } : Room) 1 1 6 ["java/lang/IllegalArgumentException", "java/lang/IllegalStateException", "java/lang/IndexOutOfBoundsException"] (W_X11_field ad) := by
  refine jXN_of (y := yX11_field) (cc := cX11_field) (nL := 8) (rk := 1) (rm := ({ frames := 9, cells := 1, slots := 6, locals := 168 } : Room)) (own := RX11) 0 ["java/lang/IllegalArgumentException", "java/lang/IllegalStateException", "java/lang/IndexOutOfBoundsException"] hst (XtC_z ad) (tyC_ok cy) hin (XtC_ok ad) Om_good (by decide) rfl ⟨rfl, rfl⟩ ?_
  intro Q X av M hF
  obtain ⟨p1, p2, p3, p4, rfl, gp1, gp2, gp3, gp4, hF⟩ := hF
  refine ⟨Nat.le_of_ble_eq_true rfl, fun J hJ hT hC => ?_⟩
  have hJ0 := hJ 0 (by decide)
  have hT0 := hT 0 (by decide)
  show J 0 0 [(0, .ref (ad 0)), (1, .int (Ii p1)), (2, .int (Ii p2)), (3, .int (Ii p3)), (4, .int (Ii p4))] [] M
  unfold w_X11_field at hF
  refine j_aload_n hJ0 dX11_field_0 rfl 0 rfl ?_
  refine j_ga hJ0 kC_0 fC_14_1 fl_X11_19 dX11_field_1 ?_
  refine j_iload_n hJ0 dX11_field_4 rfl 1 rfl ?_
  refine j_callVz hJ0 (c_X10_isClass (l := l) (D := D) (cy := cy) (ad := ad) hin) rfl om_52 ⟨rfl, rfl, Nat.le_of_ble_eq_true rfl, Nat.le_of_ble_eq_true rfl⟩ [.int (Ii p1)] mv_X11_116 hd_X10_isClassv kC_8 rfl rfl rfl (Nat.le_of_ble_eq_true rfl) dX11_field_5 ⟨p1, rfl, gp1, hF⟩ (fun r1 M2 gr1 qM2 => ?_)
  have hF := qM2 gr1
  refine j_if_ne hJ0 19 (jz_ri gr1) dX11_field_8 (by decide) (fun z3 => ?_) (fun z3 => ?_)
  · have hF := hF.1 z3
    refine j_aload_n hJ0 dX11_field_19 rfl 0 rfl ?_
    refine j_ga hJ0 kC_0 fC_14_0 fl_X11_12 dX11_field_20 ?_
    refine j_callVl hJ0 (c_X9_wholeName (l := l) (D := D) (cy := cy) (ad := ad) hin) rfl om_775 ⟨rfl, rfl, Nat.le_of_ble_eq_true rfl, Nat.le_of_ble_eq_true rfl⟩ [] mv_X11_123 hd_X9_wholeNamev kC_1 rfl rfl rfl (Nat.le_of_ble_eq_true rfl) dX11_field_23 ⟨rfl, hF⟩ (fun r4 M5 gr4 qM5 => ?_)
    have hF := qM5 gr4
    refine j_lstore (lv' := [(5, .long (Ll r4)), (0, .ref (ad 0)), (1, .int (Ii p1)), (2, .int (Ii p2)), (3, .int (Ii p3)), (4, .int (Ii p4))]) hJ0 dX11_field_26 (by decide) rfl ?_
    refine j_lload hJ0 dX11_field_28 0 rfl ?_
    refine j_lconst (x := 0) hJ0 dX11_field_30 rfl ?_
    refine j_lcmp_eq hJ0 65 gr4 lkm_0 dX11_field_31 dX11_field_32 (by decide) (fun z6 => ?_) (fun z6 => ?_)
    · have hF := hF.1 z6
      exact j_sub hJ0 [] rfl (k_X11_field_b65 hst hin  hJ0 hT0   _  hF)
    · have hF := hF.2 z6
      refine j_iload_n hJ0 dX11_field_35 rfl 3 rfl ?_
      refine j_if_lt hJ0 65 gp2 dX11_field_36 (by decide) (fun z7 => ?_) (fun z7 => ?_)
      · have hF := hF.1 z7
        exact j_sub hJ0 [] rfl (k_X11_field_b65 hst hin  hJ0 hT0   _  hF)
      · have hF := hF.2 z7
        refine j_iload_n hJ0 dX11_field_39 rfl 3 rfl ?_
        refine j_iconst hJ0 dX11_field_40 ?_
        refine j_icmp_gt hJ0 65 gp2 rk_5 dX11_field_41 (by decide) (fun z8 => ?_) (fun z8 => ?_)
        · have hF := hF.1 z8
          exact j_sub hJ0 [] rfl (k_X11_field_b65 hst hin  hJ0 hT0   _  hF)
        · have hF := hF.2 z8
          refine j_iload_n hJ0 dX11_field_44 rfl 3 rfl ?_
          refine j_iconst hJ0 dX11_field_45 ?_
          refine j_icmp_ne hJ0 73 gp2 rk_5 dX11_field_46 (by decide) (fun z9 => ?_) (fun z9 => ?_)
          · have hF := hF.1 z9
            exact j_sub hJ0 [1, 2, 3, 4, 5, 0] rfl (k_X11_field_b73 hst hin  hJ0 hT0  p1 p2 p3 p4 r4 _ gp1 gp2 gp3 (jz_ri gp4) gr4 hF)
          · have hF := hF.2 z9
            refine j_iload_n hJ0 dX11_field_49 rfl 4 rfl ?_
            refine j_iconst hJ0 dX11_field_50 ?_
            refine j_icmp_eq hJ0 73 gp3 rk_m1 dX11_field_51 (by decide) (fun z10 => ?_) (fun z10 => ?_)
            · have hF := hF.1 z10
              exact j_sub hJ0 [1, 2, 3, 4, 5, 0] rfl (k_X11_field_b73 hst hin  hJ0 hT0  p1 p2 p3 p4 r4 _ gp1 gp2 gp3 (jz_ri gp4) gr4 hF)
            · have hF := hF.2 z10
              refine j_aload_n hJ0 dX11_field_54 rfl 1 rfl ?_
              refine j_ga hJ0 kC_0 fC_14_1 fl_X11_19 dX11_field_55 ?_
              refine j_iload_n hJ0 dX11_field_58 rfl 4 rfl ?_
              refine j_callVz hJ0 (c_X10_isType (l := l) (D := D) (cy := cy) (ad := ad) hin) rfl om_56 ⟨rfl, rfl, Nat.le_of_ble_eq_true rfl, Nat.le_of_ble_eq_true rfl⟩ [.int (Ii p3)] mv_X11_144 hd_X10_isTypev kC_8 rfl rfl rfl (Nat.le_of_ble_eq_true rfl) dX11_field_59 ⟨p3, rfl, gp3, hF⟩ (fun r11 M12 gr11 qM12 => ?_)
              have hF := qM12 gr11
              refine j_if_ne hJ0 73 (jz_ri gr11) dX11_field_62 (by decide) (fun z13 => ?_) (fun z13 => ?_)
              · have hF := hF.1 z13
                exact j_sub hJ0 [1, 2, 3, 4, 5, 0] rfl (k_X11_field_b73 hst hin  hJ0 hT0  p1 p2 p3 p4 r4 _ gp1 gp2 gp3 (jz_ri gp4) gr4 hF)
              · have hF := hF.2 z13
                exact j_sub hJ0 [] rfl (k_X11_field_b65 hst hin  hJ0 hT0   _  hF)
  · have hF := hF.2 z3
    exact hT0 _ _ _ _ _ _ _ (by decide) (tw_X11_120_122 (Nat.le_of_ble_eq_true rfl) (Nat.le_of_ble_eq_true rfl)) dX11_field_11 dX11_field_14 dX11_field_15 dX11_field_18 hF
def W_X11_typeLook (ad : Nat → Nat) (Q : Int → MM → Prop) (av : List Value) (M : MM) : Prop := ∃ (p1 : Int) (p2 : Int), av = [.ref (ad 0), .int (Ii p1), .int (Ii p2)] ∧ ri_ p1 ∧ ri_ p2 ∧ w_X11_typeLook  Q p1 p2 M
set_option maxHeartbeats 4000000 in
set_option maxRecDepth 100000 in
theorem c_X11_typeLook {l : Launch} {D : va_G} {cy : Nat → ClassId} {ad : Nat → Nat} (hin : jIn ad ksC.length) : jCN l D vwCl (tyC cy) cy ad ftC ksC (XtC ad) yX11_typeLook (.code yX11_typeLook cX11_typeLook 3 (some .int) :: Om) ({ frames := 2, cells := 0, slots := 0, locals := 45 } : Room) 1 (W_X11_typeLook ad) := by
  refine jCN_of (y := yX11_typeLook) (cc := cX11_typeLook) (nL := 3) (rk := 1) (rm := ({ frames := 2, cells := 0, slots := 0, locals := 45 } : Room)) (own := RX11) (tyC_ok cy) hin (XtC_ok ad) Om_good (by decide) rfl ?_
  intro Q av M hF
  obtain ⟨p1, p2, rfl, gp1, gp2, hF⟩ := hF
  refine ⟨Nat.le_of_ble_eq_true rfl, fun J hJ => ?_⟩
  show J 0 [(0, .ref (ad 0)), (1, .int (Ii p1)), (2, .int (Ii p2))] [] M
  unfold w_X11_typeLook at hF
  refine j_aload_n hJ dX11_typeLook_0 rfl 0 rfl ?_
  refine j_ga hJ kC_0 fC_14_1 fl_X11_19 dX11_typeLook_1 ?_
  refine j_iload_n hJ dX11_typeLook_4 rfl 1 rfl ?_
  refine j_callVz hJ (c_X10_isClass (l := l) (D := D) (cy := cy) (ad := ad) hin) rfl om_52 ⟨rfl, rfl, Nat.le_of_ble_eq_true rfl, Nat.le_of_ble_eq_true rfl⟩ [.int (Ii p1)] mv_X11_116 hd_X10_isClassv kC_8 rfl rfl rfl (Nat.le_of_ble_eq_true rfl) dX11_typeLook_5 ⟨p1, rfl, gp1, hF⟩ (fun r1 M2 gr1 qM2 => ?_)
  have hF := qM2 gr1
  refine j_if_ne hJ 13 (jz_ri gr1) dX11_typeLook_8 (by decide) (fun z3 => ?_) (fun z3 => ?_)
  · have hF := hF.1 z3
    refine j_iload_n hJ dX11_typeLook_13 rfl 2 rfl ?_
    by_cases z4 : p2 = 0
    · refine j_tabIn hJ 46 60 gp2 dX11_typeLook_14 (by omega) (by omega) (by rw [z4]; decide) (by decide) ?_
      have hF := hF.1 z4
      refine j_aload_n hJ dX11_typeLook_60 rfl 0 rfl ?_
      refine j_ga hJ kC_0 fC_14_1 fl_X11_19 dX11_typeLook_61 ?_
      refine j_gr (e := 11) hJ kC_8 fC_13_3 fl_X11_169 dX11_typeLook_64 rfl ?_
      refine j_iload_n hJ dX11_typeLook_67 rfl 1 rfl ?_
      refine j_iald hJ gp1 kC_11 hF.1 hF.2.1 dX11_typeLook_68 (fun v5 ev5 gv5 => ?_)
      have hF := hF.2.2 v5 ev5 gv5
      exact j_iret hJ rfl gv5 dX11_typeLook_69 hF
    by_cases z6 : p2 = 1
    · refine j_tabIn hJ 56 70 gp2 dX11_typeLook_14 (by omega) (by omega) (by rw [z6]; decide) (by decide) ?_
      have hF := hF.2.1 z6
      refine j_aload_n hJ dX11_typeLook_70 rfl 0 rfl ?_
      refine j_ga hJ kC_0 fC_14_1 fl_X11_19 dX11_typeLook_71 ?_
      refine j_gr (e := 10) hJ kC_8 fC_13_2 fl_X11_172 dX11_typeLook_74 rfl ?_
      refine j_iload_n hJ dX11_typeLook_77 rfl 1 rfl ?_
      refine j_iald hJ gp1 kC_10 hF.1 hF.2.1 dX11_typeLook_78 (fun v7 ev7 gv7 => ?_)
      have hF := hF.2.2 v7 ev7 gv7
      exact j_iret hJ rfl gv7 dX11_typeLook_79 hF
    by_cases z8 : p2 = 2
    · refine j_tabIn hJ 66 80 gp2 dX11_typeLook_14 (by omega) (by omega) (by rw [z8]; decide) (by decide) ?_
      have hF := hF.2.2.1 z8
      refine j_aload_n hJ dX11_typeLook_80 rfl 0 rfl ?_
      refine j_ga hJ kC_0 fC_14_1 fl_X11_19 dX11_typeLook_81 ?_
      refine j_gr (e := 14) hJ kC_8 fC_13_6 fl_X11_151 dX11_typeLook_84 rfl ?_
      refine j_iload_n hJ dX11_typeLook_87 rfl 1 rfl ?_
      refine j_iald hJ gp1 kC_14 hF.1 hF.2.1 dX11_typeLook_88 (fun v9 ev9 gv9 => ?_)
      have hF := hF.2.2 v9 ev9 gv9
      exact j_iret hJ rfl gv9 dX11_typeLook_89 hF
    by_cases z10 : p2 = 3
    · refine j_tabIn hJ 76 90 gp2 dX11_typeLook_14 (by omega) (by omega) (by rw [z10]; decide) (by decide) ?_
      have hF := hF.2.2.2.1 z10
      refine j_aload_n hJ dX11_typeLook_90 rfl 0 rfl ?_
      refine j_ga hJ kC_0 fC_14_1 fl_X11_19 dX11_typeLook_91 ?_
      refine j_gr (e := 16) hJ kC_8 fC_13_8 fl_X11_175 dX11_typeLook_94 rfl ?_
      refine j_iload_n hJ dX11_typeLook_97 rfl 1 rfl ?_
      refine j_iald hJ gp1 kC_16 hF.1 hF.2.1 dX11_typeLook_98 (fun v11 ev11 gv11 => ?_)
      have hF := hF.2.2 v11 ev11 gv11
      exact j_iret hJ rfl gv11 dX11_typeLook_99 hF
    by_cases z12 : p2 = 4
    · refine j_tabIn hJ 86 100 gp2 dX11_typeLook_14 (by omega) (by omega) (by rw [z12]; decide) (by decide) ?_
      have hF := hF.2.2.2.2.1 z12
      refine j_aload_n hJ dX11_typeLook_100 rfl 0 rfl ?_
      refine j_ga hJ kC_0 fC_14_1 fl_X11_19 dX11_typeLook_101 ?_
      refine j_iload_n hJ dX11_typeLook_104 rfl 1 rfl ?_
      refine j_iconst hJ dX11_typeLook_105 ?_
      refine j_callVi hJ (c_X10_sizeOf (l := l) (D := D) (cy := cy) (ad := ad) hin) rfl om_387 ⟨rfl, rfl, Nat.le_of_ble_eq_true rfl, Nat.le_of_ble_eq_true rfl⟩ [.int (Ii p1), .int (Ii 0)] mv_X11_178 hd_X10_sizeOfv kC_8 rfl rfl rfl (Nat.le_of_ble_eq_true rfl) dX11_typeLook_106 ⟨p1, 0, rfl, gp1, rk_0, hF⟩ (fun r13 M14 gr13 qM14 => ?_)
      have hF := qM14 gr13
      exact j_iret hJ rfl gr13 dX11_typeLook_109 hF
    by_cases z15 : p2 = 5
    · refine j_tabIn hJ 96 110 gp2 dX11_typeLook_14 (by omega) (by omega) (by rw [z15]; decide) (by decide) ?_
      have hF := hF.2.2.2.2.2.1 z15
      refine j_aload_n hJ dX11_typeLook_110 rfl 0 rfl ?_
      refine j_ga hJ kC_0 fC_14_1 fl_X11_19 dX11_typeLook_111 ?_
      refine j_gr (e := 12) hJ kC_8 fC_13_4 fl_X11_147 dX11_typeLook_114 rfl ?_
      refine j_iload_n hJ dX11_typeLook_117 rfl 1 rfl ?_
      refine j_zald hJ gp1 kC_12 hF.1 hF.2.1 dX11_typeLook_118 (fun v16 ev16 gv16 => ?_)
      have hF := hF.2.2 v16 ev16 gv16
      refine j_if_eq hJ 126 (jz_ri gv16) dX11_typeLook_119 (by decide) (fun z17 => ?_) (fun z17 => ?_)
      · have hF := hF.1 z17
        refine j_iconst hJ dX11_typeLook_126 ?_
        exact j_iret hJ rfl rk_0 dX11_typeLook_127 hF
      · have hF := hF.2 z17
        refine j_iconst hJ dX11_typeLook_122 ?_
        refine j_goto hJ 127 dX11_typeLook_123 (by decide) ?_
        exact j_iret hJ rfl rk_1 dX11_typeLook_127 hF
    by_cases z18 : p2 = 6
    · refine j_tabIn hJ 114 128 gp2 dX11_typeLook_14 (by omega) (by omega) (by rw [z18]; decide) (by decide) ?_
      have hF := hF.2.2.2.2.2.2.1 z18
      refine j_aload_n hJ dX11_typeLook_128 rfl 0 rfl ?_
      refine j_ga hJ kC_0 fC_14_1 fl_X11_19 dX11_typeLook_129 ?_
      refine j_gr (e := 15) hJ kC_8 fC_13_7 fl_X11_182 dX11_typeLook_132 rfl ?_
      refine j_iload_n hJ dX11_typeLook_135 rfl 1 rfl ?_
      refine j_iald hJ gp1 kC_15 hF.1 hF.2.1 dX11_typeLook_136 (fun v19 ev19 gv19 => ?_)
      have hF := hF.2.2 v19 ev19 gv19
      exact j_iret hJ rfl gv19 dX11_typeLook_137 hF
    by_cases z20 : p2 = 7
    · refine j_tabIn hJ 124 138 gp2 dX11_typeLook_14 (by omega) (by omega) (by rw [z20]; decide) (by decide) ?_
      have hF := hF.2.2.2.2.2.2.2.1 z20
      refine j_aload_n hJ dX11_typeLook_138 rfl 0 rfl ?_
      refine j_ga hJ kC_0 fC_14_2 fl_X11_28 dX11_typeLook_139 ?_
      refine j_iload_n hJ dX11_typeLook_142 rfl 1 rfl ?_
      refine j_callVi hJ (c_X2_countOf (l := l) (D := D) (cy := cy) (ad := ad) hin) rfl om_803 ⟨rfl, rfl, Nat.le_of_ble_eq_true rfl, Nat.le_of_ble_eq_true rfl⟩ [.int (Ii p1)] mv_X11_185 hd_X2_countOfv kC_26 rfl rfl rfl (Nat.le_of_ble_eq_true rfl) dX11_typeLook_143 ⟨p1, rfl, gp1, hF⟩ (fun r21 M22 gr21 qM22 => ?_)
      have hF := qM22 gr21
      exact j_iret hJ rfl gr21 dX11_typeLook_146 hF
    have z23 : ¬ p2 = 0 ∧ ¬ p2 = 1 ∧ ¬ p2 = 2 ∧ ¬ p2 = 3 ∧ ¬ p2 = 4 ∧ ¬ p2 = 5 ∧ ¬ p2 = 6 ∧ ¬ p2 = 7 := ⟨z4, z6, z8, z10, z12, z15, z18, z20⟩
    have hF := hF.2.2.2.2.2.2.2.2 z23
    refine j_tabOut hJ 147 gp2 dX11_typeLook_14 (by omega) (by decide) ?_
    refine j_iconst hJ dX11_typeLook_147 ?_
    exact j_iret hJ rfl rk_m1 dX11_typeLook_148 hF
  · have hF := hF.2 z3
    refine j_iconst hJ dX11_typeLook_11 ?_
    exact j_iret hJ rfl rk_m1 dX11_typeLook_12 hF
def W_X11_fieldLook (ad : Nat → Nat) (Q : Int → MM → Prop) (av : List Value) (M : MM) : Prop := ∃ (p1 : Int) (p2 : Int) (p3 : Int), av = [.ref (ad 0), .int (Ii p1), .int (Ii p2), .int (Ii p3)] ∧ ri_ p1 ∧ ri_ p2 ∧ ri_ p3 ∧ w_X11_fieldLook  Q p1 p2 p3 M
set_option maxHeartbeats 4000000 in
set_option maxRecDepth 100000 in
theorem c_X11_fieldLook {l : Launch} {D : va_G} {cy : Nat → ClassId} {ad : Nat → Nat} (hin : jIn ad ksC.length) : jCN l D vwCl (tyC cy) cy ad ftC ksC (XtC ad) yX11_fieldLook (.code yX11_fieldLook cX11_fieldLook 5 (some .int) :: Om) ({ frames := 2, cells := 0, slots := 0, locals := 43 } : Room) 1 (W_X11_fieldLook ad) := by
  refine jCN_of (y := yX11_fieldLook) (cc := cX11_fieldLook) (nL := 5) (rk := 1) (rm := ({ frames := 2, cells := 0, slots := 0, locals := 43 } : Room)) (own := RX11) (tyC_ok cy) hin (XtC_ok ad) Om_good (by decide) rfl ?_
  intro Q av M hF
  obtain ⟨p1, p2, p3, rfl, gp1, gp2, gp3, hF⟩ := hF
  refine ⟨Nat.le_of_ble_eq_true rfl, fun J hJ => ?_⟩
  show J 0 [(0, .ref (ad 0)), (1, .int (Ii p1)), (2, .int (Ii p2)), (3, .int (Ii p3))] [] M
  unfold w_X11_fieldLook at hF
  refine j_aload_n hJ dX11_fieldLook_0 rfl 0 rfl ?_
  refine j_ga hJ kC_0 fC_14_1 fl_X11_19 dX11_fieldLook_1 ?_
  refine j_iload_n hJ dX11_fieldLook_4 rfl 1 rfl ?_
  refine j_iload_n hJ dX11_fieldLook_5 rfl 2 rfl ?_
  refine j_callVz hJ (c_X10_hasField (l := l) (D := D) (cy := cy) (ad := ad) hin) rfl om_807 ⟨rfl, rfl, Nat.le_of_ble_eq_true rfl, Nat.le_of_ble_eq_true rfl⟩ [.int (Ii p1), .int (Ii p2)] mv_X11_188 hd_X10_hasFieldv kC_8 rfl rfl rfl (Nat.le_of_ble_eq_true rfl) dX11_fieldLook_6 ⟨p1, p2, rfl, gp1, gp2, hF⟩ (fun r1 M2 gr1 qM2 => ?_)
  have hF := qM2 gr1
  refine j_if_ne hJ 14 (jz_ri gr1) dX11_fieldLook_9 (by decide) (fun z3 => ?_) (fun z3 => ?_)
  · have hF := hF.1 z3
    refine j_iload_n hJ dX11_fieldLook_14 rfl 1 rfl ?_
    refine j_bipush hJ dX11_fieldLook_15 (by decide) ?_
    refine j_imul hJ dX11_fieldLook_17 ?_
    have g4 := hF.1; have hF := hF.2
    refine j_iload_n hJ dX11_fieldLook_18 rfl 2 rfl ?_
    refine j_iadd hJ dX11_fieldLook_19 ?_
    have g5 := hF.1; have hF := hF.2
    refine j_istore (lv' := [(4, .int (Ii ((p1 * 6) + p2))), (0, .ref (ad 0)), (1, .int (Ii p1)), (2, .int (Ii p2)), (3, .int (Ii p3))]) hJ dX11_fieldLook_20 (by decide) rfl ?_
    refine j_iload_n hJ dX11_fieldLook_22 rfl 4 rfl ?_
    by_cases z6 : p3 = 0
    · refine j_tabIn hJ 33 56 gp3 dX11_fieldLook_23 (by omega) (by omega) (by rw [z6]; decide) (by decide) ?_
      have hF := hF.1 z6
      refine j_aload_n hJ dX11_fieldLook_56 rfl 1 rfl ?_
      refine j_ga hJ kC_0 fC_14_1 fl_X11_19 dX11_fieldLook_57 ?_
      refine j_gr (e := 19) hJ kC_8 fC_13_11 fl_X11_192 dX11_fieldLook_60 rfl ?_
      refine j_iload hJ dX11_fieldLook_63 0 rfl ?_
      refine j_iald hJ g5 kC_19 hF.1 hF.2.1 dX11_fieldLook_65 (fun v7 ev7 gv7 => ?_)
      have hF := hF.2.2 v7 ev7 gv7
      exact j_iret hJ rfl gv7 dX11_fieldLook_66 hF
    by_cases z8 : p3 = 1
    · refine j_tabIn hJ 44 67 gp3 dX11_fieldLook_23 (by omega) (by omega) (by rw [z8]; decide) (by decide) ?_
      have hF := hF.2.1 z8
      refine j_aload_n hJ dX11_fieldLook_67 rfl 1 rfl ?_
      refine j_ga hJ kC_0 fC_14_1 fl_X11_19 dX11_fieldLook_68 ?_
      refine j_gr (e := 20) hJ kC_8 fC_13_12 fl_X11_195 dX11_fieldLook_71 rfl ?_
      refine j_iload hJ dX11_fieldLook_74 0 rfl ?_
      refine j_iald hJ g5 kC_20 hF.1 hF.2.1 dX11_fieldLook_76 (fun v9 ev9 gv9 => ?_)
      have hF := hF.2.2 v9 ev9 gv9
      exact j_iret hJ rfl gv9 dX11_fieldLook_77 hF
    by_cases z10 : p3 = 2
    · refine j_tabIn hJ 55 78 gp3 dX11_fieldLook_23 (by omega) (by omega) (by rw [z10]; decide) (by decide) ?_
      have hF := hF.2.2.1 z10
      refine j_aload_n hJ dX11_fieldLook_78 rfl 1 rfl ?_
      refine j_ga hJ kC_0 fC_14_1 fl_X11_19 dX11_fieldLook_79 ?_
      refine j_gr (e := 21) hJ kC_8 fC_13_13 fl_X11_198 dX11_fieldLook_82 rfl ?_
      refine j_iload hJ dX11_fieldLook_85 0 rfl ?_
      refine j_zald hJ g5 kC_21 hF.1 hF.2.1 dX11_fieldLook_87 (fun v11 ev11 gv11 => ?_)
      have hF := hF.2.2 v11 ev11 gv11
      refine j_if_eq hJ 95 (jz_ri gv11) dX11_fieldLook_88 (by decide) (fun z12 => ?_) (fun z12 => ?_)
      · have hF := hF.1 z12
        refine j_iconst hJ dX11_fieldLook_95 ?_
        exact j_iret hJ rfl rk_0 dX11_fieldLook_96 hF
      · have hF := hF.2 z12
        refine j_iconst hJ dX11_fieldLook_91 ?_
        refine j_goto hJ 96 dX11_fieldLook_92 (by decide) ?_
        exact j_iret hJ rfl rk_1 dX11_fieldLook_96 hF
    by_cases z13 : p3 = 3
    · refine j_tabIn hJ 74 97 gp3 dX11_fieldLook_23 (by omega) (by omega) (by rw [z13]; decide) (by decide) ?_
      have hF := hF.2.2.2.1 z13
      refine j_aload_n hJ dX11_fieldLook_97 rfl 1 rfl ?_
      refine j_ga hJ kC_0 fC_14_1 fl_X11_19 dX11_fieldLook_98 ?_
      refine j_gr (e := 22) hJ kC_8 fC_13_14 fl_X11_201 dX11_fieldLook_101 rfl ?_
      refine j_iload hJ dX11_fieldLook_104 0 rfl ?_
      refine j_iald hJ g5 kC_22 hF.1 hF.2.1 dX11_fieldLook_106 (fun v14 ev14 gv14 => ?_)
      have hF := hF.2.2 v14 ev14 gv14
      exact j_iret hJ rfl gv14 dX11_fieldLook_107 hF
    by_cases z15 : p3 = 4
    · refine j_tabIn hJ 85 108 gp3 dX11_fieldLook_23 (by omega) (by omega) (by rw [z15]; decide) (by decide) ?_
      have hF := hF.2.2.2.2.1 z15
      refine j_aload_n hJ dX11_fieldLook_108 rfl 1 rfl ?_
      refine j_ga hJ kC_0 fC_14_1 fl_X11_19 dX11_fieldLook_109 ?_
      refine j_gr (e := 21) hJ kC_8 fC_13_13 fl_X11_198 dX11_fieldLook_112 rfl ?_
      refine j_iload hJ dX11_fieldLook_115 0 rfl ?_
      refine j_zald hJ g5 kC_21 hF.1 hF.2.1 dX11_fieldLook_117 (fun v16 ev16 gv16 => ?_)
      have hF := hF.2.2 v16 ev16 gv16
      refine j_if_eq hJ 125 (jz_ri gv16) dX11_fieldLook_118 (by decide) (fun z17 => ?_) (fun z17 => ?_)
      · have hF := hF.1 z17
        refine j_aload_n hJ dX11_fieldLook_125 rfl 1 rfl ?_
        refine j_ga hJ kC_0 fC_14_1 fl_X11_19 dX11_fieldLook_126 ?_
        refine j_iload_n hJ dX11_fieldLook_129 rfl 2 rfl ?_
        refine j_iload_n hJ dX11_fieldLook_130 rfl 3 rfl ?_
        refine j_callVi hJ (c_X10_firstByte (l := l) (D := D) (cy := cy) (ad := ad) hin) rfl om_761 ⟨rfl, rfl, Nat.le_of_ble_eq_true rfl, Nat.le_of_ble_eq_true rfl⟩ [.int (Ii p1), .int (Ii p2)] mv_X11_204 hd_X10_firstBytev kC_8 rfl rfl rfl (Nat.le_of_ble_eq_true rfl) dX11_fieldLook_131 ⟨p1, p2, rfl, gp1, gp2, hF⟩ (fun r18 M19 gr18 qM19 => ?_)
        have hF := qM19 gr18
        exact j_iret hJ rfl gr18 dX11_fieldLook_134 hF
      · have hF := hF.2 z17
        refine j_iconst hJ dX11_fieldLook_121 ?_
        refine j_goto hJ 134 dX11_fieldLook_122 (by decide) ?_
        exact j_iret hJ rfl rk_m1 dX11_fieldLook_134 hF
    have z20 : ¬ p3 = 0 ∧ ¬ p3 = 1 ∧ ¬ p3 = 2 ∧ ¬ p3 = 3 ∧ ¬ p3 = 4 := ⟨z6, z8, z10, z13, z15⟩
    have hF := hF.2.2.2.2.2 z20
    refine j_tabOut hJ 135 gp3 dX11_fieldLook_23 (by omega) (by decide) ?_
    refine j_iconst hJ dX11_fieldLook_135 ?_
    exact j_iret hJ rfl rk_m1 dX11_fieldLook_136 hF
  · have hF := hF.2 z3
    refine j_iconst hJ dX11_fieldLook_12 ?_
    exact j_iret hJ rfl rk_m1 dX11_fieldLook_13 hF
def W_X11_make (ad : Nat → Nat) (Q : Int → MM → Prop) (X : String → MM → Prop) (av : List Value) (M : MM) : Prop := ∃ (p1 : Int) (p2 : Int), av = [.ref (ad 0), .int (Ii p1), .int (Ii p2)] ∧ ri_ p1 ∧ ri_ p2 ∧ w_X11_make  Q X p1 p2 M
set_option maxHeartbeats 4000000 in
set_option maxRecDepth 100000 in
theorem k_X11_make_b28 {l : Launch} {D : va_G} {cy : Nat → ClassId} {ad : Nat → Nat} {Q : Int → MM → Prop} {X : String → MM → Prop} {J : Nat → List (Nat × Value) → List Value → MM → Prop} (hst : l.stackTraces = false) (hin : jIn ad ksC.length)   (hJ : jOk l D vwCl (tyC cy) cy ad ftC ksC (XtC ad) Om RX11 cX11_make 4 1 ({ frames := 9, cells := 1, slots := 6, locals := 140 } : Room) Q J) (hT : jTh RX11 cX11_make Om ({ frames := 9, cells := 1, slots := 6, locals := 140 } : Room) ["java/lang/IllegalArgumentException", "java/lang/IllegalStateException"] X J)  : ∀ (M : MM), w_X11_make_b28  Q X   M → J 28 [] [] M := by
  intro  M  hF
  unfold w_X11_make_b28 at hF
  exact hT _ _ _ _ _ _ _ (by decide) (tw_X11_127_129 (Nat.le_of_ble_eq_true rfl) (Nat.le_of_ble_eq_true rfl)) dX11_make_28 dX11_make_31 dX11_make_32 dX11_make_35 hF
set_option maxHeartbeats 4000000 in
set_option maxRecDepth 100000 in
theorem k_X11_make_b48 {l : Launch} {D : va_G} {cy : Nat → ClassId} {ad : Nat → Nat} {Q : Int → MM → Prop} {X : String → MM → Prop} {J : Nat → List (Nat × Value) → List Value → MM → Prop} (hst : l.stackTraces = false) (hin : jIn ad ksC.length)   (hJ : jOk l D vwCl (tyC cy) cy ad ftC ksC (XtC ad) Om RX11 cX11_make 4 1 ({ frames := 9, cells := 1, slots := 6, locals := 140 } : Room) Q J) (hT : jTh RX11 cX11_make Om ({ frames := 9, cells := 1, slots := 6, locals := 140 } : Room) ["java/lang/IllegalArgumentException", "java/lang/IllegalStateException"] X J)  : ∀ (x1 s0 : Int) (M : MM), ri_ x1 → ri_ s0 → w_X11_make_b48  Q X  x1 s0 M → J 48 [(0, .ref (ad 0)), (1, .int (Ii x1))] [.int (Ii s0)] M := by
  intro x1 s0 M gx1 gs0 hF
  unfold w_X11_make_b48 at hF
  refine j_istore_n (lv' := [(3, .int (Ii s0)), (0, .ref (ad 0)), (1, .int (Ii x1))]) hJ dX11_make_48 rfl (by decide) rfl ?_
  refine j_aload_n hJ dX11_make_49 rfl 1 rfl ?_
  refine j_ga hJ kC_0 fC_14_2 fl_X11_28 dX11_make_50 ?_
  refine j_iconst hJ dX11_make_53 ?_
  refine j_aload_n hJ dX11_make_54 rfl 1 rfl ?_
  refine j_ga hJ kC_0 fC_14_1 fl_X11_19 dX11_make_55 ?_
  refine j_iload_n hJ dX11_make_58 rfl 2 rfl ?_
  refine j_iload_n hJ dX11_make_59 rfl 0 rfl ?_
  refine j_callVi hJ (c_X10_slotsOf (l := l) (D := D) (cy := cy) (ad := ad) hin) rfl om_44 ⟨rfl, rfl, Nat.le_of_ble_eq_true rfl, Nat.le_of_ble_eq_true rfl⟩ [.int (Ii x1), .int (Ii s0)] mv_X11_210 hd_X10_slotsOfv kC_8 rfl rfl rfl (Nat.le_of_ble_eq_true rfl) dX11_make_60 ⟨x1, s0, rfl, gx1, gs0, hF⟩ (fun r1 M2 gr1 qM2 => ?_)
  have hF := qM2 gr1
  refine j_callVz hJ (c_X2_hasRoom (l := l) (D := D) (cy := cy) (ad := ad) hin) rfl om_245 ⟨rfl, rfl, Nat.le_of_ble_eq_true rfl, Nat.le_of_ble_eq_true rfl⟩ [.int (Ii 1), .int (Ii r1)] mv_X11_213 hd_X2_hasRoomv kC_26 rfl rfl rfl (Nat.le_of_ble_eq_true rfl) dX11_make_63 ⟨1, r1, rfl, rk_1, gr1, hF⟩ (fun r3 M4 gr3 qM4 => ?_)
  have hF := qM4 gr3
  refine j_if_ne hJ 77 (jz_ri gr3) dX11_make_66 (by decide) (fun z5 => ?_) (fun z5 => ?_)
  · have hF := hF.1 z5
    refine j_aload_n hJ dX11_make_77 rfl 1 rfl ?_
    refine j_ga hJ kC_0 fC_14_2 fl_X11_28 dX11_make_78 ?_
    refine j_iload_n hJ dX11_make_81 rfl 2 rfl ?_
    refine j_iload_n hJ dX11_make_82 rfl 0 rfl ?_
    refine j_callVi hJ (c_X2_create (l := l) (D := D) (cy := cy) (ad := ad) hin) rfl om_253 ⟨rfl, rfl, Nat.le_of_ble_eq_true rfl, Nat.le_of_ble_eq_true rfl⟩ [.int (Ii x1), .int (Ii s0)] mv_X11_216 hd_X2_createv kC_26 rfl rfl rfl (Nat.le_of_ble_eq_true rfl) dX11_make_83 ⟨x1, s0, rfl, gx1, gs0, hF⟩ (fun r6 M7 gr6 qM7 => ?_)
    have hF := qM7 gr6
    exact j_iret hJ rfl gr6 dX11_make_86 hF
  · have hF := hF.2 z5
    exact hT _ _ _ _ _ _ _ (by decide) (tw_X11_137_139 (Nat.le_of_ble_eq_true rfl) (Nat.le_of_ble_eq_true rfl)) dX11_make_69 dX11_make_72 dX11_make_73 dX11_make_76 hF
set_option maxHeartbeats 4000000 in
set_option maxRecDepth 100000 in
theorem k_X11_make_b36 {l : Launch} {D : va_G} {cy : Nat → ClassId} {ad : Nat → Nat} {Q : Int → MM → Prop} {X : String → MM → Prop} {J : Nat → List (Nat × Value) → List Value → MM → Prop} (hst : l.stackTraces = false) (hin : jIn ad ksC.length)   (hJ : jOk l D vwCl (tyC cy) cy ad ftC ksC (XtC ad) Om RX11 cX11_make 4 1 ({ frames := 9, cells := 1, slots := 6, locals := 140 } : Room) Q J) (hT : jTh RX11 cX11_make Om ({ frames := 9, cells := 1, slots := 6, locals := 140 } : Room) ["java/lang/IllegalArgumentException", "java/lang/IllegalStateException"] X J)  : ∀ (x1 x2 : Int) (M : MM), ri_ x1 → ri_ x2 → w_X11_make_b36  Q X  x1 x2 M → J 36 [(0, .ref (ad 0)), (1, .int (Ii x1)), (2, .int (Ii x2))] [] M := by
  intro x1 x2 M gx1 gx2 hF
  unfold w_X11_make_b36 at hF
  refine j_iload_n hJ dX11_make_36 rfl 1 rfl ?_
  refine j_callSz hJ (c_X10_isArray (l := l) (D := D) (cy := cy) (ad := ad) hin) rfl om_39 ⟨rfl, rfl, Nat.le_of_ble_eq_true rfl, Nat.le_of_ble_eq_true rfl⟩ [.int (Ii x1)] mv_X11_207 hd_X10_isArray rfl (Nat.le_of_ble_eq_true rfl) dX11_make_37 ⟨x1, rfl, gx1, hF⟩ (fun r1 M2 gr1 qM2 => ?_)
  have hF := qM2 gr1
  refine j_if_eq hJ 47 (jz_ri gr1) dX11_make_40 (by decide) (fun z3 => ?_) (fun z3 => ?_)
  · have hF := hF.1 z3
    refine j_iconst hJ dX11_make_47 ?_
    exact j_sub hJ [0, 1] rfl (k_X11_make_b48 hst hin  hJ hT  x1 0 _ gx1 rk_0 hF)
  · have hF := hF.2 z3
    refine j_iload_n hJ dX11_make_43 rfl 2 rfl ?_
    refine j_goto hJ 48 dX11_make_44 (by decide) ?_
    exact j_sub hJ [0, 1] rfl (k_X11_make_b48 hst hin  hJ hT  x1 x2 _ gx1 gx2 hF)
set_option maxHeartbeats 4000000 in
set_option maxRecDepth 100000 in
theorem c_X11_make {l : Launch} {D : va_G} {cy : Nat → ClassId} {ad : Nat → Nat} (hst : l.stackTraces = false) (hin : jIn ad ksC.length) : jXN l D vwCl (tyC cy) cy ad ftC ksC (XtC ad) yX11_make (.code yX11_make cX11_make 4 (some .int) :: Om) ({ frames := 9, cells := 1, slots := 6, locals := 140 } : Room) 1 1 6 ["java/lang/IllegalArgumentException", "java/lang/IllegalStateException"] (W_X11_make ad) := by
  refine jXN_of (y := yX11_make) (cc := cX11_make) (nL := 4) (rk := 1) (rm := ({ frames := 9, cells := 1, slots := 6, locals := 140 } : Room)) (own := RX11) 0 ["java/lang/IllegalArgumentException", "java/lang/IllegalStateException"] hst (XtC_z ad) (tyC_ok cy) hin (XtC_ok ad) Om_good (by decide) rfl ⟨rfl, rfl⟩ ?_
  intro Q X av M hF
  obtain ⟨p1, p2, rfl, gp1, gp2, hF⟩ := hF
  refine ⟨Nat.le_of_ble_eq_true rfl, fun J hJ hT hC => ?_⟩
  have hJ0 := hJ 0 (by decide)
  have hT0 := hT 0 (by decide)
  show J 0 0 [(0, .ref (ad 0)), (1, .int (Ii p1)), (2, .int (Ii p2))] [] M
  unfold w_X11_make at hF
  refine j_aload_n hJ0 dX11_make_0 rfl 0 rfl ?_
  refine j_ga hJ0 kC_0 fC_14_1 fl_X11_19 dX11_make_1 ?_
  refine j_iload_n hJ0 dX11_make_4 rfl 1 rfl ?_
  refine j_callVz hJ0 (c_X10_isType (l := l) (D := D) (cy := cy) (ad := ad) hin) rfl om_56 ⟨rfl, rfl, Nat.le_of_ble_eq_true rfl, Nat.le_of_ble_eq_true rfl⟩ [.int (Ii p1)] mv_X11_144 hd_X10_isTypev kC_8 rfl rfl rfl (Nat.le_of_ble_eq_true rfl) dX11_make_5 ⟨p1, rfl, gp1, hF⟩ (fun r1 M2 gr1 qM2 => ?_)
  have hF := qM2 gr1
  refine j_if_eq hJ0 28 (jz_ri gr1) dX11_make_8 (by decide) (fun z3 => ?_) (fun z3 => ?_)
  · have hF := hF.1 z3
    exact j_sub hJ0 [] rfl (k_X11_make_b28 hst hin  hJ0 hT0   _  hF)
  · have hF := hF.2 z3
    refine j_iload_n hJ0 dX11_make_11 rfl 1 rfl ?_
    refine j_callSz hJ0 (c_X10_isArray (l := l) (D := D) (cy := cy) (ad := ad) hin) rfl om_39 ⟨rfl, rfl, Nat.le_of_ble_eq_true rfl, Nat.le_of_ble_eq_true rfl⟩ [.int (Ii p1)] mv_X11_207 hd_X10_isArray rfl (Nat.le_of_ble_eq_true rfl) dX11_make_12 ⟨p1, rfl, gp1, hF⟩ (fun r4 M5 gr4 qM5 => ?_)
    have hF := qM5 gr4
    refine j_if_eq hJ0 36 (jz_ri gr4) dX11_make_15 (by decide) (fun z6 => ?_) (fun z6 => ?_)
    · have hF := hF.1 z6
      exact j_sub hJ0 [0, 1, 2] rfl (k_X11_make_b36 hst hin  hJ0 hT0  p1 p2 _ gp1 gp2 hF)
    · have hF := hF.2 z6
      refine j_iload_n hJ0 dX11_make_18 rfl 2 rfl ?_
      refine j_if_lt hJ0 28 gp2 dX11_make_19 (by decide) (fun z7 => ?_) (fun z7 => ?_)
      · have hF := hF.1 z7
        exact j_sub hJ0 [] rfl (k_X11_make_b28 hst hin  hJ0 hT0   _  hF)
      · have hF := hF.2 z7
        refine j_iload_n hJ0 dX11_make_22 rfl 2 rfl ?_
        refine j_bipush hJ0 dX11_make_23 (by decide) ?_
        refine j_icmp_le hJ0 36 gp2 rk_60 dX11_make_25 (by decide) (fun z8 => ?_) (fun z8 => ?_)
        · have hF := hF.1 z8
          exact j_sub hJ0 [0, 1, 2] rfl (k_X11_make_b36 hst hin  hJ0 hT0  p1 p2 _ gp1 gp2 hF)
        · have hF := hF.2 z8
          exact j_sub hJ0 [] rfl (k_X11_make_b28 hst hin  hJ0 hT0   _  hF)
def W_X11_root (ad : Nat → Nat) (Q : Int → MM → Prop) (X : String → MM → Prop) (av : List Value) (M : MM) : Prop := ∃ (p1 : Int) (p2 : Int), av = [.ref (ad 0), .int (Ii p1), .int (Ii p2)] ∧ ri_ p1 ∧ (p2 = 0 ∨ p2 = 1) ∧ w_X11_root  Q X p1 p2 M
set_option maxHeartbeats 4000000 in
set_option maxRecDepth 100000 in
theorem k_X11_root_b86 {l : Launch} {D : va_G} {cy : Nat → ClassId} {ad : Nat → Nat} {Q : Int → MM → Prop} {X : String → MM → Prop} {J : Nat → List (Nat × Value) → List Value → MM → Prop} (hst : l.stackTraces = false) (hin : jIn ad ksC.length)   (hJ : jOk l D vwCl (tyC cy) cy ad ftC ksC (XtC ad) Om RX11 cX11_root 4 0 ({ frames := 9, cells := 1, slots := 6, locals := 140 } : Room) Q J) (hT : jTh RX11 cX11_root Om ({ frames := 9, cells := 1, slots := 6, locals := 140 } : Room) ["java/lang/IllegalStateException", "java/util/NoSuchElementException"] X J)  : ∀ (x2 x3 : Int) (M : MM), ri_ x2 → ri_ x3 → w_X11_root_b86  Q X  x2 x3 M → J 86 [(0, .ref (ad 0)), (2, .int (Ii x2)), (3, .int (Ii x3))] [] M := by
  intro x2 x3 M gx2 gx3 hF
  unfold w_X11_root_b86 at hF
  refine j_iload_n hJ dX11_root_86 rfl 1 rfl ?_
  refine j_if_ne hJ 103 gx2 dX11_root_87 (by decide) (fun z1 => ?_) (fun z1 => ?_)
  · have hF := hF.1 z1
    exact j_vret hJ rfl dX11_root_103 hF
  · have hF := hF.2 z1
    refine j_iload_n hJ dX11_root_90 rfl 2 rfl ?_
    refine j_iconst hJ dX11_root_91 ?_
    refine j_icmp_eq hJ 103 gx3 rk_m1 dX11_root_92 (by decide) (fun z2 => ?_) (fun z2 => ?_)
    · have hF := hF.1 z2
      exact j_vret hJ rfl dX11_root_103 hF
    · have hF := hF.2 z2
      refine j_aload_n hJ dX11_root_95 rfl 0 rfl ?_
      refine j_ga hJ kC_0 fC_14_2 fl_X11_28 dX11_root_96 ?_
      refine j_iload_n hJ dX11_root_99 rfl 2 rfl ?_
      refine j_callVv hJ (c_X2_dropRoot (l := l) (D := D) (cy := cy) (ad := ad) hin) rfl om_821 ⟨rfl, rfl, Nat.le_of_ble_eq_true rfl, Nat.le_of_ble_eq_true rfl⟩ [.int (Ii x3)] mv_X11_234 hd_X2_dropRootv kC_26 rfl rfl rfl (Nat.le_of_ble_eq_true rfl) dX11_root_100 ⟨x3, rfl, gx3, hF⟩ (fun M4 qM4 => ?_)
      have hF := qM4
      exact j_vret hJ rfl dX11_root_103 hF
set_option maxHeartbeats 4000000 in
set_option maxRecDepth 100000 in
theorem c_X11_root {l : Launch} {D : va_G} {cy : Nat → ClassId} {ad : Nat → Nat} (hst : l.stackTraces = false) (hin : jIn ad ksC.length) : jXN l D vwCl (tyC cy) cy ad ftC ksC (XtC ad) yX11_root (.code yX11_root cX11_root 4 none :: Om) ({ frames := 9, cells := 1, slots := 6, locals := 140 } : Room) 0 1 6 ["java/lang/IllegalStateException", "java/util/NoSuchElementException"] (W_X11_root ad) := by
  refine jXN_of (y := yX11_root) (cc := cX11_root) (nL := 4) (rk := 0) (rm := ({ frames := 9, cells := 1, slots := 6, locals := 140 } : Room)) (own := RX11) 0 ["java/lang/IllegalStateException", "java/util/NoSuchElementException"] hst (XtC_z ad) (tyC_ok cy) hin (XtC_ok ad) Om_good (by decide) rfl ⟨rfl, rfl⟩ ?_
  intro Q X av M hF
  obtain ⟨p1, p2, rfl, gp1, gp2, hF⟩ := hF
  refine ⟨Nat.le_of_ble_eq_true rfl, fun J hJ hT hC => ?_⟩
  have hJ0 := hJ 0 (by decide)
  have hT0 := hT 0 (by decide)
  show J 0 0 [(0, .ref (ad 0)), (1, .int (Ii p1)), (2, .int (Ii p2))] [] M
  unfold w_X11_root at hF
  refine j_aload_n hJ0 dX11_root_0 rfl 0 rfl ?_
  refine j_ga hJ0 kC_0 fC_14_2 fl_X11_28 dX11_root_1 ?_
  refine j_iload_n hJ0 dX11_root_4 rfl 1 rfl ?_
  refine j_callVz hJ0 (c_X2_isThere (l := l) (D := D) (cy := cy) (ad := ad) hin) rfl om_177 ⟨rfl, rfl, Nat.le_of_ble_eq_true rfl, Nat.le_of_ble_eq_true rfl⟩ [.int (Ii p1)] mv_X11_219 hd_X2_isTherev kC_26 rfl rfl rfl (Nat.le_of_ble_eq_true rfl) dX11_root_5 ⟨p1, rfl, gp1, hF⟩ (fun r1 M2 gr1 qM2 => ?_)
  have hF := qM2 gr1
  refine j_if_ne hJ0 19 (jz_ri gr1) dX11_root_8 (by decide) (fun z3 => ?_) (fun z3 => ?_)
  · have hF := hF.1 z3
    refine j_aload_n hJ0 dX11_root_19 rfl 0 rfl ?_
    refine j_ga hJ0 kC_0 fC_14_2 fl_X11_28 dX11_root_20 ?_
    refine j_iload_n hJ0 dX11_root_23 rfl 1 rfl ?_
    refine j_callVi hJ0 (c_X2_rootPlace (l := l) (D := D) (cy := cy) (ad := ad) hin) rfl om_817 ⟨rfl, rfl, Nat.le_of_ble_eq_true rfl, Nat.le_of_ble_eq_true rfl⟩ [.int (Ii p1)] mv_X11_225 hd_X2_rootPlacev kC_26 rfl rfl rfl (Nat.le_of_ble_eq_true rfl) dX11_root_24 ⟨p1, rfl, gp1, hF⟩ (fun r4 M5 gr4 qM5 => ?_)
    have hF := qM5 gr4
    refine j_istore_n (lv' := [(3, .int (Ii r4)), (0, .ref (ad 0)), (1, .int (Ii p1)), (2, .int (Ii p2))]) hJ0 dX11_root_27 rfl (by decide) rfl ?_
    refine j_iload_n hJ0 dX11_root_28 rfl 3 rfl ?_
    refine j_if_eq hJ0 86 (jz_ri gp2) dX11_root_29 (by decide) (fun z6 => ?_) (fun z6 => ?_)
    · have hF := hF.1 z6
      exact j_sub hJ0 [1, 3, 0] rfl (k_X11_root_b86 hst hin  hJ0 hT0  p2 r4 _ (jz_ri gp2) gr4 hF)
    · have hF := hF.2 z6
      refine j_iload_n hJ0 dX11_root_32 rfl 0 rfl ?_
      refine j_iconst hJ0 dX11_root_33 ?_
      refine j_icmp_ne hJ0 86 gr4 rk_m1 dX11_root_34 (by decide) (fun z7 => ?_) (fun z7 => ?_)
      · have hF := hF.1 z7
        exact j_sub hJ0 [1, 3, 0] rfl (k_X11_root_b86 hst hin  hJ0 hT0  p2 r4 _ (jz_ri gp2) gr4 hF)
      · have hF := hF.2 z7
        refine j_aload_n hJ0 dX11_root_37 rfl 1 rfl ?_
        refine j_ga hJ0 kC_0 fC_14_2 fl_X11_28 dX11_root_38 ?_
        refine j_gi hJ0 kC_26 fC_5_11 rfl fl_X11_228 dX11_root_41 (fun v8 ev8 gv8 => ?_)
        have hF := hF v8 ev8 gv8
        refine j_bipush hJ0 dX11_root_44 (by decide) ?_
        refine j_icmp_ne hJ0 57 gv8 rk_12 dX11_root_46 (by decide) (fun z9 => ?_) (fun z9 => ?_)
        · have hF := hF.1 z9
          refine j_aload_n hJ0 dX11_root_57 rfl 1 rfl ?_
          refine j_ga hJ0 kC_0 fC_14_2 fl_X11_28 dX11_root_58 ?_
          refine j_gr (e := 33) hJ0 kC_26 fC_5_10 fl_X11_231 dX11_root_61 rfl ?_
          refine j_aload_n hJ0 dX11_root_64 rfl 1 rfl ?_
          refine j_ga hJ0 kC_0 fC_14_2 fl_X11_28 dX11_root_65 ?_
          refine j_gi hJ0 kC_26 fC_5_11 rfl fl_X11_228 dX11_root_68 (fun v10 ev10 gv10 => ?_)
          have hF := hF v10 ev10 gv10
          refine j_iload_n hJ0 dX11_root_71 rfl 2 rfl ?_
          refine j_iast hJ0 gv10 gp1 kC_33 hF.1 hF.2.1 dX11_root_72 (fun M11 eM11 => ?_)
          have hF := hF.2.2 M11 eM11
          refine j_aload_n hJ0 dX11_root_73 rfl 1 rfl ?_
          refine j_ga hJ0 kC_0 fC_14_2 fl_X11_28 dX11_root_74 ?_
          refine j_dup hJ0 dX11_root_77 rfl ?_
          refine j_gi hJ0 kC_26 fC_5_11 rfl fl_X11_228 dX11_root_78 (fun v12 ev12 gv12 => ?_)
          have hF := hF v12 ev12 gv12
          refine j_iconst hJ0 dX11_root_81 ?_
          refine j_iadd hJ0 dX11_root_82 ?_
          have g13 := hF.1; have hF := hF.2
          refine j_pi hJ0 g13 kC_26 fC_5_11 rfl fp_X11_228 dX11_root_83 (fun M14 eM14 => ?_)
          have hF := hF M14 eM14
          exact j_sub hJ0 [1, 3, 0] rfl (k_X11_root_b86 hst hin  hJ0 hT0  p2 r4 _ (jz_ri gp2) gr4 hF)
        · have hF := hF.2 z9
          exact hT0 _ _ _ _ _ _ _ (by decide) (tw_X11_137_139 (Nat.le_of_ble_eq_true rfl) (Nat.le_of_ble_eq_true rfl)) dX11_root_49 dX11_root_52 dX11_root_53 dX11_root_56 hF
  · have hF := hF.2 z3
    exact hT0 _ _ _ _ _ _ _ (by decide) (tw_X11_222_224 (Nat.le_of_ble_eq_true rfl) (Nat.le_of_ble_eq_true rfl)) dX11_root_11 dX11_root_14 dX11_root_15 dX11_root_18 hF
def W_X11_checkPromises (ad : Nat → Nat) (Q : Int → MM → Prop) (av : List Value) (M : MM) : Prop := ∃ (p1 : Int), av = [.ref (ad 0), .int (Ii p1)] ∧ ri_ p1 ∧ w_X11_checkPromises  Q p1 M
set_option maxHeartbeats 4000000 in
set_option maxRecDepth 100000 in
theorem k_X11_checkPromises_b80 {l : Launch} {D : va_G} {cy : Nat → ClassId} {ad : Nat → Nat} {Q : Int → MM → Prop} {J : Nat → List (Nat × Value) → List Value → MM → Prop} (hin : jIn ad ksC.length)   (hJ : jOk l D vwCl (tyC cy) cy ad ftC ksC (XtC ad) Om RX11 cX11_checkPromises 4 0 ({ frames := 6, cells := 0, slots := 0, locals := 146 } : Room) Q J) {K4 : Int → Int → Int → MM → Prop} (hK4 : ∀ (x1 x2 x3 : Int) (M : MM), ri_ x1 → ri_ x2 → ri_ x3 → K4 x1 x2 x3 M → J 4 [(0, .ref (ad 0)), (1, .int (Ii x1)), (2, .int (Ii x2)), (3, .int (Ii x3))] [] M) : ∀ (x1 x2 x3 : Int) (M : MM), ri_ x1 → ri_ x2 → ri_ x3 → w_X11_checkPromises_b80  Q K4 x1 x2 x3 M → J 80 [(0, .ref (ad 0)), (1, .int (Ii x1)), (2, .int (Ii x2)), (3, .int (Ii x3))] [] M := by
  intro x1 x2 x3 M gx1 gx2 gx3 hF
  unfold w_X11_checkPromises_b80 at hF
  refine j_iinc (lv' := [(3, .int (Ii (x3 + 1))), (0, .ref (ad 0)), (1, .int (Ii x1)), (2, .int (Ii x2))]) (k := 3) hJ dX11_checkPromises_80 rfl (by decide) rfl ?_
  have g1 := hF.1; have hF := hF.2
  refine j_goto hJ 4 dX11_checkPromises_83 (by decide) ?_
  exact j_sub hJ [1, 2, 3, 0] rfl (hK4 x1 x2 (x3 + 1) _ gx1 gx2 g1 hF)
set_option maxHeartbeats 4000000 in
set_option maxRecDepth 100000 in
theorem k_X11_checkPromises_b73 {l : Launch} {D : va_G} {cy : Nat → ClassId} {ad : Nat → Nat} {Q : Int → MM → Prop} {J : Nat → List (Nat × Value) → List Value → MM → Prop} (hin : jIn ad ksC.length)   (hJ : jOk l D vwCl (tyC cy) cy ad ftC ksC (XtC ad) Om RX11 cX11_checkPromises 4 0 ({ frames := 6, cells := 0, slots := 0, locals := 146 } : Room) Q J) {K4 : Int → Int → Int → MM → Prop} (hK4 : ∀ (x1 x2 x3 : Int) (M : MM), ri_ x1 → ri_ x2 → ri_ x3 → K4 x1 x2 x3 M → J 4 [(0, .ref (ad 0)), (1, .int (Ii x1)), (2, .int (Ii x2)), (3, .int (Ii x3))] [] M) : ∀ (x1 x2 x3 : Int) (M : MM), ri_ x1 → ri_ x2 → ri_ x3 → w_X11_checkPromises_b73  Q K4 x1 x2 x3 M → J 73 [(0, .ref (ad 0)), (1, .int (Ii x1)), (2, .int (Ii x2)), (3, .int (Ii x3))] [] M := by
  intro x1 x2 x3 M gx1 gx2 gx3 hF
  unfold w_X11_checkPromises_b73 at hF
  refine j_aload_n hJ dX11_checkPromises_73 rfl 0 rfl ?_
  refine j_ga hJ kC_0 fC_14_9 fl_X11_70 dX11_checkPromises_74 ?_
  refine j_iload_n hJ dX11_checkPromises_77 rfl 3 rfl ?_
  refine j_iload_n hJ dX11_checkPromises_78 rfl 1 rfl ?_
  refine j_iast hJ gx3 gx1 kC_260 hF.1 hF.2.1 dX11_checkPromises_79 (fun M1 eM1 => ?_)
  have hF := hF.2.2 M1 eM1
  exact j_sub hJ [0, 1, 2, 3] rfl (k_X11_checkPromises_b80 hin  hJ hK4 x1 x2 x3 _ gx1 gx2 gx3 hF)
set_option maxHeartbeats 4000000 in
set_option maxRecDepth 100000 in
theorem k_X11_checkPromises_b43 {l : Launch} {D : va_G} {cy : Nat → ClassId} {ad : Nat → Nat} {Q : Int → MM → Prop} {J : Nat → List (Nat × Value) → List Value → MM → Prop} (hin : jIn ad ksC.length)   (hJ : jOk l D vwCl (tyC cy) cy ad ftC ksC (XtC ad) Om RX11 cX11_checkPromises 4 0 ({ frames := 6, cells := 0, slots := 0, locals := 146 } : Room) Q J) {K4 : Int → Int → Int → MM → Prop} (hK4 : ∀ (x1 x2 x3 : Int) (M : MM), ri_ x1 → ri_ x2 → ri_ x3 → K4 x1 x2 x3 M → J 4 [(0, .ref (ad 0)), (1, .int (Ii x1)), (2, .int (Ii x2)), (3, .int (Ii x3))] [] M) : ∀ (x1 x2 x3 : Int) (M : MM), ri_ x1 → ri_ x2 → ri_ x3 → w_X11_checkPromises_b43  Q K4 x1 x2 x3 M → J 43 [(0, .ref (ad 0)), (1, .int (Ii x1)), (2, .int (Ii x2)), (3, .int (Ii x3))] [] M := by
  intro x1 x2 x3 M gx1 gx2 gx3 hF
  unfold w_X11_checkPromises_b43 at hF
  refine j_aload_n hJ dX11_checkPromises_43 rfl 0 rfl ?_
  refine j_ga hJ kC_0 fC_14_7 fl_X11_62 dX11_checkPromises_44 ?_
  refine j_aload_n hJ dX11_checkPromises_47 rfl 0 rfl ?_
  refine j_ga hJ kC_0 fC_14_8 fl_X11_66 dX11_checkPromises_48 ?_
  refine j_iload_n hJ dX11_checkPromises_51 rfl 3 rfl ?_
  obtain ⟨h0_, h1_, c1, ec1, hc1, hF⟩ := hF
  refine j_aald5 hJ gx3 kC_235 rfl h0_ h1_ ec1 dX11_checkPromises_52 ?_
  refine j_aload_n hJ dX11_checkPromises_53 rfl 0 rfl ?_
  obtain ⟨c2, ec2, hc2, hF⟩ := hF
  refine j_gq hJ kC_0 fC_14_5 rfl fl_X11_46 dX11_checkPromises_54 ec2 ?_
  refine j_callVz hJ (c_X4_run (l := l) (D := D) (cy := cy) (ad := ad) hin) rfl om_838 ⟨rfl, rfl, Nat.le_of_ble_eq_true rfl, Nat.le_of_ble_eq_true rfl⟩ [.ref (ad c1), .ref (ad c2)] mv_X11_347 hd_X4_runv kC_219 rfl rfl rfl (Nat.le_of_ble_eq_true rfl) dX11_checkPromises_57 ⟨c1, c2, rfl, hc1, hc2, hF⟩ (fun r3 M4 gr3 qM4 => ?_)
  have hF := qM4 gr3
  refine j_if_eq hJ 73 (jz_ri gr3) dX11_checkPromises_60 (by decide) (fun z5 => ?_) (fun z5 => ?_)
  · have hF := hF.1 z5
    exact j_sub hJ [0, 1, 2, 3] rfl (k_X11_checkPromises_b73 hin  hJ hK4 x1 x2 x3 _ gx1 gx2 gx3 hF)
  · have hF := hF.2 z5
    refine j_aload_n hJ dX11_checkPromises_63 rfl 0 rfl ?_
    refine j_ga hJ kC_0 fC_14_7 fl_X11_62 dX11_checkPromises_64 ?_
    refine j_callVz hJ (c_X4_saysTrue (l := l) (D := D) (cy := cy) (ad := ad) hin) rfl om_842 ⟨rfl, rfl, Nat.le_of_ble_eq_true rfl, Nat.le_of_ble_eq_true rfl⟩ [] mv_X11_351 hd_X4_saysTruev kC_219 rfl rfl rfl (Nat.le_of_ble_eq_true rfl) dX11_checkPromises_67 ⟨rfl, hF⟩ (fun r6 M7 gr6 qM7 => ?_)
    have hF := qM7 gr6
    refine j_if_ne hJ 80 (jz_ri gr6) dX11_checkPromises_70 (by decide) (fun z8 => ?_) (fun z8 => ?_)
    · have hF := hF.1 z8
      exact j_sub hJ [0, 1, 2, 3] rfl (k_X11_checkPromises_b80 hin  hJ hK4 x1 x2 x3 _ gx1 gx2 gx3 hF)
    · have hF := hF.2 z8
      exact j_sub hJ [0, 1, 2, 3] rfl (k_X11_checkPromises_b73 hin  hJ hK4 x1 x2 x3 _ gx1 gx2 gx3 hF)
set_option maxHeartbeats 4000000 in
set_option maxRecDepth 100000 in
theorem k_X11_checkPromises_b4 {l : Launch} {D : va_G} {cy : Nat → ClassId} {ad : Nat → Nat} {Q : Int → MM → Prop} {J : Nat → List (Nat × Value) → List Value → MM → Prop} (hin : jIn ad ksC.length)   (hJ : jOk l D vwCl (tyC cy) cy ad ftC ksC (XtC ad) Om RX11 cX11_checkPromises 4 0 ({ frames := 6, cells := 0, slots := 0, locals := 146 } : Room) Q J)  : ∀ (x1 x2 x3 : Int) (M : MM), ri_ x1 → ri_ x2 → ri_ x3 → w_X11_checkPromises_b4  Q  x1 x2 x3 M → J 4 [(0, .ref (ad 0)), (1, .int (Ii x1)), (2, .int (Ii x2)), (3, .int (Ii x3))] [] M := by
  have H9 : ∀ (n : Nat) (x1 x2 x3 : Int) (M : MM), ri_ x1 → ri_ x2 → ri_ x3 → jit (fun _ _ _ _ => False) (wb_X11_checkPromises_b4  Q ) n x1 x2 x3 M → J 4 [(0, .ref (ad 0)), (1, .int (Ii x1)), (2, .int (Ii x2)), (3, .int (Ii x3))] [] M := by
    intro n
    induction n with
    | zero => intro x1 x2 x3 M gx1 gx2 gx3 hF; exact False.elim hF
    | succ n ih =>
    intro x1 x2 x3 M gx1 gx2 gx3 hF
    have hF : wb_X11_checkPromises_b4  Q  (jit (fun _ _ _ _ => False) (wb_X11_checkPromises_b4  Q ) n) x1 x2 x3 M := hF
    unfold wb_X11_checkPromises_b4 at hF
    refine j_iload_n hJ dX11_checkPromises_4 rfl 3 rfl ?_
    refine j_aload_n hJ dX11_checkPromises_5 rfl 0 rfl ?_
    refine j_gi hJ kC_0 fC_14_10 rfl fl_X11_327 dX11_checkPromises_6 (fun v1 ev1 gv1 => ?_)
    have hF := hF v1 ev1 gv1
    refine j_icmp_ge hJ 86 gx3 gv1 dX11_checkPromises_9 (by decide) (fun z2 => ?_) (fun z2 => ?_)
    · have hF := hF.1 z2
      exact j_vret hJ rfl dX11_checkPromises_86 hF
    · have hF := hF.2 z2
      refine j_aload_n hJ dX11_checkPromises_12 rfl 0 rfl ?_
      refine j_ga hJ kC_0 fC_14_9 fl_X11_70 dX11_checkPromises_13 ?_
      refine j_iload_n hJ dX11_checkPromises_16 rfl 3 rfl ?_
      refine j_iald hJ gx3 kC_260 hF.1 hF.2.1 dX11_checkPromises_17 (fun v3 ev3 gv3 => ?_)
      have hF := hF.2.2 v3 ev3 gv3
      refine j_bipush hJ dX11_checkPromises_18 (by decide) ?_
      refine j_icmp_eq hJ 26 gv3 rk_m2 dX11_checkPromises_20 (by decide) (fun z4 => ?_) (fun z4 => ?_)
      · have hF := hF.1 z4
        refine j_iload_n hJ dX11_checkPromises_26 rfl 2 rfl ?_
        refine j_if_ne hJ 43 gx2 dX11_checkPromises_27 (by decide) (fun z5 => ?_) (fun z5 => ?_)
        · have hF := hF.1 z5
          exact j_sub hJ [0, 1, 2, 3] rfl (k_X11_checkPromises_b43 hin  hJ ih x1 x2 x3 _ gx1 gx2 gx3 hF)
        · have hF := hF.2 z5
          refine j_aload_n hJ dX11_checkPromises_30 rfl 0 rfl ?_
          obtain ⟨c6, ec6, hc6, hF⟩ := hF
          refine j_gq hJ kC_0 fC_14_5 rfl fl_X11_46 dX11_checkPromises_31 ec6 ?_
          refine j_aload_n hJ dX11_checkPromises_34 rfl 0 rfl ?_
          refine j_ga hJ kC_0 fC_14_2 fl_X11_28 dX11_checkPromises_35 ?_
          refine j_callVv hJ (c_X5_takeFrom (l := l) (D := D) (cy := cy) (ad := ad) hin) rfl om_846 ⟨rfl, rfl, Nat.le_of_ble_eq_true rfl, Nat.le_of_ble_eq_true rfl⟩ [.ref (ad 26)] mv_X11_343 hd_X5_takeFromv (kP_0 hc6) rfl rfl rfl (Nat.le_of_ble_eq_true rfl) dX11_checkPromises_38 ⟨c6, rfl, hc6, hF⟩ (fun M8 qM8 => ?_)
          have hF := qM8
          refine j_iconst hJ dX11_checkPromises_41 ?_
          refine j_istore_n (lv' := [(2, .int (Ii 1)), (0, .ref (ad 0)), (1, .int (Ii x1)), (3, .int (Ii x3))]) hJ dX11_checkPromises_42 rfl (by decide) rfl ?_
          exact j_sub hJ [1, 2, 0, 3] rfl (k_X11_checkPromises_b43 hin  hJ ih x1 1 x3 _ gx1 rk_1 gx3 hF)
      · have hF := hF.2 z4
        refine j_goto hJ 80 dX11_checkPromises_23 (by decide) ?_
        exact j_sub hJ [0, 1, 2, 3] rfl (k_X11_checkPromises_b80 hin  hJ ih x1 x2 x3 _ gx1 gx2 gx3 hF)
  intro x1 x2 x3 M gx1 gx2 gx3 hF
  obtain ⟨n, hF⟩ := hF
  exact H9 n x1 x2 x3 M gx1 gx2 gx3 hF
set_option maxHeartbeats 4000000 in
set_option maxRecDepth 100000 in
theorem c_X11_checkPromises {l : Launch} {D : va_G} {cy : Nat → ClassId} {ad : Nat → Nat} (hin : jIn ad ksC.length) : jCN l D vwCl (tyC cy) cy ad ftC ksC (XtC ad) yX11_checkPromises (.code yX11_checkPromises cX11_checkPromises 4 none :: Om) ({ frames := 6, cells := 0, slots := 0, locals := 146 } : Room) 0 (W_X11_checkPromises ad) := by
  refine jCN_of (y := yX11_checkPromises) (cc := cX11_checkPromises) (nL := 4) (rk := 0) (rm := ({ frames := 6, cells := 0, slots := 0, locals := 146 } : Room)) (own := RX11) (tyC_ok cy) hin (XtC_ok ad) Om_good (by decide) rfl ?_
  intro Q av M hF
  obtain ⟨p1, rfl, gp1, hF⟩ := hF
  refine ⟨Nat.le_of_ble_eq_true rfl, fun J hJ => ?_⟩
  show J 0 [(0, .ref (ad 0)), (1, .int (Ii p1))] [] M
  unfold w_X11_checkPromises at hF
  refine j_iconst hJ dX11_checkPromises_0 ?_
  refine j_istore_n (lv' := [(2, .int (Ii 0)), (0, .ref (ad 0)), (1, .int (Ii p1))]) hJ dX11_checkPromises_1 rfl (by decide) rfl ?_
  refine j_iconst hJ dX11_checkPromises_2 ?_
  refine j_istore_n (lv' := [(3, .int (Ii 0)), (2, .int (Ii 0)), (0, .ref (ad 0)), (1, .int (Ii p1))]) hJ dX11_checkPromises_3 rfl (by decide) rfl ?_
  exact j_sub hJ [2, 3, 1, 0] rfl (k_X11_checkPromises_b4 hin  hJ  p1 0 0 _ gp1 rk_0 rk_0 hF)
def W_X11_set (ad : Nat → Nat) (Q : Int → MM → Prop) (X : String → MM → Prop) (av : List Value) (M : MM) : Prop := ∃ (p1 : Int) (p2 : Int) (p3 : Int), av = [.ref (ad 0), .int (Ii p1), .int (Ii p2), .long (Ll p3)] ∧ ri_ p1 ∧ ri_ p2 ∧ rl_ p3 ∧ w_X11_set  Q X p1 p2 p3 M
set_option maxHeartbeats 4000000 in
set_option maxRecDepth 100000 in
theorem c_X11_set {l : Launch} {D : va_G} {cy : Nat → ClassId} {ad : Nat → Nat} (hst : l.stackTraces = false) (hin : jIn ad ksC.length) : jXN l D vwCl (tyC cy) cy ad ftC ksC (XtC ad) yX11_set (.code yX11_set cX11_set 7 (some .int) :: Om) ({ frames := 9, cells := 1, slots := 6, locals := 169 } : Room) 1 1 6 ["java/lang/IllegalArgumentException", "java/util/NoSuchElementException"] (W_X11_set ad) := by
  refine jXN_of (y := yX11_set) (cc := cX11_set) (nL := 7) (rk := 1) (rm := ({ frames := 9, cells := 1, slots := 6, locals := 169 } : Room)) (own := RX11) 0 ["java/lang/IllegalArgumentException", "java/util/NoSuchElementException"] hst (XtC_z ad) (tyC_ok cy) hin (XtC_ok ad) Om_good (by decide) rfl ⟨rfl, rfl⟩ ?_
  intro Q X av M hF
  obtain ⟨p1, p2, p3, rfl, gp1, gp2, gp3, hF⟩ := hF
  refine ⟨Nat.le_of_ble_eq_true rfl, fun J hJ hT hC => ?_⟩
  have hJ0 := hJ 0 (by decide)
  have hT0 := hT 0 (by decide)
  show J 0 0 [(0, .ref (ad 0)), (1, .int (Ii p1)), (2, .int (Ii p2)), (3, .long (Ll p3))] [] M
  unfold w_X11_set at hF
  refine j_aload_n hJ0 dX11_set_0 rfl 0 rfl ?_
  refine j_ga hJ0 kC_0 fC_14_2 fl_X11_28 dX11_set_1 ?_
  refine j_iload_n hJ0 dX11_set_4 rfl 1 rfl ?_
  refine j_iload_n hJ0 dX11_set_5 rfl 2 rfl ?_
  refine j_callVz hJ0 (c_X2_hasSlot (l := l) (D := D) (cy := cy) (ad := ad) hin) rfl om_827 ⟨rfl, rfl, Nat.le_of_ble_eq_true rfl, Nat.le_of_ble_eq_true rfl⟩ [.int (Ii p1), .int (Ii p2)] mv_X11_238 hd_X2_hasSlotv kC_26 rfl rfl rfl (Nat.le_of_ble_eq_true rfl) dX11_set_6 ⟨p1, p2, rfl, gp1, gp2, hF⟩ (fun r1 M2 gr1 qM2 => ?_)
  have hF := qM2 gr1
  refine j_if_ne hJ0 20 (jz_ri gr1) dX11_set_9 (by decide) (fun z3 => ?_) (fun z3 => ?_)
  · have hF := hF.1 z3
    refine j_aload_n hJ0 dX11_set_20 rfl 0 rfl ?_
    refine j_ga hJ0 kC_0 fC_14_2 fl_X11_28 dX11_set_21 ?_
    refine j_gr (e := 27) hJ0 kC_26 fC_5_4 fl_X11_241 dX11_set_24 rfl ?_
    refine j_iload_n hJ0 dX11_set_27 rfl 1 rfl ?_
    refine j_iald hJ0 gp1 kC_27 hF.1 hF.2.1 dX11_set_28 (fun v4 ev4 gv4 => ?_)
    have hF := hF.2.2 v4 ev4 gv4
    refine j_istore (lv' := [(5, .int (Ii v4)), (0, .ref (ad 0)), (1, .int (Ii p1)), (2, .int (Ii p2)), (3, .long (Ll p3))]) hJ0 dX11_set_29 (by decide) rfl ?_
    refine j_aload_n hJ0 dX11_set_31 rfl 1 rfl ?_
    refine j_ga hJ0 kC_0 fC_14_2 fl_X11_28 dX11_set_32 ?_
    refine j_aload_n hJ0 dX11_set_35 rfl 1 rfl ?_
    refine j_ga hJ0 kC_0 fC_14_1 fl_X11_19 dX11_set_36 ?_
    refine j_iload hJ0 dX11_set_39 0 rfl ?_
    refine j_iload_n hJ0 dX11_set_41 rfl 3 rfl ?_
    refine j_callVi hJ0 (c_X10_kindAt (l := l) (D := D) (cy := cy) (ad := ad) hin) rfl om_64 ⟨rfl, rfl, Nat.le_of_ble_eq_true rfl, Nat.le_of_ble_eq_true rfl⟩ [.int (Ii v4), .int (Ii p2)] mv_X11_244 hd_X10_kindAtv kC_8 rfl rfl rfl (Nat.le_of_ble_eq_true rfl) dX11_set_42 ⟨v4, p2, rfl, gv4, gp2, hF⟩ (fun r5 M6 gr5 qM6 => ?_)
    have hF := qM6 gr5
    refine j_aload_n hJ0 dX11_set_45 rfl 1 rfl ?_
    refine j_ga hJ0 kC_0 fC_14_1 fl_X11_19 dX11_set_46 ?_
    refine j_iload hJ0 dX11_set_49 0 rfl ?_
    refine j_iload_n hJ0 dX11_set_51 rfl 3 rfl ?_
    refine j_callVi hJ0 (c_X10_linkAt (l := l) (D := D) (cy := cy) (ad := ad) hin) rfl om_80 ⟨rfl, rfl, Nat.le_of_ble_eq_true rfl, Nat.le_of_ble_eq_true rfl⟩ [.int (Ii v4), .int (Ii p2)] mv_X11_247 hd_X10_linkAtv kC_8 rfl rfl rfl (Nat.le_of_ble_eq_true rfl) dX11_set_52 ⟨v4, p2, rfl, gv4, gp2, hF⟩ (fun r7 M8 gr7 qM8 => ?_)
    have hF := qM8 gr7
    refine j_lload_n hJ0 dX11_set_55 rfl 4 rfl ?_
    refine j_callVz hJ0 (c_X2_isValue (l := l) (D := D) (cy := cy) (ad := ad) hin) rfl om_833 ⟨rfl, rfl, Nat.le_of_ble_eq_true rfl, Nat.le_of_ble_eq_true rfl⟩ [.int (Ii r5), .int (Ii r7), .long (Ll p3)] mv_X11_250 hd_X2_isValuev kC_26 rfl rfl rfl (Nat.le_of_ble_eq_true rfl) dX11_set_56 ⟨r5, r7, p3, rfl, gr5, gr7, gp3, hF⟩ (fun r9 M10 gr9 qM10 => ?_)
    have hF := qM10 gr9
    refine j_if_ne hJ0 70 (jz_ri gr9) dX11_set_59 (by decide) (fun z11 => ?_) (fun z11 => ?_)
    · have hF := hF.1 z11
      refine j_aload_n hJ0 dX11_set_70 rfl 1 rfl ?_
      refine j_ga hJ0 kC_0 fC_14_3 fl_X11_35 dX11_set_71 ?_
      refine j_aload_n hJ0 dX11_set_74 rfl 1 rfl ?_
      refine j_ga hJ0 kC_0 fC_14_2 fl_X11_28 dX11_set_75 ?_
      refine j_iload_n hJ0 dX11_set_78 rfl 2 rfl ?_
      refine j_iload_n hJ0 dX11_set_79 rfl 3 rfl ?_
      refine j_lload_n hJ0 dX11_set_80 rfl 4 rfl ?_
      refine j_callVi hJ0 (c_X3_writeSlot (l := l) (D := D) (cy := cy) (ad := ad) hin) rfl om_275 ⟨rfl, rfl, Nat.le_of_ble_eq_true rfl, Nat.le_of_ble_eq_true rfl⟩ [.ref (ad 26), .int (Ii p1), .int (Ii p2), .long (Ll p3)] mv_X11_254 hd_X3_writeSlotv kC_36 rfl rfl rfl (Nat.le_of_ble_eq_true rfl) dX11_set_81 ⟨p1, p2, p3, rfl, gp1, gp2, gp3, hF⟩ (fun r12 M13 gr12 qM13 => ?_)
      have hF := qM13 gr12
      refine j_istore (lv' := [(6, .int (Ii r12)), (5, .int (Ii v4)), (0, .ref (ad 0)), (1, .int (Ii p1)), (2, .int (Ii p2)), (3, .long (Ll p3))]) hJ0 dX11_set_84 (by decide) rfl ?_
      refine j_aload_n hJ0 dX11_set_86 rfl 2 rfl ?_
      refine j_iload hJ0 dX11_set_87 0 rfl ?_
      refine j_callVv hJ0 (c_X11_checkPromises (l := l) (D := D) (cy := cy) (ad := ad) hin) rfl om_850 ⟨rfl, rfl, Nat.le_of_ble_eq_true rfl, Nat.le_of_ble_eq_true rfl⟩ [.int (Ii r12)] mv_X11_258 hd_X11_checkPromisesv kC_0 rfl rfl rfl (Nat.le_of_ble_eq_true rfl) dX11_set_89 ⟨r12, rfl, gr12, hF⟩ (fun M15 qM15 => ?_)
      have hF := qM15
      refine j_iload hJ0 dX11_set_92 0 rfl ?_
      exact j_iret hJ0 rfl gr12 dX11_set_94 hF
    · have hF := hF.2 z11
      exact hT0 _ _ _ _ _ _ _ (by decide) (tw_X11_127_129 (Nat.le_of_ble_eq_true rfl) (Nat.le_of_ble_eq_true rfl)) dX11_set_62 dX11_set_65 dX11_set_66 dX11_set_69 hF
  · have hF := hF.2 z3
    exact hT0 _ _ _ _ _ _ _ (by decide) (tw_X11_222_224 (Nat.le_of_ble_eq_true rfl) (Nat.le_of_ble_eq_true rfl)) dX11_set_12 dX11_set_15 dX11_set_16 dX11_set_19 hF
def W_X11_setStatic (ad : Nat → Nat) (Q : Int → MM → Prop) (X : String → MM → Prop) (av : List Value) (M : MM) : Prop := ∃ (p1 : Int) (p2 : Int) (p3 : Int), av = [.ref (ad 0), .int (Ii p1), .int (Ii p2), .long (Ll p3)] ∧ ri_ p1 ∧ ri_ p2 ∧ rl_ p3 ∧ w_X11_setStatic  Q X p1 p2 p3 M
set_option maxHeartbeats 4000000 in
set_option maxRecDepth 100000 in
theorem c_X11_setStatic {l : Launch} {D : va_G} {cy : Nat → ClassId} {ad : Nat → Nat} (hst : l.stackTraces = false) (hin : jIn ad ksC.length) : jXN l D vwCl (tyC cy) cy ad ftC ksC (XtC ad) yX11_setStatic (.code yX11_setStatic cX11_setStatic 8 (some .int) :: Om) ({ frames := 9, cells := 1, slots := 6, locals := 169 } : Room) 1 1 6 ["java/lang/IllegalArgumentException", "java/util/NoSuchElementException"] (W_X11_setStatic ad) := by
  refine jXN_of (y := yX11_setStatic) (cc := cX11_setStatic) (nL := 8) (rk := 1) (rm := ({ frames := 9, cells := 1, slots := 6, locals := 169 } : Room)) (own := RX11) 0 ["java/lang/IllegalArgumentException", "java/util/NoSuchElementException"] hst (XtC_z ad) (tyC_ok cy) hin (XtC_ok ad) Om_good (by decide) rfl ⟨rfl, rfl⟩ ?_
  intro Q X av M hF
  obtain ⟨p1, p2, p3, rfl, gp1, gp2, gp3, hF⟩ := hF
  refine ⟨Nat.le_of_ble_eq_true rfl, fun J hJ hT hC => ?_⟩
  have hJ0 := hJ 0 (by decide)
  have hT0 := hT 0 (by decide)
  show J 0 0 [(0, .ref (ad 0)), (1, .int (Ii p1)), (2, .int (Ii p2)), (3, .long (Ll p3))] [] M
  unfold w_X11_setStatic at hF
  refine j_aload_n hJ0 dX11_setStatic_0 rfl 0 rfl ?_
  refine j_ga hJ0 kC_0 fC_14_1 fl_X11_19 dX11_setStatic_1 ?_
  refine j_iload_n hJ0 dX11_setStatic_4 rfl 1 rfl ?_
  refine j_iload_n hJ0 dX11_setStatic_5 rfl 2 rfl ?_
  refine j_callVi hJ0 (c_X10_staticField (l := l) (D := D) (cy := cy) (ad := ad) hin) rfl om_855 ⟨rfl, rfl, Nat.le_of_ble_eq_true rfl, Nat.le_of_ble_eq_true rfl⟩ [.int (Ii p1), .int (Ii p2)] mv_X11_261 hd_X10_staticFieldv kC_8 rfl rfl rfl (Nat.le_of_ble_eq_true rfl) dX11_setStatic_6 ⟨p1, p2, rfl, gp1, gp2, hF⟩ (fun r1 M2 gr1 qM2 => ?_)
  have hF := qM2 gr1
  refine j_istore (lv' := [(5, .int (Ii r1)), (0, .ref (ad 0)), (1, .int (Ii p1)), (2, .int (Ii p2)), (3, .long (Ll p3))]) hJ0 dX11_setStatic_9 (by decide) rfl ?_
  refine j_iload hJ0 dX11_setStatic_11 0 rfl ?_
  refine j_iconst hJ0 dX11_setStatic_13 ?_
  refine j_icmp_ne hJ0 25 gr1 rk_m1 dX11_setStatic_14 (by decide) (fun z3 => ?_) (fun z3 => ?_)
  · have hF := hF.1 z3
    refine j_iload_n hJ0 dX11_setStatic_25 rfl 2 rfl ?_
    refine j_bipush hJ0 dX11_setStatic_26 (by decide) ?_
    refine j_imul hJ0 dX11_setStatic_28 ?_
    have g4 := hF.1; have hF := hF.2
    refine j_iload hJ0 dX11_setStatic_29 0 rfl ?_
    refine j_iadd hJ0 dX11_setStatic_31 ?_
    have g5 := hF.1; have hF := hF.2
    refine j_istore (lv' := [(6, .int (Ii ((p1 * 6) + r1))), (5, .int (Ii r1)), (0, .ref (ad 0)), (1, .int (Ii p1)), (2, .int (Ii p2)), (3, .long (Ll p3))]) hJ0 dX11_setStatic_32 (by decide) rfl ?_
    refine j_aload_n hJ0 dX11_setStatic_34 rfl 2 rfl ?_
    refine j_ga hJ0 kC_0 fC_14_2 fl_X11_28 dX11_setStatic_35 ?_
    refine j_aload_n hJ0 dX11_setStatic_38 rfl 2 rfl ?_
    refine j_ga hJ0 kC_0 fC_14_1 fl_X11_19 dX11_setStatic_39 ?_
    refine j_gr (e := 19) hJ0 kC_8 fC_13_11 fl_X11_192 dX11_setStatic_42 rfl ?_
    refine j_iload hJ0 dX11_setStatic_45 0 rfl ?_
    refine j_iald hJ0 g5 kC_19 hF.1 hF.2.1 dX11_setStatic_47 (fun v6 ev6 gv6 => ?_)
    have hF := hF.2.2 v6 ev6 gv6
    refine j_aload_n hJ0 dX11_setStatic_48 rfl 2 rfl ?_
    refine j_ga hJ0 kC_0 fC_14_1 fl_X11_19 dX11_setStatic_49 ?_
    refine j_gr (e := 20) hJ0 kC_8 fC_13_12 fl_X11_195 dX11_setStatic_52 rfl ?_
    refine j_iload hJ0 dX11_setStatic_55 0 rfl ?_
    refine j_iald hJ0 g5 kC_20 hF.1 hF.2.1 dX11_setStatic_57 (fun v7 ev7 gv7 => ?_)
    have hF := hF.2.2 v7 ev7 gv7
    refine j_lload_n hJ0 dX11_setStatic_58 rfl 5 rfl ?_
    refine j_callVz hJ0 (c_X2_isValue (l := l) (D := D) (cy := cy) (ad := ad) hin) rfl om_833 ⟨rfl, rfl, Nat.le_of_ble_eq_true rfl, Nat.le_of_ble_eq_true rfl⟩ [.int (Ii v6), .int (Ii v7), .long (Ll p3)] mv_X11_250 hd_X2_isValuev kC_26 rfl rfl rfl (Nat.le_of_ble_eq_true rfl) dX11_setStatic_59 ⟨v6, v7, p3, rfl, gv6, gv7, gp3, hF⟩ (fun r8 M9 gr8 qM9 => ?_)
    have hF := qM9 gr8
    refine j_if_ne hJ0 73 (jz_ri gr8) dX11_setStatic_62 (by decide) (fun z10 => ?_) (fun z10 => ?_)
    · have hF := hF.1 z10
      refine j_aload_n hJ0 dX11_setStatic_73 rfl 2 rfl ?_
      refine j_ga hJ0 kC_0 fC_14_3 fl_X11_35 dX11_setStatic_74 ?_
      refine j_aload_n hJ0 dX11_setStatic_77 rfl 2 rfl ?_
      refine j_ga hJ0 kC_0 fC_14_2 fl_X11_28 dX11_setStatic_78 ?_
      refine j_iload hJ0 dX11_setStatic_81 0 rfl ?_
      refine j_lload_n hJ0 dX11_setStatic_83 rfl 5 rfl ?_
      refine j_callVi hJ0 (c_X3_writeStatic (l := l) (D := D) (cy := cy) (ad := ad) hin) rfl om_281 ⟨rfl, rfl, Nat.le_of_ble_eq_true rfl, Nat.le_of_ble_eq_true rfl⟩ [.ref (ad 26), .int (Ii ((p1 * 6) + r1)), .long (Ll p3)] mv_X11_264 hd_X3_writeStaticv kC_36 rfl rfl rfl (Nat.le_of_ble_eq_true rfl) dX11_setStatic_84 ⟨((p1 * 6) + r1), p3, rfl, g5, gp3, hF⟩ (fun r11 M12 gr11 qM12 => ?_)
      have hF := qM12 gr11
      refine j_istore (lv' := [(7, .int (Ii r11)), (6, .int (Ii ((p1 * 6) + r1))), (5, .int (Ii r1)), (0, .ref (ad 0)), (1, .int (Ii p1)), (2, .int (Ii p2)), (3, .long (Ll p3))]) hJ0 dX11_setStatic_87 (by decide) rfl ?_
      refine j_aload_n hJ0 dX11_setStatic_89 rfl 3 rfl ?_
      refine j_iload hJ0 dX11_setStatic_90 0 rfl ?_
      refine j_callVv hJ0 (c_X11_checkPromises (l := l) (D := D) (cy := cy) (ad := ad) hin) rfl om_850 ⟨rfl, rfl, Nat.le_of_ble_eq_true rfl, Nat.le_of_ble_eq_true rfl⟩ [.int (Ii r11)] mv_X11_258 hd_X11_checkPromisesv kC_0 rfl rfl rfl (Nat.le_of_ble_eq_true rfl) dX11_setStatic_92 ⟨r11, rfl, gr11, hF⟩ (fun M14 qM14 => ?_)
      have hF := qM14
      refine j_iload hJ0 dX11_setStatic_95 0 rfl ?_
      exact j_iret hJ0 rfl gr11 dX11_setStatic_97 hF
    · have hF := hF.2 z10
      exact hT0 _ _ _ _ _ _ _ (by decide) (tw_X11_127_129 (Nat.le_of_ble_eq_true rfl) (Nat.le_of_ble_eq_true rfl)) dX11_setStatic_65 dX11_setStatic_68 dX11_setStatic_69 dX11_setStatic_72 hF
  · have hF := hF.2 z3
    exact hT0 _ _ _ _ _ _ _ (by decide) (tw_X11_222_224 (Nat.le_of_ble_eq_true rfl) (Nat.le_of_ble_eq_true rfl)) dX11_setStatic_17 dX11_setStatic_20 dX11_setStatic_21 dX11_setStatic_24 hF
def W_X11_get (ad : Nat → Nat) (Q : Int → MM → Prop) (X : String → MM → Prop) (av : List Value) (M : MM) : Prop := ∃ (p1 : Int) (p2 : Int), av = [.ref (ad 0), .int (Ii p1), .int (Ii p2)] ∧ ri_ p1 ∧ ri_ p2 ∧ w_X11_get  Q X p1 p2 M
set_option maxHeartbeats 4000000 in
set_option maxRecDepth 100000 in
theorem c_X11_get {l : Launch} {D : va_G} {cy : Nat → ClassId} {ad : Nat → Nat} (hst : l.stackTraces = false) (hin : jIn ad ksC.length) : jXN l D vwCl (tyC cy) cy ad ftC ksC (XtC ad) yX11_get (.code yX11_get cX11_get 3 (some .long) :: Om) ({ frames := 9, cells := 1, slots := 6, locals := 140 } : Room) 2 1 6 ["java/util/NoSuchElementException"] (W_X11_get ad) := by
  refine jXN_of (y := yX11_get) (cc := cX11_get) (nL := 3) (rk := 2) (rm := ({ frames := 9, cells := 1, slots := 6, locals := 140 } : Room)) (own := RX11) 0 ["java/util/NoSuchElementException"] hst (XtC_z ad) (tyC_ok cy) hin (XtC_ok ad) Om_good (by decide) rfl ⟨rfl, rfl⟩ ?_
  intro Q X av M hF
  obtain ⟨p1, p2, rfl, gp1, gp2, hF⟩ := hF
  refine ⟨Nat.le_of_ble_eq_true rfl, fun J hJ hT hC => ?_⟩
  have hJ0 := hJ 0 (by decide)
  have hT0 := hT 0 (by decide)
  show J 0 0 [(0, .ref (ad 0)), (1, .int (Ii p1)), (2, .int (Ii p2))] [] M
  unfold w_X11_get at hF
  refine j_aload_n hJ0 dX11_get_0 rfl 0 rfl ?_
  refine j_ga hJ0 kC_0 fC_14_2 fl_X11_28 dX11_get_1 ?_
  refine j_iload_n hJ0 dX11_get_4 rfl 1 rfl ?_
  refine j_iload_n hJ0 dX11_get_5 rfl 2 rfl ?_
  refine j_callVz hJ0 (c_X2_hasSlot (l := l) (D := D) (cy := cy) (ad := ad) hin) rfl om_827 ⟨rfl, rfl, Nat.le_of_ble_eq_true rfl, Nat.le_of_ble_eq_true rfl⟩ [.int (Ii p1), .int (Ii p2)] mv_X11_238 hd_X2_hasSlotv kC_26 rfl rfl rfl (Nat.le_of_ble_eq_true rfl) dX11_get_6 ⟨p1, p2, rfl, gp1, gp2, hF⟩ (fun r1 M2 gr1 qM2 => ?_)
  have hF := qM2 gr1
  refine j_if_ne hJ0 20 (jz_ri gr1) dX11_get_9 (by decide) (fun z3 => ?_) (fun z3 => ?_)
  · have hF := hF.1 z3
    refine j_aload_n hJ0 dX11_get_20 rfl 0 rfl ?_
    refine j_ga hJ0 kC_0 fC_14_2 fl_X11_28 dX11_get_21 ?_
    refine j_gr (e := 30) hJ0 kC_26 fC_5_7 fl_X11_268 dX11_get_24 rfl ?_
    refine j_aload_n hJ0 dX11_get_27 rfl 0 rfl ?_
    refine j_ga hJ0 kC_0 fC_14_2 fl_X11_28 dX11_get_28 ?_
    refine j_gr (e := 29) hJ0 kC_26 fC_5_6 fl_X11_271 dX11_get_31 rfl ?_
    refine j_iload_n hJ0 dX11_get_34 rfl 1 rfl ?_
    refine j_iald hJ0 gp1 kC_29 hF.1 hF.2.1 dX11_get_35 (fun v4 ev4 gv4 => ?_)
    have hF := hF.2.2 v4 ev4 gv4
    refine j_iload_n hJ0 dX11_get_36 rfl 2 rfl ?_
    refine j_iadd hJ0 dX11_get_37 ?_
    have g5 := hF.1; have hF := hF.2
    refine j_lald hJ0 g5 kC_30 hF.1 hF.2.1 dX11_get_38 (fun v6 ev6 gv6 => ?_)
    have hF := hF.2.2 v6 ev6 gv6
    exact j_lret hJ0 rfl gv6 dX11_get_39 hF
  · have hF := hF.2 z3
    exact hT0 _ _ _ _ _ _ _ (by decide) (tw_X11_222_224 (Nat.le_of_ble_eq_true rfl) (Nat.le_of_ble_eq_true rfl)) dX11_get_12 dX11_get_15 dX11_get_16 dX11_get_19 hF
def W_X11_getStatic (ad : Nat → Nat) (Q : Int → MM → Prop) (X : String → MM → Prop) (av : List Value) (M : MM) : Prop := ∃ (p1 : Int) (p2 : Int), av = [.ref (ad 0), .int (Ii p1), .int (Ii p2)] ∧ ri_ p1 ∧ ri_ p2 ∧ w_X11_getStatic  Q X p1 p2 M
set_option maxHeartbeats 4000000 in
set_option maxRecDepth 100000 in
theorem c_X11_getStatic {l : Launch} {D : va_G} {cy : Nat → ClassId} {ad : Nat → Nat} (hst : l.stackTraces = false) (hin : jIn ad ksC.length) : jXN l D vwCl (tyC cy) cy ad ftC ksC (XtC ad) yX11_getStatic (.code yX11_getStatic cX11_getStatic 4 (some .long) :: Om) ({ frames := 9, cells := 1, slots := 6, locals := 140 } : Room) 2 1 6 ["java/util/NoSuchElementException"] (W_X11_getStatic ad) := by
  refine jXN_of (y := yX11_getStatic) (cc := cX11_getStatic) (nL := 4) (rk := 2) (rm := ({ frames := 9, cells := 1, slots := 6, locals := 140 } : Room)) (own := RX11) 0 ["java/util/NoSuchElementException"] hst (XtC_z ad) (tyC_ok cy) hin (XtC_ok ad) Om_good (by decide) rfl ⟨rfl, rfl⟩ ?_
  intro Q X av M hF
  obtain ⟨p1, p2, rfl, gp1, gp2, hF⟩ := hF
  refine ⟨Nat.le_of_ble_eq_true rfl, fun J hJ hT hC => ?_⟩
  have hJ0 := hJ 0 (by decide)
  have hT0 := hT 0 (by decide)
  show J 0 0 [(0, .ref (ad 0)), (1, .int (Ii p1)), (2, .int (Ii p2))] [] M
  unfold w_X11_getStatic at hF
  refine j_aload_n hJ0 dX11_getStatic_0 rfl 0 rfl ?_
  refine j_ga hJ0 kC_0 fC_14_1 fl_X11_19 dX11_getStatic_1 ?_
  refine j_iload_n hJ0 dX11_getStatic_4 rfl 1 rfl ?_
  refine j_iload_n hJ0 dX11_getStatic_5 rfl 2 rfl ?_
  refine j_callVi hJ0 (c_X10_staticField (l := l) (D := D) (cy := cy) (ad := ad) hin) rfl om_855 ⟨rfl, rfl, Nat.le_of_ble_eq_true rfl, Nat.le_of_ble_eq_true rfl⟩ [.int (Ii p1), .int (Ii p2)] mv_X11_261 hd_X10_staticFieldv kC_8 rfl rfl rfl (Nat.le_of_ble_eq_true rfl) dX11_getStatic_6 ⟨p1, p2, rfl, gp1, gp2, hF⟩ (fun r1 M2 gr1 qM2 => ?_)
  have hF := qM2 gr1
  refine j_istore_n (lv' := [(3, .int (Ii r1)), (0, .ref (ad 0)), (1, .int (Ii p1)), (2, .int (Ii p2))]) hJ0 dX11_getStatic_9 rfl (by decide) rfl ?_
  refine j_iload_n hJ0 dX11_getStatic_10 rfl 0 rfl ?_
  refine j_iconst hJ0 dX11_getStatic_11 ?_
  refine j_icmp_ne hJ0 23 gr1 rk_m1 dX11_getStatic_12 (by decide) (fun z3 => ?_) (fun z3 => ?_)
  · have hF := hF.1 z3
    refine j_aload_n hJ0 dX11_getStatic_23 rfl 1 rfl ?_
    refine j_ga hJ0 kC_0 fC_14_2 fl_X11_28 dX11_getStatic_24 ?_
    refine j_gr (e := 32) hJ0 kC_26 fC_5_9 fl_X11_161 dX11_getStatic_27 rfl ?_
    refine j_iload_n hJ0 dX11_getStatic_30 rfl 2 rfl ?_
    refine j_bipush hJ0 dX11_getStatic_31 (by decide) ?_
    refine j_imul hJ0 dX11_getStatic_33 ?_
    have g4 := hF.1; have hF := hF.2
    refine j_iload_n hJ0 dX11_getStatic_34 rfl 0 rfl ?_
    refine j_iadd hJ0 dX11_getStatic_35 ?_
    have g5 := hF.1; have hF := hF.2
    refine j_lald hJ0 g5 kC_32 hF.1 hF.2.1 dX11_getStatic_36 (fun v6 ev6 gv6 => ?_)
    have hF := hF.2.2 v6 ev6 gv6
    exact j_lret hJ0 rfl gv6 dX11_getStatic_37 hF
  · have hF := hF.2 z3
    exact hT0 _ _ _ _ _ _ _ (by decide) (tw_X11_222_224 (Nat.le_of_ble_eq_true rfl) (Nat.le_of_ble_eq_true rfl)) dX11_getStatic_15 dX11_getStatic_18 dX11_getStatic_19 dX11_getStatic_22 hF
def W_X11_object (ad : Nat → Nat) (Q : Int → MM → Prop) (av : List Value) (M : MM) : Prop := ∃ (p1 : Int) (p2 : Int), av = [.ref (ad 0), .int (Ii p1), .int (Ii p2)] ∧ ri_ p1 ∧ ri_ p2 ∧ w_X11_object  Q p1 p2 M
set_option maxHeartbeats 4000000 in
set_option maxRecDepth 100000 in
theorem c_X11_object {l : Launch} {D : va_G} {cy : Nat → ClassId} {ad : Nat → Nat} (hin : jIn ad ksC.length) : jCN l D vwCl (tyC cy) cy ad ftC ksC (XtC ad) yX11_object (.code yX11_object cX11_object 3 (some .int) :: Om) ({ frames := 2, cells := 0, slots := 0, locals := 45 } : Room) 1 (W_X11_object ad) := by
  refine jCN_of (y := yX11_object) (cc := cX11_object) (nL := 3) (rk := 1) (rm := ({ frames := 2, cells := 0, slots := 0, locals := 45 } : Room)) (own := RX11) (tyC_ok cy) hin (XtC_ok ad) Om_good (by decide) rfl ?_
  intro Q av M hF
  obtain ⟨p1, p2, rfl, gp1, gp2, hF⟩ := hF
  refine ⟨Nat.le_of_ble_eq_true rfl, fun J hJ => ?_⟩
  show J 0 [(0, .ref (ad 0)), (1, .int (Ii p1)), (2, .int (Ii p2))] [] M
  unfold w_X11_object at hF
  refine j_aload_n hJ dX11_object_0 rfl 0 rfl ?_
  refine j_ga hJ kC_0 fC_14_2 fl_X11_28 dX11_object_1 ?_
  refine j_iload_n hJ dX11_object_4 rfl 1 rfl ?_
  refine j_callVz hJ (c_X2_isThere (l := l) (D := D) (cy := cy) (ad := ad) hin) rfl om_177 ⟨rfl, rfl, Nat.le_of_ble_eq_true rfl, Nat.le_of_ble_eq_true rfl⟩ [.int (Ii p1)] mv_X11_219 hd_X2_isTherev kC_26 rfl rfl rfl (Nat.le_of_ble_eq_true rfl) dX11_object_5 ⟨p1, rfl, gp1, hF⟩ (fun r1 M2 gr1 qM2 => ?_)
  have hF := qM2 gr1
  refine j_if_ne hJ 13 (jz_ri gr1) dX11_object_8 (by decide) (fun z3 => ?_) (fun z3 => ?_)
  · have hF := hF.1 z3
    refine j_iload_n hJ dX11_object_13 rfl 2 rfl ?_
    by_cases z4 : p2 = 0
    · refine j_tabIn hJ 26 40 gp2 dX11_object_14 (by omega) (by omega) (by rw [z4]; decide) (by decide) ?_
      have hF := hF.1 z4
      refine j_aload_n hJ dX11_object_40 rfl 0 rfl ?_
      refine j_ga hJ kC_0 fC_14_2 fl_X11_28 dX11_object_41 ?_
      refine j_gr (e := 27) hJ kC_26 fC_5_4 fl_X11_241 dX11_object_44 rfl ?_
      refine j_iload_n hJ dX11_object_47 rfl 1 rfl ?_
      refine j_iald hJ gp1 kC_27 hF.1 hF.2.1 dX11_object_48 (fun v5 ev5 gv5 => ?_)
      have hF := hF.2.2 v5 ev5 gv5
      exact j_iret hJ rfl gv5 dX11_object_49 hF
    by_cases z6 : p2 = 1
    · refine j_tabIn hJ 36 50 gp2 dX11_object_14 (by omega) (by omega) (by rw [z6]; decide) (by decide) ?_
      have hF := hF.2.1 z6
      refine j_aload_n hJ dX11_object_50 rfl 0 rfl ?_
      refine j_ga hJ kC_0 fC_14_2 fl_X11_28 dX11_object_51 ?_
      refine j_gr (e := 28) hJ kC_26 fC_5_5 fl_X11_274 dX11_object_54 rfl ?_
      refine j_iload_n hJ dX11_object_57 rfl 1 rfl ?_
      refine j_iald hJ gp1 kC_28 hF.1 hF.2.1 dX11_object_58 (fun v7 ev7 gv7 => ?_)
      have hF := hF.2.2 v7 ev7 gv7
      exact j_iret hJ rfl gv7 dX11_object_59 hF
    by_cases z8 : p2 = 2
    · refine j_tabIn hJ 46 60 gp2 dX11_object_14 (by omega) (by omega) (by rw [z8]; decide) (by decide) ?_
      have hF := hF.2.2.1 z8
      refine j_aload_n hJ dX11_object_60 rfl 0 rfl ?_
      refine j_ga hJ kC_0 fC_14_1 fl_X11_19 dX11_object_61 ?_
      refine j_aload_n hJ dX11_object_64 rfl 0 rfl ?_
      refine j_ga hJ kC_0 fC_14_2 fl_X11_28 dX11_object_65 ?_
      refine j_gr (e := 27) hJ kC_26 fC_5_4 fl_X11_241 dX11_object_68 rfl ?_
      refine j_iload_n hJ dX11_object_71 rfl 1 rfl ?_
      refine j_iald hJ gp1 kC_27 hF.1 hF.2.1 dX11_object_72 (fun v9 ev9 gv9 => ?_)
      have hF := hF.2.2 v9 ev9 gv9
      refine j_aload_n hJ dX11_object_73 rfl 0 rfl ?_
      refine j_ga hJ kC_0 fC_14_2 fl_X11_28 dX11_object_74 ?_
      refine j_gr (e := 28) hJ kC_26 fC_5_5 fl_X11_274 dX11_object_77 rfl ?_
      refine j_iload_n hJ dX11_object_80 rfl 1 rfl ?_
      refine j_iald hJ gp1 kC_28 hF.1 hF.2.1 dX11_object_81 (fun v10 ev10 gv10 => ?_)
      have hF := hF.2.2 v10 ev10 gv10
      refine j_callVi hJ (c_X10_sizeOf (l := l) (D := D) (cy := cy) (ad := ad) hin) rfl om_387 ⟨rfl, rfl, Nat.le_of_ble_eq_true rfl, Nat.le_of_ble_eq_true rfl⟩ [.int (Ii v9), .int (Ii v10)] mv_X11_178 hd_X10_sizeOfv kC_8 rfl rfl rfl (Nat.le_of_ble_eq_true rfl) dX11_object_82 ⟨v9, v10, rfl, gv9, gv10, hF⟩ (fun r11 M12 gr11 qM12 => ?_)
      have hF := qM12 gr11
      exact j_iret hJ rfl gr11 dX11_object_85 hF
    have z13 : ¬ p2 = 0 ∧ ¬ p2 = 1 ∧ ¬ p2 = 2 := ⟨z4, z6, z8⟩
    have hF := hF.2.2.2 z13
    refine j_tabOut hJ 86 gp2 dX11_object_14 (by omega) (by decide) ?_
    refine j_iconst hJ dX11_object_86 ?_
    exact j_iret hJ rfl rk_m1 dX11_object_87 hF
  · have hF := hF.2 z3
    refine j_iconst hJ dX11_object_11 ?_
    exact j_iret hJ rfl rk_m1 dX11_object_12 hF
def W_X11_collect (ad : Nat → Nat) (Q : Int → MM → Prop) (av : List Value) (M : MM) : Prop := av = [.ref (ad 0)] ∧ w_X11_collect  Q  M
set_option maxHeartbeats 4000000 in
set_option maxRecDepth 100000 in
theorem c_X11_collect {l : Launch} {D : va_G} {cy : Nat → ClassId} {ad : Nat → Nat} (hin : jIn ad ksC.length) : jCN l D vwCl (tyC cy) cy ad ftC ksC (XtC ad) yX11_collect (.code yX11_collect cX11_collect 1 (some .int) :: Om) ({ frames := 5, cells := 0, slots := 0, locals := 113 } : Room) 1 (W_X11_collect ad) := by
  refine jCN_of (y := yX11_collect) (cc := cX11_collect) (nL := 1) (rk := 1) (rm := ({ frames := 5, cells := 0, slots := 0, locals := 113 } : Room)) (own := RX11) (tyC_ok cy) hin (XtC_ok ad) Om_good (by decide) rfl ?_
  intro Q av M hF
  obtain ⟨rfl, hF⟩ := hF
  refine ⟨Nat.le_of_ble_eq_true rfl, fun J hJ => ?_⟩
  show J 0 [(0, .ref (ad 0))] [] M
  unfold w_X11_collect at hF
  refine j_aload_n hJ dX11_collect_0 rfl 0 rfl ?_
  refine j_ga hJ kC_0 fC_14_3 fl_X11_35 dX11_collect_1 ?_
  refine j_callVv hJ (c_X3_forgetUndo (l := l) (D := D) (cy := cy) (ad := ad) hin) rfl om_860 ⟨rfl, rfl, Nat.le_of_ble_eq_true rfl, Nat.le_of_ble_eq_true rfl⟩ [] mv_X11_277 hd_X3_forgetUndov kC_36 rfl rfl rfl (Nat.le_of_ble_eq_true rfl) dX11_collect_4 ⟨rfl, hF⟩ (fun M2 qM2 => ?_)
  have hF := qM2
  refine j_aload_n hJ dX11_collect_7 rfl 0 rfl ?_
  refine j_ga hJ kC_0 fC_14_2 fl_X11_28 dX11_collect_8 ?_
  refine j_callVi hJ (c_X2_dropUnreached (l := l) (D := D) (cy := cy) (ad := ad) hin) rfl om_864 ⟨rfl, rfl, Nat.le_of_ble_eq_true rfl, Nat.le_of_ble_eq_true rfl⟩ [] mv_X11_280 hd_X2_dropUnreachedv kC_26 rfl rfl rfl (Nat.le_of_ble_eq_true rfl) dX11_collect_11 ⟨rfl, hF⟩ (fun r3 M4 gr3 qM4 => ?_)
  have hF := qM4 gr3
  exact j_iret hJ rfl gr3 dX11_collect_14 hF
def W_X11_undo (ad : Nat → Nat) (Q : Int → MM → Prop) (av : List Value) (M : MM) : Prop := av = [.ref (ad 0)] ∧ w_X11_undo  Q  M
set_option maxHeartbeats 4000000 in
set_option maxRecDepth 100000 in
theorem c_X11_undo {l : Launch} {D : va_G} {cy : Nat → ClassId} {ad : Nat → Nat} (hin : jIn ad ksC.length) : jCN l D vwCl (tyC cy) cy ad ftC ksC (XtC ad) yX11_undo (.code yX11_undo cX11_undo 1 (some .int) :: Om) ({ frames := 1, cells := 0, slots := 0, locals := 22 } : Room) 1 (W_X11_undo ad) := by
  refine jCN_of (y := yX11_undo) (cc := cX11_undo) (nL := 1) (rk := 1) (rm := ({ frames := 1, cells := 0, slots := 0, locals := 22 } : Room)) (own := RX11) (tyC_ok cy) hin (XtC_ok ad) Om_good (by decide) rfl ?_
  intro Q av M hF
  obtain ⟨rfl, hF⟩ := hF
  refine ⟨Nat.le_of_ble_eq_true rfl, fun J hJ => ?_⟩
  show J 0 [(0, .ref (ad 0))] [] M
  unfold w_X11_undo at hF
  refine j_aload_n hJ dX11_undo_0 rfl 0 rfl ?_
  refine j_ga hJ kC_0 fC_14_3 fl_X11_35 dX11_undo_1 ?_
  refine j_aload_n hJ dX11_undo_4 rfl 0 rfl ?_
  refine j_ga hJ kC_0 fC_14_2 fl_X11_28 dX11_undo_5 ?_
  refine j_callVi hJ (c_X3_takeBack (l := l) (D := D) (cy := cy) (ad := ad) hin) rfl om_868 ⟨rfl, rfl, Nat.le_of_ble_eq_true rfl, Nat.le_of_ble_eq_true rfl⟩ [.ref (ad 26)] mv_X11_284 hd_X3_takeBackv kC_36 rfl rfl rfl (Nat.le_of_ble_eq_true rfl) dX11_undo_8 ⟨rfl, hF⟩ (fun r1 M2 gr1 qM2 => ?_)
  have hF := qM2 gr1
  exact j_iret hJ rfl gr1 dX11_undo_11 hF
def W_X11_swap (ad : Nat → Nat) (Q : Int → MM → Prop) (X : String → MM → Prop) (av : List Value) (M : MM) : Prop := ∃ (p1 : Int) (p2 : Int), av = [.ref (ad 0), .int (Ii p1), .int (Ii p2)] ∧ ri_ p1 ∧ ri_ p2 ∧ w_X11_swap  Q X p1 p2 M
set_option maxHeartbeats 4000000 in
set_option maxRecDepth 100000 in
theorem k_X11_swap_b22 {l : Launch} {D : va_G} {cy : Nat → ClassId} {ad : Nat → Nat} {Q : Int → MM → Prop} {X : String → MM → Prop} {J : Nat → List (Nat × Value) → List Value → MM → Prop} (hst : l.stackTraces = false) (hin : jIn ad ksC.length)   (hJ : jOk l D vwCl (tyC cy) cy ad ftC ksC (XtC ad) Om RX11 cX11_swap 4 1 ({ frames := 9, cells := 1, slots := 6, locals := 169 } : Room) Q J) (hT : jTh RX11 cX11_swap Om ({ frames := 9, cells := 1, slots := 6, locals := 169 } : Room) ["java/lang/IllegalArgumentException", "java/util/NoSuchElementException"] X J)  : ∀ (M : MM), w_X11_swap_b22  Q X   M → J 22 [] [] M := by
  intro  M  hF
  unfold w_X11_swap_b22 at hF
  exact hT _ _ _ _ _ _ _ (by decide) (tw_X11_222_224 (Nat.le_of_ble_eq_true rfl) (Nat.le_of_ble_eq_true rfl)) dX11_swap_22 dX11_swap_25 dX11_swap_26 dX11_swap_29 hF
set_option maxHeartbeats 4000000 in
set_option maxRecDepth 100000 in
theorem k_X11_swap_b47 {l : Launch} {D : va_G} {cy : Nat → ClassId} {ad : Nat → Nat} {Q : Int → MM → Prop} {X : String → MM → Prop} {J : Nat → List (Nat × Value) → List Value → MM → Prop} (hst : l.stackTraces = false) (hin : jIn ad ksC.length)   (hJ : jOk l D vwCl (tyC cy) cy ad ftC ksC (XtC ad) Om RX11 cX11_swap 4 1 ({ frames := 9, cells := 1, slots := 6, locals := 169 } : Room) Q J) (hT : jTh RX11 cX11_swap Om ({ frames := 9, cells := 1, slots := 6, locals := 169 } : Room) ["java/lang/IllegalArgumentException", "java/util/NoSuchElementException"] X J)  : ∀ (M : MM), w_X11_swap_b47  Q X   M → J 47 [] [] M := by
  intro  M  hF
  unfold w_X11_swap_b47 at hF
  exact hT _ _ _ _ _ _ _ (by decide) (tw_X11_127_129 (Nat.le_of_ble_eq_true rfl) (Nat.le_of_ble_eq_true rfl)) dX11_swap_47 dX11_swap_50 dX11_swap_51 dX11_swap_54 hF
set_option maxHeartbeats 4000000 in
set_option maxRecDepth 100000 in
theorem c_X11_swap {l : Launch} {D : va_G} {cy : Nat → ClassId} {ad : Nat → Nat} (hst : l.stackTraces = false) (hin : jIn ad ksC.length) : jXN l D vwCl (tyC cy) cy ad ftC ksC (XtC ad) yX11_swap (.code yX11_swap cX11_swap 4 (some .int) :: Om) ({ frames := 9, cells := 1, slots := 6, locals := 169 } : Room) 1 1 6 ["java/lang/IllegalArgumentException", "java/util/NoSuchElementException"] (W_X11_swap ad) := by
  refine jXN_of (y := yX11_swap) (cc := cX11_swap) (nL := 4) (rk := 1) (rm := ({ frames := 9, cells := 1, slots := 6, locals := 169 } : Room)) (own := RX11) 0 ["java/lang/IllegalArgumentException", "java/util/NoSuchElementException"] hst (XtC_z ad) (tyC_ok cy) hin (XtC_ok ad) Om_good (by decide) rfl ⟨rfl, rfl⟩ ?_
  intro Q X av M hF
  obtain ⟨p1, p2, rfl, gp1, gp2, hF⟩ := hF
  refine ⟨Nat.le_of_ble_eq_true rfl, fun J hJ hT hC => ?_⟩
  have hJ0 := hJ 0 (by decide)
  have hT0 := hT 0 (by decide)
  show J 0 0 [(0, .ref (ad 0)), (1, .int (Ii p1)), (2, .int (Ii p2))] [] M
  unfold w_X11_swap at hF
  refine j_aload_n hJ0 dX11_swap_0 rfl 0 rfl ?_
  refine j_ga hJ0 kC_0 fC_14_2 fl_X11_28 dX11_swap_1 ?_
  refine j_iload_n hJ0 dX11_swap_4 rfl 1 rfl ?_
  refine j_callVz hJ0 (c_X2_isThere (l := l) (D := D) (cy := cy) (ad := ad) hin) rfl om_177 ⟨rfl, rfl, Nat.le_of_ble_eq_true rfl, Nat.le_of_ble_eq_true rfl⟩ [.int (Ii p1)] mv_X11_219 hd_X2_isTherev kC_26 rfl rfl rfl (Nat.le_of_ble_eq_true rfl) dX11_swap_5 ⟨p1, rfl, gp1, hF⟩ (fun r1 M2 gr1 qM2 => ?_)
  have hF := qM2 gr1
  refine j_if_eq hJ0 22 (jz_ri gr1) dX11_swap_8 (by decide) (fun z3 => ?_) (fun z3 => ?_)
  · have hF := hF.1 z3
    exact j_sub hJ0 [] rfl (k_X11_swap_b22 hst hin  hJ0 hT0   _  hF)
  · have hF := hF.2 z3
    refine j_aload_n hJ0 dX11_swap_11 rfl 0 rfl ?_
    refine j_ga hJ0 kC_0 fC_14_2 fl_X11_28 dX11_swap_12 ?_
    refine j_iload_n hJ0 dX11_swap_15 rfl 2 rfl ?_
    refine j_callVz hJ0 (c_X2_isThere (l := l) (D := D) (cy := cy) (ad := ad) hin) rfl om_177 ⟨rfl, rfl, Nat.le_of_ble_eq_true rfl, Nat.le_of_ble_eq_true rfl⟩ [.int (Ii p2)] mv_X11_219 hd_X2_isTherev kC_26 rfl rfl rfl (Nat.le_of_ble_eq_true rfl) dX11_swap_16 ⟨p2, rfl, gp2, hF⟩ (fun r4 M5 gr4 qM5 => ?_)
    have hF := qM5 gr4
    refine j_if_ne hJ0 30 (jz_ri gr4) dX11_swap_19 (by decide) (fun z6 => ?_) (fun z6 => ?_)
    · have hF := hF.1 z6
      refine j_iload_n hJ0 dX11_swap_30 rfl 1 rfl ?_
      refine j_iload_n hJ0 dX11_swap_31 rfl 2 rfl ?_
      refine j_icmp_eq hJ0 47 gp1 gp2 dX11_swap_32 (by decide) (fun z7 => ?_) (fun z7 => ?_)
      · have hF := hF.1 z7
        exact j_sub hJ0 [] rfl (k_X11_swap_b47 hst hin  hJ0 hT0   _  hF)
      · have hF := hF.2 z7
        refine j_aload_n hJ0 dX11_swap_35 rfl 0 rfl ?_
        refine j_ga hJ0 kC_0 fC_14_2 fl_X11_28 dX11_swap_36 ?_
        refine j_iload_n hJ0 dX11_swap_39 rfl 1 rfl ?_
        refine j_iload_n hJ0 dX11_swap_40 rfl 2 rfl ?_
        refine j_callVz hJ0 (c_X2_canSwap (l := l) (D := D) (cy := cy) (ad := ad) hin) rfl om_872 ⟨rfl, rfl, Nat.le_of_ble_eq_true rfl, Nat.le_of_ble_eq_true rfl⟩ [.int (Ii p1), .int (Ii p2)] mv_X11_288 hd_X2_canSwapv kC_26 rfl rfl rfl (Nat.le_of_ble_eq_true rfl) dX11_swap_41 ⟨p1, p2, rfl, gp1, gp2, hF⟩ (fun r8 M9 gr8 qM9 => ?_)
        have hF := qM9 gr8
        refine j_if_ne hJ0 55 (jz_ri gr8) dX11_swap_44 (by decide) (fun z10 => ?_) (fun z10 => ?_)
        · have hF := hF.1 z10
          refine j_aload_n hJ0 dX11_swap_55 rfl 0 rfl ?_
          refine j_ga hJ0 kC_0 fC_14_3 fl_X11_35 dX11_swap_56 ?_
          refine j_aload_n hJ0 dX11_swap_59 rfl 0 rfl ?_
          refine j_ga hJ0 kC_0 fC_14_2 fl_X11_28 dX11_swap_60 ?_
          refine j_iload_n hJ0 dX11_swap_63 rfl 1 rfl ?_
          refine j_iload_n hJ0 dX11_swap_64 rfl 2 rfl ?_
          refine j_callVi hJ0 (c_X3_swapSlots (l := l) (D := D) (cy := cy) (ad := ad) hin) rfl om_876 ⟨rfl, rfl, Nat.le_of_ble_eq_true rfl, Nat.le_of_ble_eq_true rfl⟩ [.ref (ad 26), .int (Ii p1), .int (Ii p2)] mv_X11_291 hd_X3_swapSlotsv kC_36 rfl rfl rfl (Nat.le_of_ble_eq_true rfl) dX11_swap_65 ⟨p1, p2, rfl, gp1, gp2, hF⟩ (fun r11 M12 gr11 qM12 => ?_)
          have hF := qM12 gr11
          refine j_aload_n hJ0 dX11_swap_68 rfl 0 rfl ?_
          refine j_ga hJ0 kC_0 fC_14_3 fl_X11_35 dX11_swap_69 ?_
          refine j_aload_n hJ0 dX11_swap_72 rfl 0 rfl ?_
          refine j_ga hJ0 kC_0 fC_14_2 fl_X11_28 dX11_swap_73 ?_
          refine j_iload_n hJ0 dX11_swap_76 rfl 1 rfl ?_
          refine j_iload_n hJ0 dX11_swap_77 rfl 2 rfl ?_
          refine j_callVi hJ0 (c_X3_swapStatics (l := l) (D := D) (cy := cy) (ad := ad) hin) rfl om_880 ⟨rfl, rfl, Nat.le_of_ble_eq_true rfl, Nat.le_of_ble_eq_true rfl⟩ [.ref (ad 26), .int (Ii p1), .int (Ii p2)] mv_X11_295 hd_X3_swapStaticsv kC_36 rfl rfl rfl (Nat.le_of_ble_eq_true rfl) dX11_swap_78 ⟨p1, p2, rfl, gp1, gp2, hF⟩ (fun r13 M14 gr13 qM14 => ?_)
          have hF := qM14 gr13
          refine j_iadd hJ0 dX11_swap_81 ?_
          have g15 := hF.1; have hF := hF.2
          refine j_istore_n (lv' := [(3, .int (Ii (r11 + r13))), (0, .ref (ad 0)), (1, .int (Ii p1)), (2, .int (Ii p2))]) hJ0 dX11_swap_82 rfl (by decide) rfl ?_
          refine j_aload_n hJ0 dX11_swap_83 rfl 1 rfl ?_
          refine j_ga hJ0 kC_0 fC_14_2 fl_X11_28 dX11_swap_84 ?_
          refine j_iload_n hJ0 dX11_swap_87 rfl 2 rfl ?_
          refine j_iload_n hJ0 dX11_swap_88 rfl 3 rfl ?_
          refine j_callVv hJ0 (c_X2_swapRoots (l := l) (D := D) (cy := cy) (ad := ad) hin) rfl om_884 ⟨rfl, rfl, Nat.le_of_ble_eq_true rfl, Nat.le_of_ble_eq_true rfl⟩ [.int (Ii p1), .int (Ii p2)] mv_X11_298 hd_X2_swapRootsv kC_26 rfl rfl rfl (Nat.le_of_ble_eq_true rfl) dX11_swap_89 ⟨p1, p2, rfl, gp1, gp2, hF⟩ (fun M17 qM17 => ?_)
          have hF := qM17
          refine j_iload_n hJ0 dX11_swap_92 rfl 0 rfl ?_
          refine j_if_le hJ0 109 g15 dX11_swap_93 (by decide) (fun z18 => ?_) (fun z18 => ?_)
          · have hF := hF.1 z18
            refine j_iload_n hJ0 dX11_swap_109 rfl 0 rfl ?_
            exact j_iret hJ0 rfl g15 dX11_swap_110 hF
          · have hF := hF.2 z18
            refine j_aload_n hJ0 dX11_swap_96 rfl 1 rfl ?_
            refine j_aload_n hJ0 dX11_swap_97 rfl 1 rfl ?_
            refine j_ga hJ0 kC_0 fC_14_3 fl_X11_35 dX11_swap_98 ?_
            refine j_gi hJ0 kC_36 fC_6_1 rfl fl_X11_301 dX11_swap_101 (fun v19 ev19 gv19 => ?_)
            have hF := hF v19 ev19 gv19
            refine j_iconst hJ0 dX11_swap_104 ?_
            refine j_isub hJ0 dX11_swap_105 ?_
            have g20 := hF.1; have hF := hF.2
            refine j_callVv hJ0 (c_X11_checkPromises (l := l) (D := D) (cy := cy) (ad := ad) hin) rfl om_850 ⟨rfl, rfl, Nat.le_of_ble_eq_true rfl, Nat.le_of_ble_eq_true rfl⟩ [.int (Ii (v19 - 1))] mv_X11_258 hd_X11_checkPromisesv kC_0 rfl rfl rfl (Nat.le_of_ble_eq_true rfl) dX11_swap_106 ⟨(v19 - 1), rfl, g20, hF⟩ (fun M22 qM22 => ?_)
            have hF := qM22
            refine j_iload_n hJ0 dX11_swap_109 rfl 0 rfl ?_
            exact j_iret hJ0 rfl g15 dX11_swap_110 hF
        · have hF := hF.2 z10
          exact j_sub hJ0 [] rfl (k_X11_swap_b47 hst hin  hJ0 hT0   _  hF)
    · have hF := hF.2 z6
      exact j_sub hJ0 [] rfl (k_X11_swap_b22 hst hin  hJ0 hT0   _  hF)
def W_X11_copy (ad : Nat → Nat) (Q : Int → MM → Prop) (X : String → MM → Prop) (av : List Value) (M : MM) : Prop := ∃ (p1 : Int) (p2 : Int), av = [.ref (ad 0), .int (Ii p1), .int (Ii p2)] ∧ ri_ p1 ∧ ri_ p2 ∧ w_X11_copy  Q X p1 p2 M
set_option maxHeartbeats 4000000 in
set_option maxRecDepth 100000 in
theorem k_X11_copy_b28 {l : Launch} {D : va_G} {cy : Nat → ClassId} {ad : Nat → Nat} {Q : Int → MM → Prop} {X : String → MM → Prop} {J : Nat → List (Nat × Value) → List Value → MM → Prop} (hst : l.stackTraces = false) (hin : jIn ad ksC.length)   (hJ : jOk l D vwCl (tyC cy) cy ad ftC ksC (XtC ad) Om RX11 cX11_copy 4 1 ({ frames := 9, cells := 1, slots := 6, locals := 140 } : Room) Q J) (hT : jTh RX11 cX11_copy Om ({ frames := 9, cells := 1, slots := 6, locals := 140 } : Room) ["java/lang/IllegalArgumentException", "java/lang/IllegalStateException", "java/util/NoSuchElementException"] X J)  : ∀ (M : MM), w_X11_copy_b28  Q X   M → J 28 [] [] M := by
  intro  M  hF
  unfold w_X11_copy_b28 at hF
  exact hT _ _ _ _ _ _ _ (by decide) (tw_X11_127_129 (Nat.le_of_ble_eq_true rfl) (Nat.le_of_ble_eq_true rfl)) dX11_copy_28 dX11_copy_31 dX11_copy_32 dX11_copy_35 hF
set_option maxHeartbeats 4000000 in
set_option maxRecDepth 100000 in
theorem c_X11_copy {l : Launch} {D : va_G} {cy : Nat → ClassId} {ad : Nat → Nat} (hst : l.stackTraces = false) (hin : jIn ad ksC.length) : jXN l D vwCl (tyC cy) cy ad ftC ksC (XtC ad) yX11_copy (.code yX11_copy cX11_copy 4 (some .int) :: Om) ({ frames := 9, cells := 1, slots := 6, locals := 140 } : Room) 1 1 6 ["java/lang/IllegalArgumentException", "java/lang/IllegalStateException", "java/util/NoSuchElementException"] (W_X11_copy ad) := by
  refine jXN_of (y := yX11_copy) (cc := cX11_copy) (nL := 4) (rk := 1) (rm := ({ frames := 9, cells := 1, slots := 6, locals := 140 } : Room)) (own := RX11) 0 ["java/lang/IllegalArgumentException", "java/lang/IllegalStateException", "java/util/NoSuchElementException"] hst (XtC_z ad) (tyC_ok cy) hin (XtC_ok ad) Om_good (by decide) rfl ⟨rfl, rfl⟩ ?_
  intro Q X av M hF
  obtain ⟨p1, p2, rfl, gp1, gp2, hF⟩ := hF
  refine ⟨Nat.le_of_ble_eq_true rfl, fun J hJ hT hC => ?_⟩
  have hJ0 := hJ 0 (by decide)
  have hT0 := hT 0 (by decide)
  show J 0 0 [(0, .ref (ad 0)), (1, .int (Ii p1)), (2, .int (Ii p2))] [] M
  unfold w_X11_copy at hF
  refine j_aload_n hJ0 dX11_copy_0 rfl 0 rfl ?_
  refine j_ga hJ0 kC_0 fC_14_2 fl_X11_28 dX11_copy_1 ?_
  refine j_iload_n hJ0 dX11_copy_4 rfl 1 rfl ?_
  refine j_callVz hJ0 (c_X2_isThere (l := l) (D := D) (cy := cy) (ad := ad) hin) rfl om_177 ⟨rfl, rfl, Nat.le_of_ble_eq_true rfl, Nat.le_of_ble_eq_true rfl⟩ [.int (Ii p1)] mv_X11_219 hd_X2_isTherev kC_26 rfl rfl rfl (Nat.le_of_ble_eq_true rfl) dX11_copy_5 ⟨p1, rfl, gp1, hF⟩ (fun r1 M2 gr1 qM2 => ?_)
  have hF := qM2 gr1
  refine j_if_ne hJ0 19 (jz_ri gr1) dX11_copy_8 (by decide) (fun z3 => ?_) (fun z3 => ?_)
  · have hF := hF.1 z3
    refine j_iload_n hJ0 dX11_copy_19 rfl 2 rfl ?_
    refine j_if_lt hJ0 28 gp2 dX11_copy_20 (by decide) (fun z4 => ?_) (fun z4 => ?_)
    · have hF := hF.1 z4
      exact j_sub hJ0 [] rfl (k_X11_copy_b28 hst hin  hJ0 hT0   _  hF)
    · have hF := hF.2 z4
      refine j_iload_n hJ0 dX11_copy_23 rfl 2 rfl ?_
      refine j_iconst hJ0 dX11_copy_24 ?_
      refine j_icmp_le hJ0 36 gp2 rk_2 dX11_copy_25 (by decide) (fun z5 => ?_) (fun z5 => ?_)
      · have hF := hF.1 z5
        refine j_aload_n hJ0 dX11_copy_36 rfl 0 rfl ?_
        refine j_ga hJ0 kC_0 fC_14_2 fl_X11_28 dX11_copy_37 ?_
        refine j_iload_n hJ0 dX11_copy_40 rfl 1 rfl ?_
        refine j_iload_n hJ0 dX11_copy_41 rfl 2 rfl ?_
        refine j_callVi hJ0 (c_X2_duplicate (l := l) (D := D) (cy := cy) (ad := ad) hin) rfl om_888 ⟨rfl, rfl, Nat.le_of_ble_eq_true rfl, Nat.le_of_ble_eq_true rfl⟩ [.int (Ii p1), .int (Ii p2)] mv_X11_304 hd_X2_duplicatev kC_26 rfl rfl rfl (Nat.le_of_ble_eq_true rfl) dX11_copy_42 ⟨p1, p2, rfl, gp1, gp2, hF⟩ (fun r6 M7 gr6 qM7 => ?_)
        have hF := qM7 gr6
        refine j_istore_n (lv' := [(3, .int (Ii r6)), (0, .ref (ad 0)), (1, .int (Ii p1)), (2, .int (Ii p2))]) hJ0 dX11_copy_45 rfl (by decide) rfl ?_
        refine j_iload_n hJ0 dX11_copy_46 rfl 0 rfl ?_
        refine j_iconst hJ0 dX11_copy_47 ?_
        refine j_icmp_ne hJ0 59 gr6 rk_m1 dX11_copy_48 (by decide) (fun z8 => ?_) (fun z8 => ?_)
        · have hF := hF.1 z8
          refine j_iload_n hJ0 dX11_copy_59 rfl 0 rfl ?_
          exact j_iret hJ0 rfl gr6 dX11_copy_60 hF
        · have hF := hF.2 z8
          exact hT0 _ _ _ _ _ _ _ (by decide) (tw_X11_137_139 (Nat.le_of_ble_eq_true rfl) (Nat.le_of_ble_eq_true rfl)) dX11_copy_51 dX11_copy_54 dX11_copy_55 dX11_copy_58 hF
      · have hF := hF.2 z5
        exact j_sub hJ0 [] rfl (k_X11_copy_b28 hst hin  hJ0 hT0   _  hF)
  · have hF := hF.2 z3
    exact hT0 _ _ _ _ _ _ _ (by decide) (tw_X11_222_224 (Nat.le_of_ble_eq_true rfl) (Nat.le_of_ble_eq_true rfl)) dX11_copy_11 dX11_copy_14 dX11_copy_15 dX11_copy_18 hF
def W_X11_apart (ad : Nat → Nat) (Q : Int → MM → Prop) (av : List Value) (M : MM) : Prop := ∃ (p1 : Int) (p2 : Int), av = [.ref (ad 0), .int (Ii p1), .int (Ii p2)] ∧ ri_ p1 ∧ (p2 = 0 ∨ p2 = 1) ∧ w_X11_apart  Q p1 p2 M
set_option maxHeartbeats 4000000 in
set_option maxRecDepth 100000 in
theorem c_X11_apart {l : Launch} {D : va_G} {cy : Nat → ClassId} {ad : Nat → Nat} (hin : jIn ad ksC.length) : jCN l D vwCl (tyC cy) cy ad ftC ksC (XtC ad) yX11_apart (.code yX11_apart cX11_apart 3 (some .boolean) :: Om) ({ frames := 1, cells := 0, slots := 0, locals := 21 } : Room) 3 (W_X11_apart ad) := by
  refine jCN_of (y := yX11_apart) (cc := cX11_apart) (nL := 3) (rk := 3) (rm := ({ frames := 1, cells := 0, slots := 0, locals := 21 } : Room)) (own := RX11) (tyC_ok cy) hin (XtC_ok ad) Om_good (by decide) rfl ?_
  intro Q av M hF
  obtain ⟨p1, p2, rfl, gp1, gp2, hF⟩ := hF
  refine ⟨Nat.le_of_ble_eq_true rfl, fun J hJ => ?_⟩
  show J 0 [(0, .ref (ad 0)), (1, .int (Ii p1)), (2, .int (Ii p2))] [] M
  unfold w_X11_apart at hF
  refine j_aload_n hJ dX11_apart_0 rfl 0 rfl ?_
  refine j_ga hJ kC_0 fC_14_1 fl_X11_19 dX11_apart_1 ?_
  refine j_iload_n hJ dX11_apart_4 rfl 1 rfl ?_
  refine j_callVz hJ (c_X10_isClass (l := l) (D := D) (cy := cy) (ad := ad) hin) rfl om_52 ⟨rfl, rfl, Nat.le_of_ble_eq_true rfl, Nat.le_of_ble_eq_true rfl⟩ [.int (Ii p1)] mv_X11_116 hd_X10_isClassv kC_8 rfl rfl rfl (Nat.le_of_ble_eq_true rfl) dX11_apart_5 ⟨p1, rfl, gp1, hF⟩ (fun r1 M2 gr1 qM2 => ?_)
  have hF := qM2 gr1
  refine j_if_ne hJ 13 (jz_ri gr1) dX11_apart_8 (by decide) (fun z3 => ?_) (fun z3 => ?_)
  · have hF := hF.1 z3
    refine j_aload_n hJ dX11_apart_13 rfl 0 rfl ?_
    refine j_ga hJ kC_0 fC_14_1 fl_X11_19 dX11_apart_14 ?_
    refine j_gr (e := 13) hJ kC_8 fC_13_5 fl_X11_307 dX11_apart_17 rfl ?_
    refine j_iload_n hJ dX11_apart_20 rfl 1 rfl ?_
    refine j_iload_n hJ dX11_apart_21 rfl 2 rfl ?_
    refine j_zast hJ gp1 gp2 kC_13 hF.1 hF.2.1 dX11_apart_22 (fun M4 eM4 => ?_)
    have hF := hF.2.2 M4 eM4
    refine j_iconst hJ dX11_apart_23 ?_
    exact j_zret hJ rfl (by decide) dX11_apart_24 hF
  · have hF := hF.2 z3
    refine j_iconst hJ dX11_apart_11 ?_
    exact j_zret hJ rfl (by decide) dX11_apart_12 hF
def W_X11_watch (ad : Nat → Nat) (Q : Int → MM → Prop) (X : String → MM → Prop) (av : List Value) (M : MM) : Prop := ∃ (p1 : Int) (p2 : Int) (p3 : Int), av = [.ref (ad 0), .int (Ii p1), .int (Ii p2), .int (Ii p3)] ∧ ri_ p1 ∧ ri_ p2 ∧ ri_ p3 ∧ w_X11_watch  Q X p1 p2 p3 M
set_option maxHeartbeats 4000000 in
set_option maxRecDepth 100000 in
theorem k_X11_watch_b29 {l : Launch} {D : va_G} {cy : Nat → ClassId} {ad : Nat → Nat} {Q : Int → MM → Prop} {X : String → MM → Prop} {J : Nat → List (Nat × Value) → List Value → MM → Prop} (hst : l.stackTraces = false) (hin : jIn ad ksC.length)   (hJ : jOk l D vwCl (tyC cy) cy ad ftC ksC (XtC ad) Om RX11 cX11_watch 4 1 ({ frames := 9, cells := 1, slots := 6, locals := 140 } : Room) Q J) (hT : jTh RX11 cX11_watch Om ({ frames := 9, cells := 1, slots := 6, locals := 140 } : Room) ["java/lang/IllegalArgumentException", "java/lang/IllegalStateException", "java/util/NoSuchElementException"] X J)  : ∀ (M : MM), w_X11_watch_b29  Q X   M → J 29 [] [] M := by
  intro  M  hF
  unfold w_X11_watch_b29 at hF
  exact hT _ _ _ _ _ _ _ (by decide) (tw_X11_127_129 (Nat.le_of_ble_eq_true rfl) (Nat.le_of_ble_eq_true rfl)) dX11_watch_29 dX11_watch_32 dX11_watch_33 dX11_watch_36 hF
set_option maxHeartbeats 4000000 in
set_option maxRecDepth 100000 in
theorem c_X11_watch {l : Launch} {D : va_G} {cy : Nat → ClassId} {ad : Nat → Nat} (hst : l.stackTraces = false) (hin : jIn ad ksC.length) : jXN l D vwCl (tyC cy) cy ad ftC ksC (XtC ad) yX11_watch (.code yX11_watch cX11_watch 4 (some .int) :: Om) ({ frames := 9, cells := 1, slots := 6, locals := 140 } : Room) 1 1 6 ["java/lang/IllegalArgumentException", "java/lang/IllegalStateException", "java/util/NoSuchElementException"] (W_X11_watch ad) := by
  refine jXN_of (y := yX11_watch) (cc := cX11_watch) (nL := 4) (rk := 1) (rm := ({ frames := 9, cells := 1, slots := 6, locals := 140 } : Room)) (own := RX11) 0 ["java/lang/IllegalArgumentException", "java/lang/IllegalStateException", "java/util/NoSuchElementException"] hst (XtC_z ad) (tyC_ok cy) hin (XtC_ok ad) Om_good (by decide) rfl ⟨rfl, rfl⟩ ?_
  intro Q X av M hF
  obtain ⟨p1, p2, p3, rfl, gp1, gp2, gp3, hF⟩ := hF
  refine ⟨Nat.le_of_ble_eq_true rfl, fun J hJ hT hC => ?_⟩
  have hJ0 := hJ 0 (by decide)
  have hT0 := hT 0 (by decide)
  show J 0 0 [(0, .ref (ad 0)), (1, .int (Ii p1)), (2, .int (Ii p2)), (3, .int (Ii p3))] [] M
  unfold w_X11_watch at hF
  refine j_aload_n hJ0 dX11_watch_0 rfl 0 rfl ?_
  refine j_ga hJ0 kC_0 fC_14_1 fl_X11_19 dX11_watch_1 ?_
  refine j_iload_n hJ0 dX11_watch_4 rfl 1 rfl ?_
  refine j_iload_n hJ0 dX11_watch_5 rfl 2 rfl ?_
  refine j_callVz hJ0 (c_X10_hasField (l := l) (D := D) (cy := cy) (ad := ad) hin) rfl om_807 ⟨rfl, rfl, Nat.le_of_ble_eq_true rfl, Nat.le_of_ble_eq_true rfl⟩ [.int (Ii p1), .int (Ii p2)] mv_X11_188 hd_X10_hasFieldv kC_8 rfl rfl rfl (Nat.le_of_ble_eq_true rfl) dX11_watch_6 ⟨p1, p2, rfl, gp1, gp2, hF⟩ (fun r1 M2 gr1 qM2 => ?_)
  have hF := qM2 gr1
  refine j_if_ne hJ0 20 (jz_ri gr1) dX11_watch_9 (by decide) (fun z3 => ?_) (fun z3 => ?_)
  · have hF := hF.1 z3
    refine j_iload_n hJ0 dX11_watch_20 rfl 3 rfl ?_
    refine j_if_lt hJ0 29 gp3 dX11_watch_21 (by decide) (fun z4 => ?_) (fun z4 => ?_)
    · have hF := hF.1 z4
      exact j_sub hJ0 [] rfl (k_X11_watch_b29 hst hin  hJ0 hT0   _  hF)
    · have hF := hF.2 z4
      refine j_iload_n hJ0 dX11_watch_24 rfl 3 rfl ?_
      refine j_iconst hJ0 dX11_watch_25 ?_
      refine j_icmp_le hJ0 37 gp3 rk_3 dX11_watch_26 (by decide) (fun z5 => ?_) (fun z5 => ?_)
      · have hF := hF.1 z5
        refine j_aload_n hJ0 dX11_watch_37 rfl 0 rfl ?_
        refine j_ga hJ0 kC_0 fC_14_3 fl_X11_35 dX11_watch_38 ?_
        refine j_gi hJ0 kC_36 fC_6_7 rfl fl_X11_310 dX11_watch_41 (fun v6 ev6 gv6 => ?_)
        have hF := hF v6 ev6 gv6
        refine j_bipush hJ0 dX11_watch_44 (by decide) ?_
        refine j_icmp_ne hJ0 57 gv6 rk_6 dX11_watch_46 (by decide) (fun z7 => ?_) (fun z7 => ?_)
        · have hF := hF.1 z7
          refine j_aload_n hJ0 dX11_watch_57 rfl 0 rfl ?_
          refine j_ga hJ0 kC_0 fC_14_3 fl_X11_35 dX11_watch_58 ?_
          refine j_iload_n hJ0 dX11_watch_61 rfl 1 rfl ?_
          refine j_iload_n hJ0 dX11_watch_62 rfl 2 rfl ?_
          refine j_iload_n hJ0 dX11_watch_63 rfl 3 rfl ?_
          refine j_callVi hJ0 (c_X3_addWatch (l := l) (D := D) (cy := cy) (ad := ad) hin) rfl om_892 ⟨rfl, rfl, Nat.le_of_ble_eq_true rfl, Nat.le_of_ble_eq_true rfl⟩ [.int (Ii p1), .int (Ii p2), .int (Ii p3)] mv_X11_313 hd_X3_addWatchv kC_36 rfl rfl rfl (Nat.le_of_ble_eq_true rfl) dX11_watch_64 ⟨p1, p2, p3, rfl, gp1, gp2, gp3, hF⟩ (fun r8 M9 gr8 qM9 => ?_)
          have hF := qM9 gr8
          exact j_iret hJ0 rfl gr8 dX11_watch_67 hF
        · have hF := hF.2 z7
          exact hT0 _ _ _ _ _ _ _ (by decide) (tw_X11_137_139 (Nat.le_of_ble_eq_true rfl) (Nat.le_of_ble_eq_true rfl)) dX11_watch_49 dX11_watch_52 dX11_watch_53 dX11_watch_56 hF
      · have hF := hF.2 z5
        exact j_sub hJ0 [] rfl (k_X11_watch_b29 hst hin  hJ0 hT0   _  hF)
  · have hF := hF.2 z3
    exact hT0 _ _ _ _ _ _ _ (by decide) (tw_X11_222_224 (Nat.le_of_ble_eq_true rfl) (Nat.le_of_ble_eq_true rfl)) dX11_watch_12 dX11_watch_15 dX11_watch_16 dX11_watch_19 hF
def W_X11_rows (ad : Nat → Nat) (Q : Int → MM → Prop) (av : List Value) (M : MM) : Prop := ∃ (p1 : Int), av = [.ref (ad 0), .int (Ii p1)] ∧ ri_ p1 ∧ w_X11_rows  Q p1 M
set_option maxHeartbeats 4000000 in
set_option maxRecDepth 100000 in
theorem c_X11_rows {l : Launch} {D : va_G} {cy : Nat → ClassId} {ad : Nat → Nat} (hin : jIn ad ksC.length) : jCN l D vwCl (tyC cy) cy ad ftC ksC (XtC ad) yX11_rows (.code yX11_rows cX11_rows 2 (some .int) :: Om) ({ frames := 0, cells := 0, slots := 0, locals := 0 } : Room) 1 (W_X11_rows ad) := by
  refine jCN_of (y := yX11_rows) (cc := cX11_rows) (nL := 2) (rk := 1) (rm := ({ frames := 0, cells := 0, slots := 0, locals := 0 } : Room)) (own := RX11) (tyC_ok cy) hin (XtC_ok ad) Om_good (by decide) rfl ?_
  intro Q av M hF
  obtain ⟨p1, rfl, gp1, hF⟩ := hF
  refine ⟨Nat.le_of_ble_eq_true rfl, fun J hJ => ?_⟩
  show J 0 [(0, .ref (ad 0)), (1, .int (Ii p1))] [] M
  unfold w_X11_rows at hF
  refine j_iload_n hJ dX11_rows_0 rfl 1 rfl ?_
  refine j_if_lt hJ 27 gp1 dX11_rows_1 (by decide) (fun z1 => ?_) (fun z1 => ?_)
  · have hF := hF.1 z1
    refine j_iconst hJ dX11_rows_27 ?_
    exact j_iret hJ rfl rk_m1 dX11_rows_28 hF
  · have hF := hF.2 z1
    refine j_iload_n hJ dX11_rows_4 rfl 1 rfl ?_
    refine j_aload_n hJ dX11_rows_5 rfl 0 rfl ?_
    refine j_ga hJ kC_0 fC_14_3 fl_X11_35 dX11_rows_6 ?_
    refine j_gi hJ kC_36 fC_6_7 rfl fl_X11_310 dX11_rows_9 (fun v2 ev2 gv2 => ?_)
    have hF := hF v2 ev2 gv2
    refine j_icmp_ge hJ 27 gp1 gv2 dX11_rows_12 (by decide) (fun z3 => ?_) (fun z3 => ?_)
    · have hF := hF.1 z3
      refine j_iconst hJ dX11_rows_27 ?_
      exact j_iret hJ rfl rk_m1 dX11_rows_28 hF
    · have hF := hF.2 z3
      refine j_aload_n hJ dX11_rows_15 rfl 0 rfl ?_
      refine j_ga hJ kC_0 fC_14_3 fl_X11_35 dX11_rows_16 ?_
      refine j_gr (e := 43) hJ kC_36 fC_6_11 fl_X11_317 dX11_rows_19 rfl ?_
      refine j_iload_n hJ dX11_rows_22 rfl 1 rfl ?_
      refine j_iald hJ gp1 kC_43 hF.1 hF.2.1 dX11_rows_23 (fun v4 ev4 gv4 => ?_)
      have hF := hF.2.2 v4 ev4 gv4
      refine j_goto hJ 28 dX11_rows_24 (by decide) ?_
      exact j_iret hJ rfl gv4 dX11_rows_28 hF
def W_X11_row (ad : Nat → Nat) (Q : Int → MM → Prop) (X : String → MM → Prop) (av : List Value) (M : MM) : Prop := ∃ (p1 : Int) (p2 : Int) (p3 : Int), av = [.ref (ad 0), .int (Ii p1), .int (Ii p2), .int (Ii p3)] ∧ ri_ p1 ∧ ri_ p2 ∧ ri_ p3 ∧ w_X11_row  Q X p1 p2 p3 M
set_option maxHeartbeats 4000000 in
set_option maxRecDepth 100000 in
theorem k_X11_row_b22 {l : Launch} {D : va_G} {cy : Nat → ClassId} {ad : Nat → Nat} {Q : Int → MM → Prop} {X : String → MM → Prop} {J : Nat → List (Nat × Value) → List Value → MM → Prop} (hst : l.stackTraces = false) (hin : jIn ad ksC.length)   (hJ : jOk l D vwCl (tyC cy) cy ad ftC ksC (XtC ad) Om RX11 cX11_row 4 2 ({ frames := 9, cells := 1, slots := 6, locals := 140 } : Room) Q J) (hT : jTh RX11 cX11_row Om ({ frames := 9, cells := 1, slots := 6, locals := 140 } : Room) ["java/util/NoSuchElementException"] X J)  : ∀ (M : MM), w_X11_row_b22  Q X   M → J 22 [] [] M := by
  intro  M  hF
  unfold w_X11_row_b22 at hF
  exact hT _ _ _ _ _ _ _ (by decide) (tw_X11_222_224 (Nat.le_of_ble_eq_true rfl) (Nat.le_of_ble_eq_true rfl)) dX11_row_22 dX11_row_25 dX11_row_26 dX11_row_29 hF
set_option maxHeartbeats 4000000 in
set_option maxRecDepth 100000 in
theorem c_X11_row {l : Launch} {D : va_G} {cy : Nat → ClassId} {ad : Nat → Nat} (hst : l.stackTraces = false) (hin : jIn ad ksC.length) : jXN l D vwCl (tyC cy) cy ad ftC ksC (XtC ad) yX11_row (.code yX11_row cX11_row 4 (some .long) :: Om) ({ frames := 9, cells := 1, slots := 6, locals := 140 } : Room) 2 1 6 ["java/util/NoSuchElementException"] (W_X11_row ad) := by
  refine jXN_of (y := yX11_row) (cc := cX11_row) (nL := 4) (rk := 2) (rm := ({ frames := 9, cells := 1, slots := 6, locals := 140 } : Room)) (own := RX11) 0 ["java/util/NoSuchElementException"] hst (XtC_z ad) (tyC_ok cy) hin (XtC_ok ad) Om_good (by decide) rfl ⟨rfl, rfl⟩ ?_
  intro Q X av M hF
  obtain ⟨p1, p2, p3, rfl, gp1, gp2, gp3, hF⟩ := hF
  refine ⟨Nat.le_of_ble_eq_true rfl, fun J hJ hT hC => ?_⟩
  have hJ0 := hJ 0 (by decide)
  have hT0 := hT 0 (by decide)
  show J 0 0 [(0, .ref (ad 0)), (1, .int (Ii p1)), (2, .int (Ii p2)), (3, .int (Ii p3))] [] M
  unfold w_X11_row at hF
  refine j_iload_n hJ0 dX11_row_0 rfl 2 rfl ?_
  refine j_if_lt hJ0 22 gp2 dX11_row_1 (by decide) (fun z1 => ?_) (fun z1 => ?_)
  · have hF := hF.1 z1
    exact j_sub hJ0 [] rfl (k_X11_row_b22 hst hin  hJ0 hT0   _  hF)
  · have hF := hF.2 z1
    refine j_iload_n hJ0 dX11_row_4 rfl 2 rfl ?_
    refine j_aload_n hJ0 dX11_row_5 rfl 0 rfl ?_
    refine j_iload_n hJ0 dX11_row_6 rfl 1 rfl ?_
    refine j_callVi hJ0 (c_X11_rows (l := l) (D := D) (cy := cy) (ad := ad) hin) rfl om_896 ⟨rfl, rfl, Nat.le_of_ble_eq_true rfl, Nat.le_of_ble_eq_true rfl⟩ [.int (Ii p1)] mv_X11_320 hd_X11_rowsv kC_0 rfl rfl rfl (Nat.le_of_ble_eq_true rfl) dX11_row_7 ⟨p1, rfl, gp1, hF⟩ (fun r2 M3 gr2 qM3 => ?_)
    have hF := qM3 gr2
    refine j_icmp_ge hJ0 22 gp2 gr2 dX11_row_10 (by decide) (fun z4 => ?_) (fun z4 => ?_)
    · have hF := hF.1 z4
      exact j_sub hJ0 [] rfl (k_X11_row_b22 hst hin  hJ0 hT0   _  hF)
    · have hF := hF.2 z4
      refine j_iload_n hJ0 dX11_row_13 rfl 3 rfl ?_
      refine j_if_lt hJ0 22 gp3 dX11_row_14 (by decide) (fun z5 => ?_) (fun z5 => ?_)
      · have hF := hF.1 z5
        exact j_sub hJ0 [] rfl (k_X11_row_b22 hst hin  hJ0 hT0   _  hF)
      · have hF := hF.2 z5
        refine j_iload_n hJ0 dX11_row_17 rfl 3 rfl ?_
        refine j_iconst hJ0 dX11_row_18 ?_
        refine j_icmp_lt hJ0 30 gp3 rk_4 dX11_row_19 (by decide) (fun z6 => ?_) (fun z6 => ?_)
        · have hF := hF.1 z6
          refine j_aload_n hJ0 dX11_row_30 rfl 0 rfl ?_
          refine j_ga hJ0 kC_0 fC_14_3 fl_X11_35 dX11_row_31 ?_
          refine j_iload_n hJ0 dX11_row_34 rfl 1 rfl ?_
          refine j_iload_n hJ0 dX11_row_35 rfl 2 rfl ?_
          refine j_iload_n hJ0 dX11_row_36 rfl 3 rfl ?_
          refine j_callVl hJ0 (c_X3_rowPart (l := l) (D := D) (cy := cy) (ad := ad) hin) rfl om_900 ⟨rfl, rfl, Nat.le_of_ble_eq_true rfl, Nat.le_of_ble_eq_true rfl⟩ [.int (Ii p1), .int (Ii p2), .int (Ii p3)] mv_X11_323 hd_X3_rowPartv kC_36 rfl rfl rfl (Nat.le_of_ble_eq_true rfl) dX11_row_37 ⟨p1, p2, p3, rfl, gp1, gp2, gp3, hF⟩ (fun r7 M8 gr7 qM8 => ?_)
          have hF := qM8 gr7
          exact j_lret hJ0 rfl gr7 dX11_row_40 hF
        · have hF := hF.2 z6
          exact j_sub hJ0 [] rfl (k_X11_row_b22 hst hin  hJ0 hT0   _  hF)
def W_X11_tellFault (ad : Nat → Nat) (Q : Int → MM → Prop) (av : List Value) (M : MM) : Prop := ∃ (p1 : Int) (p2 : Int), av = [.ref (ad 0), .int (Ii p1), .int (Ii p2)] ∧ ri_ p1 ∧ ri_ p2 ∧ w_X11_tellFault  Q p1 p2 M
set_option maxHeartbeats 4000000 in
set_option maxRecDepth 100000 in
theorem k_X11_tellFault_b15 {l : Launch} {D : va_G} {cy : Nat → ClassId} {ad : Nat → Nat} {Q : Int → MM → Prop} {J : Nat → List (Nat × Value) → List Value → MM → Prop} (hin : jIn ad ksC.length)   (hJ : jOk l D vwCl (tyC cy) cy ad ftC ksC (XtC ad) Om RX11 cX11_tellFault 3 0 ({ frames := 0, cells := 0, slots := 0, locals := 0 } : Room) Q J)  : ∀ (s0 : Int) (M : MM), ri_ s0 → w_X11_tellFault_b15  Q  s0 M → J 15 [] [.int (Ii s0), .ref (ad 0)] M := by
  intro s0 M gs0 hF
  unfold w_X11_tellFault_b15 at hF
  refine j_pi hJ gs0 kC_0 fC_14_17 rfl fp_X11_98 dX11_tellFault_15 (fun M1 eM1 => ?_)
  have hF := hF M1 eM1
  exact j_vret hJ rfl dX11_tellFault_18 hF
set_option maxHeartbeats 4000000 in
set_option maxRecDepth 100000 in
theorem c_X11_tellFault {l : Launch} {D : va_G} {cy : Nat → ClassId} {ad : Nat → Nat} (hin : jIn ad ksC.length) : jCN l D vwCl (tyC cy) cy ad ftC ksC (XtC ad) yX11_tellFault (.code yX11_tellFault cX11_tellFault 3 none :: Om) ({ frames := 0, cells := 0, slots := 0, locals := 0 } : Room) 0 (W_X11_tellFault ad) := by
  refine jCN_of (y := yX11_tellFault) (cc := cX11_tellFault) (nL := 3) (rk := 0) (rm := ({ frames := 0, cells := 0, slots := 0, locals := 0 } : Room)) (own := RX11) (tyC_ok cy) hin (XtC_ok ad) Om_good (by decide) rfl ?_
  intro Q av M hF
  obtain ⟨p1, p2, rfl, gp1, gp2, hF⟩ := hF
  refine ⟨Nat.le_of_ble_eq_true rfl, fun J hJ => ?_⟩
  show J 0 [(0, .ref (ad 0)), (1, .int (Ii p1)), (2, .int (Ii p2))] [] M
  unfold w_X11_tellFault at hF
  refine j_aload_n hJ dX11_tellFault_0 rfl 0 rfl ?_
  refine j_iload_n hJ dX11_tellFault_1 rfl 1 rfl ?_
  refine j_pi hJ gp1 kC_0 fC_14_16 rfl fp_X11_470 dX11_tellFault_2 (fun M1 eM1 => ?_)
  have hF := hF M1 eM1
  refine j_aload_n hJ dX11_tellFault_5 rfl 0 rfl ?_
  refine j_iload_n hJ dX11_tellFault_6 rfl 1 rfl ?_
  refine j_if_ne hJ 14 gp1 dX11_tellFault_7 (by decide) (fun z2 => ?_) (fun z2 => ?_)
  · have hF := hF.1 z2
    refine j_iload_n hJ dX11_tellFault_14 rfl 2 rfl ?_
    exact j_sub hJ [] rfl (k_X11_tellFault_b15 hin  hJ  p2 _ gp2 hF)
  · have hF := hF.2 z2
    refine j_iconst hJ dX11_tellFault_10 ?_
    refine j_goto hJ 15 dX11_tellFault_11 (by decide) ?_
    exact j_sub hJ [] rfl (k_X11_tellFault_b15 hin  hJ  (-1) _ rk_m1 hF)
