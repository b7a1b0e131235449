def W_X12_member (ad : Nat → Nat) (Q : Int → MM → Prop) (av : List Value) (M : MM) : Prop := ∃ (p1 : Int) (p2 : Int) (p3 : Int) (p4 : Int), av = [.ref (ad 0), .int (Ii p1), .int (Ii p2), .int (Ii p3), .int (Ii p4)] ∧ ri_ p1 ∧ ri_ p2 ∧ ri_ p3 ∧ ri_ p4 ∧ w_X12_member  Q p1 p2 p3 p4 M
set_option maxHeartbeats 4000000 in
set_option maxRecDepth 100000 in
theorem k_X12_member_b121 {l : Launch} {D : va_G} {cy : Nat → ClassId} {ad : Nat → Nat} {Q : Int → MM → Prop} {J : Nat → List (Nat × Value) → List Value → MM → Prop} (hin : jIn ad ksR.length)   (hJ : jOk l D vwCl (tyR cy) cy ad ftR ksR (XtR ad) Om RX12 cX12_member 8 1 ({ frames := 1, cells := 0, slots := 0, locals := 22 } : Room) Q J)  : ∀ (x5 s0 : Int) (M : MM), ri_ x5 → ri_ s0 → w_X12_member_b121  Q  x5 s0 M → J 121 [(0, .ref (ad 0)), (5, .int (Ii x5))] [.int (Ii s0), .ref (ad 0)] M := by
  intro x5 s0 M gx5 gs0 hF
  unfold w_X12_member_b121 at hF
  refine j_pi hJ gs0 kR_0 fR_15_0 rfl fp_X12_388 dX12_member_121 (fun M1 eM1 => ?_)
  have hF := hF M1 eM1
  refine j_aload_n hJ dX12_member_124 rfl 0 rfl ?_
  refine j_gi hJ kR_0 fR_15_0 rfl fl_X12_388 dX12_member_125 (fun v2 ev2 gv2 => ?_)
  have hF := hF v2 ev2 gv2
  refine j_if_le hJ 135 gv2 dX12_member_128 (by decide) (fun z3 => ?_) (fun z3 => ?_)
  · have hF := hF.1 z3
    refine j_iload hJ dX12_member_135 1 rfl ?_
    exact j_iret hJ rfl gx5 dX12_member_137 hF
  · have hF := hF.2 z3
    refine j_iconst hJ dX12_member_131 ?_
    refine j_goto hJ 137 dX12_member_132 (by decide) ?_
    exact j_iret hJ rfl rk_0 dX12_member_137 hF
set_option maxHeartbeats 4000000 in
set_option maxRecDepth 100000 in
theorem k_X12_member_b109 {l : Launch} {D : va_G} {cy : Nat → ClassId} {ad : Nat → Nat} {Q : Int → MM → Prop} {J : Nat → List (Nat × Value) → List Value → MM → Prop} (hin : jIn ad ksR.length)   (hJ : jOk l D vwCl (tyR cy) cy ad ftR ksR (XtR ad) Om RX12 cX12_member 8 1 ({ frames := 1, cells := 0, slots := 0, locals := 22 } : Room) Q J)  : ∀ (x5 : Int) (M : MM), ri_ x5 → w_X12_member_b109  Q  x5 M → J 109 [(0, .ref (ad 0)), (5, .int (Ii x5))] [] M := by
  intro x5 M gx5 hF
  unfold w_X12_member_b109 at hF
  refine j_aload_n hJ dX12_member_109 rfl 0 rfl ?_
  refine j_iload hJ dX12_member_110 1 rfl ?_
  refine j_iconst hJ dX12_member_112 ?_
  refine j_icmp_ne hJ 120 gx5 rk_m1 dX12_member_113 (by decide) (fun z1 => ?_) (fun z1 => ?_)
  · have hF := hF.1 z1
    refine j_iconst hJ dX12_member_120 ?_
    exact j_sub hJ [0, 1] rfl (k_X12_member_b121 hin  hJ  x5 0 _ gx5 rk_0 hF)
  · have hF := hF.2 z1
    refine j_iconst hJ dX12_member_116 ?_
    refine j_goto hJ 121 dX12_member_117 (by decide) ?_
    exact j_sub hJ [0, 1] rfl (k_X12_member_b121 hin  hJ  x5 1 _ gx5 rk_1 hF)
set_option maxHeartbeats 4000000 in
set_option maxRecDepth 100000 in
theorem k_X12_member_b103 {l : Launch} {D : va_G} {cy : Nat → ClassId} {ad : Nat → Nat} {Q : Int → MM → Prop} {J : Nat → List (Nat × Value) → List Value → MM → Prop} (hin : jIn ad ksR.length)   (hJ : jOk l D vwCl (tyR cy) cy ad ftR ksR (XtR ad) Om RX12 cX12_member 8 1 ({ frames := 1, cells := 0, slots := 0, locals := 22 } : Room) Q J) {K10 : Int → Int → Int → Int → Int → Int → Int → MM → Prop} (hK10 : ∀ (x1 x2 x3 x4 x5 x6 x7 : Int) (M : MM), ri_ x1 → ri_ x2 → ri_ x3 → ri_ x4 → ri_ x5 → ri_ x6 → ri_ x7 → K10 x1 x2 x3 x4 x5 x6 x7 M → J 10 [(0, .ref (ad 0)), (1, .int (Ii x1)), (2, .int (Ii x2)), (3, .int (Ii x3)), (4, .int (Ii x4)), (5, .int (Ii x5)), (6, .int (Ii x6)), (7, .int (Ii x7))] [] M) : ∀ (x1 x2 x3 x4 x5 x6 x7 : Int) (M : MM), ri_ x1 → ri_ x2 → ri_ x3 → ri_ x4 → ri_ x5 → ri_ x6 → ri_ x7 → w_X12_member_b103  Q K10 x1 x2 x3 x4 x5 x6 x7 M → J 103 [(0, .ref (ad 0)), (1, .int (Ii x1)), (2, .int (Ii x2)), (3, .int (Ii x3)), (4, .int (Ii x4)), (5, .int (Ii x5)), (6, .int (Ii x6)), (7, .int (Ii x7))] [] M := by
  intro x1 x2 x3 x4 x5 x6 x7 M gx1 gx2 gx3 gx4 gx5 gx6 gx7 hF
  unfold w_X12_member_b103 at hF
  refine j_iinc (lv' := [(7, .int (Ii (x7 + 1))), (0, .ref (ad 0)), (1, .int (Ii x1)), (2, .int (Ii x2)), (3, .int (Ii x3)), (4, .int (Ii x4)), (5, .int (Ii x5)), (6, .int (Ii x6))]) (k := 7) hJ dX12_member_103 rfl (by decide) rfl ?_
  have g1 := hF.1; have hF := hF.2
  refine j_goto hJ 10 dX12_member_106 (by decide) ?_
  exact j_sub hJ [1, 2, 3, 4, 5, 6, 7, 0] rfl (hK10 x1 x2 x3 x4 x5 x6 (x7 + 1) _ gx1 gx2 gx3 gx4 gx5 gx6 g1 hF)
set_option maxHeartbeats 4000000 in
set_option maxRecDepth 100000 in
theorem k_X12_member_b100 {l : Launch} {D : va_G} {cy : Nat → ClassId} {ad : Nat → Nat} {Q : Int → MM → Prop} {J : Nat → List (Nat × Value) → List Value → MM → Prop} (hin : jIn ad ksR.length)   (hJ : jOk l D vwCl (tyR cy) cy ad ftR ksR (XtR ad) Om RX12 cX12_member 8 1 ({ frames := 1, cells := 0, slots := 0, locals := 22 } : Room) Q J) {K10 : Int → Int → Int → Int → Int → Int → Int → MM → Prop} (hK10 : ∀ (x1 x2 x3 x4 x5 x6 x7 : Int) (M : MM), ri_ x1 → ri_ x2 → ri_ x3 → ri_ x4 → ri_ x5 → ri_ x6 → ri_ x7 → K10 x1 x2 x3 x4 x5 x6 x7 M → J 10 [(0, .ref (ad 0)), (1, .int (Ii x1)), (2, .int (Ii x2)), (3, .int (Ii x3)), (4, .int (Ii x4)), (5, .int (Ii x5)), (6, .int (Ii x6)), (7, .int (Ii x7))] [] M) : ∀ (x1 x2 x3 x4 x5 x6 x7 : Int) (M : MM), ri_ x1 → ri_ x2 → ri_ x3 → ri_ x4 → ri_ x5 → ri_ x6 → ri_ x7 → w_X12_member_b100  Q K10 x1 x2 x3 x4 x5 x6 x7 M → J 100 [(0, .ref (ad 0)), (1, .int (Ii x1)), (2, .int (Ii x2)), (3, .int (Ii x3)), (4, .int (Ii x4)), (5, .int (Ii x5)), (6, .int (Ii x6)), (7, .int (Ii x7))] [] M := by
  intro x1 x2 x3 x4 x5 x6 x7 M gx1 gx2 gx3 gx4 gx5 gx6 gx7 hF
  unfold w_X12_member_b100 at hF
  refine j_iinc (lv' := [(6, .int (Ii (x6 + (-1)))), (0, .ref (ad 0)), (1, .int (Ii x1)), (2, .int (Ii x2)), (3, .int (Ii x3)), (4, .int (Ii x4)), (5, .int (Ii x5)), (7, .int (Ii x7))]) (k := 6) hJ dX12_member_100 rfl (by decide) rfl ?_
  have g1 := hF.1; have hF := hF.2
  exact j_sub hJ [1, 2, 3, 4, 5, 6, 0, 7] rfl (k_X12_member_b103 hin  hJ hK10 x1 x2 x3 x4 x5 (x6 + (-1)) x7 _ gx1 gx2 gx3 gx4 gx5 g1 gx7 hF)
set_option maxHeartbeats 4000000 in
set_option maxRecDepth 100000 in
theorem k_X12_member_b84 {l : Launch} {D : va_G} {cy : Nat → ClassId} {ad : Nat → Nat} {Q : Int → MM → Prop} {J : Nat → List (Nat × Value) → List Value → MM → Prop} (hin : jIn ad ksR.length)   (hJ : jOk l D vwCl (tyR cy) cy ad ftR ksR (XtR ad) Om RX12 cX12_member 8 1 ({ frames := 1, cells := 0, slots := 0, locals := 22 } : Room) Q J) {K10 : Int → Int → Int → Int → Int → Int → Int → MM → Prop} (hK10 : ∀ (x1 x2 x3 x4 x5 x6 x7 : Int) (M : MM), ri_ x1 → ri_ x2 → ri_ x3 → ri_ x4 → ri_ x5 → ri_ x6 → ri_ x7 → K10 x1 x2 x3 x4 x5 x6 x7 M → J 10 [(0, .ref (ad 0)), (1, .int (Ii x1)), (2, .int (Ii x2)), (3, .int (Ii x3)), (4, .int (Ii x4)), (5, .int (Ii x5)), (6, .int (Ii x6)), (7, .int (Ii x7))] [] M) : ∀ (x1 x2 x3 x4 x5 x6 x7 s0 : Int) (M : MM), ri_ x1 → ri_ x2 → ri_ x3 → ri_ x4 → ri_ x5 → ri_ x6 → ri_ x7 → ri_ s0 → w_X12_member_b84  Q K10 x1 x2 x3 x4 x5 x6 x7 s0 M → J 84 [(0, .ref (ad 0)), (1, .int (Ii x1)), (2, .int (Ii x2)), (3, .int (Ii x3)), (4, .int (Ii x4)), (5, .int (Ii x5)), (6, .int (Ii x6)), (7, .int (Ii x7))] [.int (Ii s0)] M := by
  intro x1 x2 x3 x4 x5 x6 x7 s0 M gx1 gx2 gx3 gx4 gx5 gx6 gx7 gs0 hF
  unfold w_X12_member_b84 at hF
  refine j_iload_n hJ dX12_member_84 rfl 3 rfl ?_
  refine j_icmp_eq hJ 91 gs0 gx3 dX12_member_85 (by decide) (fun z1 => ?_) (fun z1 => ?_)
  · have hF := hF.1 z1
    refine j_iload hJ dX12_member_91 6 rfl ?_
    refine j_if_ne hJ 100 gx6 dX12_member_93 (by decide) (fun z2 => ?_) (fun z2 => ?_)
    · have hF := hF.1 z2
      exact j_sub hJ [0, 1, 2, 3, 4, 5, 6, 7] rfl (k_X12_member_b100 hin  hJ hK10 x1 x2 x3 x4 x5 x6 x7 _ gx1 gx2 gx3 gx4 gx5 gx6 gx7 hF)
    · have hF := hF.2 z2
      refine j_iload hJ dX12_member_96 7 rfl ?_
      refine j_istore (lv' := [(5, .int (Ii x7)), (0, .ref (ad 0)), (1, .int (Ii x1)), (2, .int (Ii x2)), (3, .int (Ii x3)), (4, .int (Ii x4)), (6, .int (Ii x6)), (7, .int (Ii x7))]) hJ dX12_member_98 (by decide) rfl ?_
      exact j_sub hJ [1, 2, 3, 4, 5, 0, 6, 7] rfl (k_X12_member_b100 hin  hJ hK10 x1 x2 x3 x4 x7 x6 x7 _ gx1 gx2 gx3 gx4 gx7 gx6 gx7 hF)
  · have hF := hF.2 z1
    refine j_goto hJ 103 dX12_member_88 (by decide) ?_
    exact j_sub hJ [0, 1, 2, 3, 4, 5, 6, 7] rfl (k_X12_member_b103 hin  hJ hK10 x1 x2 x3 x4 x5 x6 x7 _ gx1 gx2 gx3 gx4 gx5 gx6 gx7 hF)
set_option maxHeartbeats 4000000 in
set_option maxRecDepth 100000 in
theorem k_X12_member_b10 {l : Launch} {D : va_G} {cy : Nat → ClassId} {ad : Nat → Nat} {Q : Int → MM → Prop} {J : Nat → List (Nat × Value) → List Value → MM → Prop} (hin : jIn ad ksR.length)   (hJ : jOk l D vwCl (tyR cy) cy ad ftR ksR (XtR ad) Om RX12 cX12_member 8 1 ({ frames := 1, cells := 0, slots := 0, locals := 22 } : Room) Q J)  : ∀ (x1 x2 x3 x4 x5 x6 x7 : Int) (M : MM), ri_ x1 → ri_ x2 → ri_ x3 → ri_ x4 → ri_ x5 → ri_ x6 → ri_ x7 → w_X12_member_b10  Q  x1 x2 x3 x4 x5 x6 x7 M → J 10 [(0, .ref (ad 0)), (1, .int (Ii x1)), (2, .int (Ii x2)), (3, .int (Ii x3)), (4, .int (Ii x4)), (5, .int (Ii x5)), (6, .int (Ii x6)), (7, .int (Ii x7))] [] M := by
  have H9 : ∀ (n : Nat) (x1 x2 x3 x4 x5 x6 x7 : Int) (M : MM), ri_ x1 → ri_ x2 → ri_ x3 → ri_ x4 → ri_ x5 → ri_ x6 → ri_ x7 → jit (fun _ _ _ _ _ _ _ _ => False) (wb_X12_member_b10  Q ) n x1 x2 x3 x4 x5 x6 x7 M → J 10 [(0, .ref (ad 0)), (1, .int (Ii x1)), (2, .int (Ii x2)), (3, .int (Ii x3)), (4, .int (Ii x4)), (5, .int (Ii x5)), (6, .int (Ii x6)), (7, .int (Ii x7))] [] M := by
    intro n
    induction n with
    | zero => intro x1 x2 x3 x4 x5 x6 x7 M gx1 gx2 gx3 gx4 gx5 gx6 gx7 hF; exact False.elim hF
    | succ n ih =>
    intro x1 x2 x3 x4 x5 x6 x7 M gx1 gx2 gx3 gx4 gx5 gx6 gx7 hF
    have hF : wb_X12_member_b10  Q  (jit (fun _ _ _ _ _ _ _ _ => False) (wb_X12_member_b10  Q ) n) x1 x2 x3 x4 x5 x6 x7 M := hF
    unfold wb_X12_member_b10 at hF
    refine j_aload_n hJ dX12_member_10 rfl 0 rfl ?_
    refine j_iload_n hJ dX12_member_11 rfl 1 rfl ?_
    refine j_callVz hJ (c_X12_isPicture (l := l) (D := D) (cy := cy) (ad := ad) hin) rfl om_1296 ⟨rfl, rfl, Nat.le_of_ble_eq_true rfl, Nat.le_of_ble_eq_true rfl⟩ [.int (Ii x1)] mv_X12_542 hd_X12_isPicturev kR_0 rfl rfl rfl (Nat.le_of_ble_eq_true rfl) dX12_member_12 ⟨x1, rfl, gx1, hF⟩ (fun r1 M2 gr1 qM2 => ?_)
    have hF := qM2 gr1
    refine j_if_eq hJ 109 (jz_ri gr1) dX12_member_15 (by decide) (fun z3 => ?_) (fun z3 => ?_)
    · have hF := hF.1 z3
      exact j_sub hJ [0, 5] rfl (k_X12_member_b109 hin  hJ  x5 _ gx5 hF)
    · have hF := hF.2 z3
      refine j_iload_n hJ dX12_member_18 rfl 3 rfl ?_
      refine j_if_lt hJ 109 gx3 dX12_member_19 (by decide) (fun z4 => ?_) (fun z4 => ?_)
      · have hF := hF.1 z4
        exact j_sub hJ [0, 5] rfl (k_X12_member_b109 hin  hJ  x5 _ gx5 hF)
      · have hF := hF.2 z4
        refine j_iload_n hJ dX12_member_22 rfl 2 rfl ?_
        refine j_if_lt hJ 109 gx2 dX12_member_23 (by decide) (fun z5 => ?_) (fun z5 => ?_)
        · have hF := hF.1 z5
          exact j_sub hJ [0, 5] rfl (k_X12_member_b109 hin  hJ  x5 _ gx5 hF)
        · have hF := hF.2 z5
          refine j_iload_n hJ dX12_member_26 rfl 2 rfl ?_
          refine j_iconst hJ dX12_member_27 ?_
          refine j_icmp_ge hJ 109 gx2 rk_2 dX12_member_28 (by decide) (fun z6 => ?_) (fun z6 => ?_)
          · have hF := hF.1 z6
            exact j_sub hJ [0, 5] rfl (k_X12_member_b109 hin  hJ  x5 _ gx5 hF)
          · have hF := hF.2 z6
            refine j_iload hJ dX12_member_31 4 rfl ?_
            refine j_if_lt hJ 109 gx4 dX12_member_33 (by decide) (fun z7 => ?_) (fun z7 => ?_)
            · have hF := hF.1 z7
              exact j_sub hJ [0, 5] rfl (k_X12_member_b109 hin  hJ  x5 _ gx5 hF)
            · have hF := hF.2 z7
              refine j_iload hJ dX12_member_36 7 rfl ?_
              refine j_aload_n hJ dX12_member_38 rfl 0 rfl ?_
              refine j_gr (e := 38) hJ kR_0 fR_15_48 fl_X12_183 dX12_member_39 rfl ?_
              refine j_iload_n hJ dX12_member_42 rfl 1 rfl ?_
              refine j_iald hJ gx1 kR_38 hF.1 hF.2.1 dX12_member_43 (fun v8 ev8 gv8 => ?_)
              have hF := hF.2.2 v8 ev8 gv8
              refine j_icmp_ge hJ 109 gx7 gv8 dX12_member_44 (by decide) (fun z9 => ?_) (fun z9 => ?_)
              · have hF := hF.1 z9
                exact j_sub hJ [0, 5] rfl (k_X12_member_b109 hin  hJ  x5 _ gx5 hF)
              · have hF := hF.2 z9
                refine j_iload hJ dX12_member_47 5 rfl ?_
                refine j_iconst hJ dX12_member_49 ?_
                refine j_icmp_ne hJ 109 gx5 rk_m1 dX12_member_50 (by decide) (fun z10 => ?_) (fun z10 => ?_)
                · have hF := hF.1 z10
                  exact j_sub hJ [0, 5] rfl (k_X12_member_b109 hin  hJ  x5 _ gx5 hF)
                · have hF := hF.2 z10
                  refine j_iload_n hJ dX12_member_53 rfl 2 rfl ?_
                  refine j_if_ne hJ 72 gx2 dX12_member_54 (by decide) (fun z11 => ?_) (fun z11 => ?_)
                  · have hF := hF.1 z11
                    refine j_aload_n hJ dX12_member_72 rfl 0 rfl ?_
                    refine j_gr (e := 50) hJ kR_0 fR_15_60 fl_X12_219 dX12_member_73 rfl ?_
                    refine j_aload_n hJ dX12_member_76 rfl 0 rfl ?_
                    refine j_iload_n hJ dX12_member_77 rfl 1 rfl ?_
                    refine j_iload hJ dX12_member_78 7 rfl ?_
                    refine j_callVi hJ (c_X12_at (l := l) (D := D) (cy := cy) (ad := ad) hin) rfl om_1153 ⟨rfl, rfl, Nat.le_of_ble_eq_true rfl, Nat.le_of_ble_eq_true rfl⟩ [.int (Ii x1), .int (Ii x7)] mv_X12_545 hd_X12_atv kR_0 rfl rfl rfl (Nat.le_of_ble_eq_true rfl) dX12_member_80 ⟨x1, x7, rfl, gx1, gx7, hF⟩ (fun r12 M13 gr12 qM13 => ?_)
                    have hF := qM13 gr12
                    refine j_iald hJ gr12 kR_50 hF.1 hF.2.1 dX12_member_83 (fun v14 ev14 gv14 => ?_)
                    have hF := hF.2.2 v14 ev14 gv14
                    exact j_sub hJ [0, 1, 2, 3, 4, 5, 6, 7] rfl (k_X12_member_b84 hin  hJ ih x1 x2 x3 x4 x5 x6 x7 v14 _ gx1 gx2 gx3 gx4 gx5 gx6 gx7 gv14 hF)
                  · have hF := hF.2 z11
                    refine j_aload_n hJ dX12_member_57 rfl 0 rfl ?_
                    refine j_gr (e := 49) hJ kR_0 fR_15_59 fl_X12_216 dX12_member_58 rfl ?_
                    refine j_aload_n hJ dX12_member_61 rfl 0 rfl ?_
                    refine j_iload_n hJ dX12_member_62 rfl 1 rfl ?_
                    refine j_iload hJ dX12_member_63 7 rfl ?_
                    refine j_callVi hJ (c_X12_at (l := l) (D := D) (cy := cy) (ad := ad) hin) rfl om_1153 ⟨rfl, rfl, Nat.le_of_ble_eq_true rfl, Nat.le_of_ble_eq_true rfl⟩ [.int (Ii x1), .int (Ii x7)] mv_X12_545 hd_X12_atv kR_0 rfl rfl rfl (Nat.le_of_ble_eq_true rfl) dX12_member_65 ⟨x1, x7, rfl, gx1, gx7, hF⟩ (fun r15 M16 gr15 qM16 => ?_)
                    have hF := qM16 gr15
                    refine j_iald hJ gr15 kR_49 hF.1 hF.2.1 dX12_member_68 (fun v17 ev17 gv17 => ?_)
                    have hF := hF.2.2 v17 ev17 gv17
                    refine j_goto hJ 84 dX12_member_69 (by decide) ?_
                    exact j_sub hJ [0, 1, 2, 3, 4, 5, 6, 7] rfl (k_X12_member_b84 hin  hJ ih x1 x2 x3 x4 x5 x6 x7 v17 _ gx1 gx2 gx3 gx4 gx5 gx6 gx7 gv17 hF)
  intro x1 x2 x3 x4 x5 x6 x7 M gx1 gx2 gx3 gx4 gx5 gx6 gx7 hF
  obtain ⟨n, hF⟩ := hF
  exact H9 n x1 x2 x3 x4 x5 x6 x7 M gx1 gx2 gx3 gx4 gx5 gx6 gx7 hF
set_option maxHeartbeats 4000000 in
set_option maxRecDepth 100000 in
theorem c_X12_member {l : Launch} {D : va_G} {cy : Nat → ClassId} {ad : Nat → Nat} (hin : jIn ad ksR.length) : jCN l D vwCl (tyR cy) cy ad ftR ksR (XtR ad) yX12_member (.code yX12_member cX12_member 8 (some .int) :: Om) ({ frames := 1, cells := 0, slots := 0, locals := 22 } : Room) 1 (W_X12_member ad) := by
  refine jCN_of (y := yX12_member) (cc := cX12_member) (nL := 8) (rk := 1) (rm := ({ frames := 1, cells := 0, slots := 0, locals := 22 } : Room)) (own := RX12) (tyR_ok cy) hin (XtR_ok ad) Om_good (by decide) rfl ?_
  intro Q av M hF
  obtain ⟨p1, p2, p3, p4, rfl, gp1, gp2, gp3, gp4, hF⟩ := hF
  refine ⟨Nat.le_of_ble_eq_true rfl, fun J hJ => ?_⟩
  show J 0 [(0, .ref (ad 0)), (1, .int (Ii p1)), (2, .int (Ii p2)), (3, .int (Ii p3)), (4, .int (Ii p4))] [] M
  unfold w_X12_member at hF
  refine j_iconst hJ dX12_member_0 ?_
  refine j_istore (lv' := [(5, .int (Ii (-1))), (0, .ref (ad 0)), (1, .int (Ii p1)), (2, .int (Ii p2)), (3, .int (Ii p3)), (4, .int (Ii p4))]) hJ dX12_member_1 (by decide) rfl ?_
  refine j_iload hJ dX12_member_3 5 rfl ?_
  refine j_istore (lv' := [(6, .int (Ii p4)), (5, .int (Ii (-1))), (0, .ref (ad 0)), (1, .int (Ii p1)), (2, .int (Ii p2)), (3, .int (Ii p3)), (4, .int (Ii p4))]) hJ dX12_member_5 (by decide) rfl ?_
  refine j_iconst hJ dX12_member_7 ?_
  refine j_istore (lv' := [(7, .int (Ii 0)), (6, .int (Ii p4)), (5, .int (Ii (-1))), (0, .ref (ad 0)), (1, .int (Ii p1)), (2, .int (Ii p2)), (3, .int (Ii p3)), (4, .int (Ii p4))]) hJ dX12_member_8 (by decide) rfl ?_
  exact j_sub hJ [3, 4, 5, 6, 7, 2, 1, 0] rfl (k_X12_member_b10 hin  hJ  p1 p2 p3 p4 (-1) p4 0 _ gp1 gp2 gp3 gp4 rk_m1 gp4 rk_0 hF)
def W_X12_choose (ad : Nat → Nat) (Q : Int → MM → Prop) (av : List Value) (M : MM) : Prop := ∃ (p1 : Int) (p2 : Int) (p3 : Int), av = [.ref (ad 0), .int (Ii p1), .int (Ii p2), .int (Ii p3)] ∧ ri_ p1 ∧ ri_ p2 ∧ (p3 = 0 ∨ p3 = 1) ∧ w_X12_choose  Q p1 p2 p3 M
set_option maxHeartbeats 4000000 in
set_option maxRecDepth 100000 in
theorem c_X12_choose {l : Launch} {D : va_G} {cy : Nat → ClassId} {ad : Nat → Nat} (hin : jIn ad ksR.length) : jCN l D vwCl (tyR cy) cy ad ftR ksR (XtR ad) yX12_choose (.code yX12_choose cX12_choose 4 (some .boolean) :: Om) ({ frames := 2, cells := 0, slots := 0, locals := 43 } : Room) 3 (W_X12_choose ad) := by
  refine jCN_of (y := yX12_choose) (cc := cX12_choose) (nL := 4) (rk := 3) (rm := ({ frames := 2, cells := 0, slots := 0, locals := 43 } : Room)) (own := RX12) (tyR_ok cy) hin (XtR_ok ad) Om_good (by decide) rfl ?_
  intro Q av M hF
  obtain ⟨p1, p2, p3, rfl, gp1, gp2, gp3, hF⟩ := hF
  refine ⟨Nat.le_of_ble_eq_true rfl, fun J hJ => ?_⟩
  show J 0 [(0, .ref (ad 0)), (1, .int (Ii p1)), (2, .int (Ii p2)), (3, .int (Ii p3))] [] M
  unfold w_X12_choose at hF
  refine j_aload_n hJ dX12_choose_0 rfl 0 rfl ?_
  refine j_iconst hJ dX12_choose_1 ?_
  refine j_pi hJ rk_0 kR_0 fR_15_0 rfl fp_X12_388 dX12_choose_2 (fun M1 eM1 => ?_)
  have hF := hF M1 eM1
  refine j_aload_n hJ dX12_choose_5 rfl 0 rfl ?_
  refine j_iload_n hJ dX12_choose_6 rfl 1 rfl ?_
  refine j_iload_n hJ dX12_choose_7 rfl 2 rfl ?_
  refine j_callVz hJ (c_X12_isThing (l := l) (D := D) (cy := cy) (ad := ad) hin) rfl om_1316 ⟨rfl, rfl, Nat.le_of_ble_eq_true rfl, Nat.le_of_ble_eq_true rfl⟩ [.int (Ii p1), .int (Ii p2)] mv_X12_600 hd_X12_isThingv kR_0 rfl rfl rfl (Nat.le_of_ble_eq_true rfl) dX12_choose_8 ⟨p1, p2, rfl, gp1, gp2, hF⟩ (fun r2 M3 gr2 qM3 => ?_)
  have hF := qM3 gr2
  refine j_if_ne hJ 16 (jz_ri gr2) dX12_choose_11 (by decide) (fun z4 => ?_) (fun z4 => ?_)
  · have hF := hF.1 z4
    refine j_aload_n hJ dX12_choose_16 rfl 0 rfl ?_
    refine j_gr (e := 59) hJ kR_0 fR_15_69 fl_X12_246 dX12_choose_17 rfl ?_
    refine j_aload_n hJ dX12_choose_20 rfl 0 rfl ?_
    refine j_iload_n hJ dX12_choose_21 rfl 1 rfl ?_
    refine j_iload_n hJ dX12_choose_22 rfl 2 rfl ?_
    refine j_callVi hJ (c_X12_at (l := l) (D := D) (cy := cy) (ad := ad) hin) rfl om_1153 ⟨rfl, rfl, Nat.le_of_ble_eq_true rfl, Nat.le_of_ble_eq_true rfl⟩ [.int (Ii p1), .int (Ii p2)] mv_X12_545 hd_X12_atv kR_0 rfl rfl rfl (Nat.le_of_ble_eq_true rfl) dX12_choose_23 ⟨p1, p2, rfl, gp1, gp2, hF⟩ (fun r5 M6 gr5 qM6 => ?_)
    have hF := qM6 gr5
    refine j_iload_n hJ dX12_choose_26 rfl 3 rfl ?_
    refine j_zast hJ gr5 gp3 kR_59 hF.1 hF.2.1 dX12_choose_27 (fun M7 eM7 => ?_)
    have hF := hF.2.2 M7 eM7
    refine j_iconst hJ dX12_choose_28 ?_
    exact j_zret hJ rfl (by decide) dX12_choose_29 hF
  · have hF := hF.2 z4
    refine j_iconst hJ dX12_choose_14 ?_
    exact j_zret hJ rfl (by decide) dX12_choose_15 hF
def W_X12_lost (ad : Nat → Nat) (Q : Int → MM → Prop) (av : List Value) (M : MM) : Prop := ∃ (p1 : Int), av = [.ref (ad 0), .int (Ii p1)] ∧ ri_ p1 ∧ w_X12_lost  Q p1 M
set_option maxHeartbeats 4000000 in
set_option maxRecDepth 100000 in
theorem k_X12_lost_b92 {l : Launch} {D : va_G} {cy : Nat → ClassId} {ad : Nat → Nat} {Q : Int → MM → Prop} {J : Nat → List (Nat × Value) → List Value → MM → Prop} (hin : jIn ad ksR.length)   (hJ : jOk l D vwCl (tyR cy) cy ad ftR ksR (XtR ad) Om RX12 cX12_lost 3 1 ({ frames := 5, cells := 0, slots := 0, locals := 121 } : Room) Q J) {K43 : Int → Int → MM → Prop} (hK43 : ∀ (x1 x2 : Int) (M : MM), ri_ x1 → ri_ x2 → K43 x1 x2 M → J 43 [(0, .ref (ad 0)), (1, .int (Ii x1)), (2, .int (Ii x2))] [] M) : ∀ (x1 x2 : Int) (M : MM), ri_ x1 → ri_ x2 → w_X12_lost_b92  Q K43 x1 x2 M → J 92 [(0, .ref (ad 0)), (1, .int (Ii x1)), (2, .int (Ii x2))] [] M := by
  intro x1 x2 M gx1 gx2 hF
  unfold w_X12_lost_b92 at hF
  refine j_iinc (lv' := [(2, .int (Ii (x2 + 1))), (0, .ref (ad 0)), (1, .int (Ii x1))]) (k := 2) hJ dX12_lost_92 rfl (by decide) rfl ?_
  have g1 := hF.1; have hF := hF.2
  refine j_goto hJ 43 dX12_lost_95 (by decide) ?_
  exact j_sub hJ [1, 2, 0] rfl (hK43 x1 (x2 + 1) _ gx1 g1 hF)
set_option maxHeartbeats 4000000 in
set_option maxRecDepth 100000 in
theorem k_X12_lost_b43 {l : Launch} {D : va_G} {cy : Nat → ClassId} {ad : Nat → Nat} {Q : Int → MM → Prop} {J : Nat → List (Nat × Value) → List Value → MM → Prop} (hin : jIn ad ksR.length)   (hJ : jOk l D vwCl (tyR cy) cy ad ftR ksR (XtR ad) Om RX12 cX12_lost 3 1 ({ frames := 5, cells := 0, slots := 0, locals := 121 } : Room) Q J)  : ∀ (x1 x2 : Int) (M : MM), ri_ x1 → ri_ x2 → w_X12_lost_b43  Q  x1 x2 M → J 43 [(0, .ref (ad 0)), (1, .int (Ii x1)), (2, .int (Ii x2))] [] M := by
  have H9 : ∀ (n : Nat) (x1 x2 : Int) (M : MM), ri_ x1 → ri_ x2 → jit (fun _ _ _ => False) (wb_X12_lost_b43  Q ) n x1 x2 M → J 43 [(0, .ref (ad 0)), (1, .int (Ii x1)), (2, .int (Ii x2))] [] M := by
    intro n
    induction n with
    | zero => intro x1 x2 M gx1 gx2 hF; exact False.elim hF
    | succ n ih =>
    intro x1 x2 M gx1 gx2 hF
    have hF : wb_X12_lost_b43  Q  (jit (fun _ _ _ => False) (wb_X12_lost_b43  Q ) n) x1 x2 M := hF
    unfold wb_X12_lost_b43 at hF
    refine j_iload_n hJ dX12_lost_43 rfl 2 rfl ?_
    refine j_aload_n hJ dX12_lost_44 rfl 0 rfl ?_
    refine j_gr (e := 38) hJ kR_0 fR_15_48 fl_X12_183 dX12_lost_45 rfl ?_
    refine j_iload_n hJ dX12_lost_48 rfl 1 rfl ?_
    refine j_iald hJ gx1 kR_38 hF.1 hF.2.1 dX12_lost_49 (fun v1 ev1 gv1 => ?_)
    have hF := hF.2.2 v1 ev1 gv1
    refine j_icmp_ge hJ 98 gx2 gv1 dX12_lost_50 (by decide) (fun z2 => ?_) (fun z2 => ?_)
    · have hF := hF.1 z2
      refine j_aload_n hJ dX12_lost_98 rfl 0 rfl ?_
      refine j_gr (e := 52) hJ kR_0 fR_15_62 fl_X12_225 dX12_lost_99 rfl ?_
      refine j_iload_n hJ dX12_lost_102 rfl 1 rfl ?_
      refine j_iald hJ gx1 kR_52 hF.1 hF.2.1 dX12_lost_103 (fun v3 ev3 gv3 => ?_)
      have hF := hF.2.2 v3 ev3 gv3
      exact j_iret hJ rfl gv3 dX12_lost_104 hF
    · have hF := hF.2 z2
      refine j_aload_n hJ dX12_lost_53 rfl 0 rfl ?_
      refine j_gr (e := 60) hJ kR_0 fR_15_70 fl_X12_249 dX12_lost_54 rfl ?_
      refine j_iload_n hJ dX12_lost_57 rfl 2 rfl ?_
      refine j_zald hJ gx2 kR_60 hF.1 hF.2.1 dX12_lost_58 (fun v4 ev4 gv4 => ?_)
      have hF := hF.2.2 v4 ev4 gv4
      refine j_if_eq hJ 65 (jz_ri gv4) dX12_lost_59 (by decide) (fun z5 => ?_) (fun z5 => ?_)
      · have hF := hF.1 z5
        refine j_aload_n hJ dX12_lost_65 rfl 0 rfl ?_
        refine j_gr (e := 51) hJ kR_0 fR_15_61 fl_X12_222 dX12_lost_66 rfl ?_
        refine j_aload_n hJ dX12_lost_69 rfl 0 rfl ?_
        refine j_iload_n hJ dX12_lost_70 rfl 1 rfl ?_
        refine j_aload_n hJ dX12_lost_71 rfl 0 rfl ?_
        refine j_gr (e := 52) hJ kR_0 fR_15_62 fl_X12_225 dX12_lost_72 rfl ?_
        refine j_iload_n hJ dX12_lost_75 rfl 1 rfl ?_
        refine j_iald hJ gx1 kR_52 hF.1 hF.2.1 dX12_lost_76 (fun v6 ev6 gv6 => ?_)
        have hF := hF.2.2 v6 ev6 gv6
        refine j_callVi hJ (c_X12_at (l := l) (D := D) (cy := cy) (ad := ad) hin) rfl om_1153 ⟨rfl, rfl, Nat.le_of_ble_eq_true rfl, Nat.le_of_ble_eq_true rfl⟩ [.int (Ii x1), .int (Ii v6)] mv_X12_545 hd_X12_atv kR_0 rfl rfl rfl (Nat.le_of_ble_eq_true rfl) dX12_lost_77 ⟨x1, v6, rfl, gx1, gv6, hF⟩ (fun r7 M8 gr7 qM8 => ?_)
        have hF := qM8 gr7
        refine j_iload_n hJ dX12_lost_80 rfl 2 rfl ?_
        refine j_iast hJ gr7 gx2 kR_51 hF.1 hF.2.1 dX12_lost_81 (fun M9 eM9 => ?_)
        have hF := hF.2.2 M9 eM9
        refine j_aload_n hJ dX12_lost_82 rfl 0 rfl ?_
        refine j_gr (e := 52) hJ kR_0 fR_15_62 fl_X12_225 dX12_lost_83 rfl ?_
        refine j_iload_n hJ dX12_lost_86 rfl 1 rfl ?_
        refine j_dup2_11 hJ dX12_lost_87 rfl rfl ?_
        refine j_iald hJ gx1 kR_52 hF.1 hF.2.1 dX12_lost_88 (fun v10 ev10 gv10 => ?_)
        have hF := hF.2.2 v10 ev10 gv10
        refine j_iconst hJ dX12_lost_89 ?_
        refine j_iadd hJ dX12_lost_90 ?_
        have g11 := hF.1; have hF := hF.2
        refine j_iast hJ gx1 g11 kR_52 hF.1 hF.2.1 dX12_lost_91 (fun M12 eM12 => ?_)
        have hF := hF.2.2 M12 eM12
        exact j_sub hJ [0, 1, 2] rfl (k_X12_lost_b92 hin  hJ ih x1 x2 _ gx1 gx2 hF)
      · have hF := hF.2 z5
        refine j_goto hJ 92 dX12_lost_62 (by decide) ?_
        exact j_sub hJ [0, 1, 2] rfl (k_X12_lost_b92 hin  hJ ih x1 x2 _ gx1 gx2 hF)
  intro x1 x2 M gx1 gx2 hF
  obtain ⟨n, hF⟩ := hF
  exact H9 n x1 x2 M gx1 gx2 hF
set_option maxHeartbeats 4000000 in
set_option maxRecDepth 100000 in
theorem k_X12_lost_b14 {l : Launch} {D : va_G} {cy : Nat → ClassId} {ad : Nat → Nat} {Q : Int → MM → Prop} {J : Nat → List (Nat × Value) → List Value → MM → Prop} (hin : jIn ad ksR.length)   (hJ : jOk l D vwCl (tyR cy) cy ad ftR ksR (XtR ad) Om RX12 cX12_lost 3 1 ({ frames := 5, cells := 0, slots := 0, locals := 121 } : Room) Q J)  : ∀ (x1 s0 : Int) (M : MM), ri_ x1 → ri_ s0 → w_X12_lost_b14  Q  x1 s0 M → J 14 [(0, .ref (ad 0)), (1, .int (Ii x1))] [.int (Ii s0), .ref (ad 0)] M := by
  intro x1 s0 M gx1 gs0 hF
  unfold w_X12_lost_b14 at hF
  refine j_pi hJ gs0 kR_0 fR_15_0 rfl fp_X12_388 dX12_lost_14 (fun M1 eM1 => ?_)
  have hF := hF M1 eM1
  refine j_aload_n hJ dX12_lost_17 rfl 0 rfl ?_
  refine j_gi hJ kR_0 fR_15_0 rfl fl_X12_388 dX12_lost_18 (fun v2 ev2 gv2 => ?_)
  have hF := hF v2 ev2 gv2
  refine j_if_le hJ 26 gv2 dX12_lost_21 (by decide) (fun z3 => ?_) (fun z3 => ?_)
  · have hF := hF.1 z3
    refine j_aload_n hJ dX12_lost_26 rfl 0 rfl ?_
    refine j_iload_n hJ dX12_lost_27 rfl 1 rfl ?_
    refine j_iconst hJ dX12_lost_28 ?_
    refine j_iconst hJ dX12_lost_29 ?_
    refine j_iconst hJ dX12_lost_30 ?_
    refine j_callVv hJ (c_X12_reach (l := l) (D := D) (cy := cy) (ad := ad) hin) rfl om_1189 ⟨rfl, rfl, Nat.le_of_ble_eq_true rfl, Nat.le_of_ble_eq_true rfl⟩ [.int (Ii x1), .int (Ii (-1)), .int (Ii (-1)), .int (Ii 1)] mv_X12_591 hd_X12_reachv kR_0 rfl rfl rfl (Nat.le_of_ble_eq_true rfl) dX12_lost_31 ⟨x1, (-1), (-1), 1, rfl, gx1, rk_m1, rk_m1, (by decide), hF⟩ (fun M5 qM5 => ?_)
    have hF := qM5
    refine j_aload_n hJ dX12_lost_34 rfl 0 rfl ?_
    refine j_gr (e := 52) hJ kR_0 fR_15_62 fl_X12_225 dX12_lost_35 rfl ?_
    refine j_iload_n hJ dX12_lost_38 rfl 1 rfl ?_
    refine j_iconst hJ dX12_lost_39 ?_
    refine j_iast hJ gx1 rk_0 kR_52 hF.1 hF.2.1 dX12_lost_40 (fun M6 eM6 => ?_)
    have hF := hF.2.2 M6 eM6
    refine j_iconst hJ dX12_lost_41 ?_
    refine j_istore_n (lv' := [(2, .int (Ii 0)), (0, .ref (ad 0)), (1, .int (Ii x1))]) hJ dX12_lost_42 rfl (by decide) rfl ?_
    exact j_sub hJ [1, 2, 0] rfl (k_X12_lost_b43 hin  hJ  x1 0 _ gx1 rk_0 hF)
  · have hF := hF.2 z3
    refine j_iconst hJ dX12_lost_24 ?_
    exact j_iret hJ rfl rk_0 dX12_lost_25 hF
set_option maxHeartbeats 4000000 in
set_option maxRecDepth 100000 in
theorem c_X12_lost {l : Launch} {D : va_G} {cy : Nat → ClassId} {ad : Nat → Nat} (hin : jIn ad ksR.length) : jCN l D vwCl (tyR cy) cy ad ftR ksR (XtR ad) yX12_lost (.code yX12_lost cX12_lost 3 (some .int) :: Om) ({ frames := 5, cells := 0, slots := 0, locals := 121 } : Room) 1 (W_X12_lost ad) := by
  refine jCN_of (y := yX12_lost) (cc := cX12_lost) (nL := 3) (rk := 1) (rm := ({ frames := 5, cells := 0, slots := 0, locals := 121 } : Room)) (own := RX12) (tyR_ok cy) hin (XtR_ok ad) Om_good (by decide) rfl ?_
  intro Q av M hF
  obtain ⟨p1, rfl, gp1, hF⟩ := hF
  refine ⟨Nat.le_of_ble_eq_true rfl, fun J hJ => ?_⟩
  show J 0 [(0, .ref (ad 0)), (1, .int (Ii p1))] [] M
  unfold w_X12_lost at hF
  refine j_aload_n hJ dX12_lost_0 rfl 0 rfl ?_
  refine j_aload_n hJ dX12_lost_1 rfl 0 rfl ?_
  refine j_iload_n hJ dX12_lost_2 rfl 1 rfl ?_
  refine j_callVz hJ (c_X12_isPicture (l := l) (D := D) (cy := cy) (ad := ad) hin) rfl om_1296 ⟨rfl, rfl, Nat.le_of_ble_eq_true rfl, Nat.le_of_ble_eq_true rfl⟩ [.int (Ii p1)] mv_X12_542 hd_X12_isPicturev kR_0 rfl rfl rfl (Nat.le_of_ble_eq_true rfl) dX12_lost_3 ⟨p1, rfl, gp1, hF⟩ (fun r1 M2 gr1 qM2 => ?_)
  have hF := qM2 gr1
  refine j_if_eq hJ 13 (jz_ri gr1) dX12_lost_6 (by decide) (fun z3 => ?_) (fun z3 => ?_)
  · have hF := hF.1 z3
    refine j_iconst hJ dX12_lost_13 ?_
    exact j_sub hJ [0, 1] rfl (k_X12_lost_b14 hin  hJ  p1 1 _ gp1 rk_1 hF)
  · have hF := hF.2 z3
    refine j_iconst hJ dX12_lost_9 ?_
    refine j_goto hJ 14 dX12_lost_10 (by decide) ?_
    exact j_sub hJ [0, 1] rfl (k_X12_lost_b14 hin  hJ  p1 0 _ gp1 rk_0 hF)
def W_X12_lostThing (ad : Nat → Nat) (Q : Int → MM → Prop) (av : List Value) (M : MM) : Prop := ∃ (p1 : Int) (p2 : Int), av = [.ref (ad 0), .int (Ii p1), .int (Ii p2)] ∧ ri_ p1 ∧ ri_ p2 ∧ w_X12_lostThing  Q p1 p2 M
set_option maxHeartbeats 4000000 in
set_option maxRecDepth 100000 in
theorem c_X12_lostThing {l : Launch} {D : va_G} {cy : Nat → ClassId} {ad : Nat → Nat} (hin : jIn ad ksR.length) : jCN l D vwCl (tyR cy) cy ad ftR ksR (XtR ad) yX12_lostThing (.code yX12_lostThing cX12_lostThing 3 (some .int) :: Om) ({ frames := 1, cells := 0, slots := 0, locals := 22 } : Room) 1 (W_X12_lostThing ad) := by
  refine jCN_of (y := yX12_lostThing) (cc := cX12_lostThing) (nL := 3) (rk := 1) (rm := ({ frames := 1, cells := 0, slots := 0, locals := 22 } : Room)) (own := RX12) (tyR_ok cy) hin (XtR_ok ad) Om_good (by decide) rfl ?_
  intro Q av M hF
  obtain ⟨p1, p2, rfl, gp1, gp2, hF⟩ := hF
  refine ⟨Nat.le_of_ble_eq_true rfl, fun J hJ => ?_⟩
  show J 0 [(0, .ref (ad 0)), (1, .int (Ii p1)), (2, .int (Ii p2))] [] M
  unfold w_X12_lostThing at hF
  refine j_aload_n hJ dX12_lostThing_0 rfl 0 rfl ?_
  refine j_iconst hJ dX12_lostThing_1 ?_
  refine j_pi hJ rk_0 kR_0 fR_15_0 rfl fp_X12_388 dX12_lostThing_2 (fun M1 eM1 => ?_)
  have hF := hF M1 eM1
  refine j_aload_n hJ dX12_lostThing_5 rfl 0 rfl ?_
  refine j_iload_n hJ dX12_lostThing_6 rfl 1 rfl ?_
  refine j_callVz hJ (c_X12_isPicture (l := l) (D := D) (cy := cy) (ad := ad) hin) rfl om_1296 ⟨rfl, rfl, Nat.le_of_ble_eq_true rfl, Nat.le_of_ble_eq_true rfl⟩ [.int (Ii p1)] mv_X12_542 hd_X12_isPicturev kR_0 rfl rfl rfl (Nat.le_of_ble_eq_true rfl) dX12_lostThing_7 ⟨p1, rfl, gp1, hF⟩ (fun r2 M3 gr2 qM3 => ?_)
  have hF := qM3 gr2
  refine j_if_eq hJ 41 (jz_ri gr2) dX12_lostThing_10 (by decide) (fun z4 => ?_) (fun z4 => ?_)
  · have hF := hF.1 z4
    refine j_iconst hJ dX12_lostThing_41 ?_
    exact j_iret hJ rfl rk_m1 dX12_lostThing_42 hF
  · have hF := hF.2 z4
    refine j_iload_n hJ dX12_lostThing_13 rfl 2 rfl ?_
    refine j_if_lt hJ 41 gp2 dX12_lostThing_14 (by decide) (fun z5 => ?_) (fun z5 => ?_)
    · have hF := hF.1 z5
      refine j_iconst hJ dX12_lostThing_41 ?_
      exact j_iret hJ rfl rk_m1 dX12_lostThing_42 hF
    · have hF := hF.2 z5
      refine j_iload_n hJ dX12_lostThing_17 rfl 2 rfl ?_
      refine j_aload_n hJ dX12_lostThing_18 rfl 0 rfl ?_
      refine j_gr (e := 52) hJ kR_0 fR_15_62 fl_X12_225 dX12_lostThing_19 rfl ?_
      refine j_iload_n hJ dX12_lostThing_22 rfl 1 rfl ?_
      refine j_iald hJ gp1 kR_52 hF.1 hF.2.1 dX12_lostThing_23 (fun v6 ev6 gv6 => ?_)
      have hF := hF.2.2 v6 ev6 gv6
      refine j_icmp_ge hJ 41 gp2 gv6 dX12_lostThing_24 (by decide) (fun z7 => ?_) (fun z7 => ?_)
      · have hF := hF.1 z7
        refine j_iconst hJ dX12_lostThing_41 ?_
        exact j_iret hJ rfl rk_m1 dX12_lostThing_42 hF
      · have hF := hF.2 z7
        refine j_aload_n hJ dX12_lostThing_27 rfl 0 rfl ?_
        refine j_gr (e := 51) hJ kR_0 fR_15_61 fl_X12_222 dX12_lostThing_28 rfl ?_
        refine j_aload_n hJ dX12_lostThing_31 rfl 0 rfl ?_
        refine j_iload_n hJ dX12_lostThing_32 rfl 1 rfl ?_
        refine j_iload_n hJ dX12_lostThing_33 rfl 2 rfl ?_
        refine j_callVi hJ (c_X12_at (l := l) (D := D) (cy := cy) (ad := ad) hin) rfl om_1153 ⟨rfl, rfl, Nat.le_of_ble_eq_true rfl, Nat.le_of_ble_eq_true rfl⟩ [.int (Ii p1), .int (Ii p2)] mv_X12_545 hd_X12_atv kR_0 rfl rfl rfl (Nat.le_of_ble_eq_true rfl) dX12_lostThing_34 ⟨p1, p2, rfl, gp1, gp2, hF⟩ (fun r8 M9 gr8 qM9 => ?_)
        have hF := qM9 gr8
        refine j_iald hJ gr8 kR_51 hF.1 hF.2.1 dX12_lostThing_37 (fun v10 ev10 gv10 => ?_)
        have hF := hF.2.2 v10 ev10 gv10
        refine j_goto hJ 42 dX12_lostThing_38 (by decide) ?_
        exact j_iret hJ rfl gv10 dX12_lostThing_42 hF
def W_X12_thingOf (ad : Nat → Nat) (Q : Int → MM → Prop) (av : List Value) (M : MM) : Prop := ∃ (p1 : Int) (p2 : Int), av = [.ref (ad 0), .int (Ii p1), .int (Ii p2)] ∧ ri_ p1 ∧ ri_ p2 ∧ w_X12_thingOf  Q p1 p2 M
set_option maxHeartbeats 4000000 in
set_option maxRecDepth 100000 in
theorem k_X12_thingOf_b38 {l : Launch} {D : va_G} {cy : Nat → ClassId} {ad : Nat → Nat} {Q : Int → MM → Prop} {J : Nat → List (Nat × Value) → List Value → MM → Prop} (hin : jIn ad ksR.length)   (hJ : jOk l D vwCl (tyR cy) cy ad ftR ksR (XtR ad) Om RX12 cX12_thingOf 5 1 ({ frames := 1, cells := 0, slots := 0, locals := 22 } : Room) Q J) {K5 : Int → Int → Int → Int → MM → Prop} (hK5 : ∀ (x1 x2 x3 x4 : Int) (M : MM), ri_ x1 → ri_ x2 → ri_ x3 → ri_ x4 → K5 x1 x2 x3 x4 M → J 5 [(0, .ref (ad 0)), (1, .int (Ii x1)), (2, .int (Ii x2)), (3, .int (Ii x3)), (4, .int (Ii x4))] [] M) : ∀ (x1 x2 x4 s0 : Int) (M : MM), ri_ x1 → ri_ x2 → ri_ x4 → ri_ s0 → w_X12_thingOf_b38  Q K5 x1 x2 x4 s0 M → J 38 [(0, .ref (ad 0)), (1, .int (Ii x1)), (2, .int (Ii x2)), (4, .int (Ii x4))] [.int (Ii s0)] M := by
  intro x1 x2 x4 s0 M gx1 gx2 gx4 gs0 hF
  unfold w_X12_thingOf_b38 at hF
  refine j_istore_n (lv' := [(3, .int (Ii s0)), (0, .ref (ad 0)), (1, .int (Ii x1)), (2, .int (Ii x2)), (4, .int (Ii x4))]) hJ dX12_thingOf_38 rfl (by decide) rfl ?_
  refine j_iinc (lv' := [(4, .int (Ii (x4 + 1))), (3, .int (Ii s0)), (0, .ref (ad 0)), (1, .int (Ii x1)), (2, .int (Ii x2))]) (k := 4) hJ dX12_thingOf_39 rfl (by decide) rfl ?_
  have g1 := hF.1; have hF := hF.2
  refine j_goto hJ 5 dX12_thingOf_42 (by decide) ?_
  exact j_sub hJ [2, 3, 4, 1, 0] rfl (hK5 x1 x2 s0 (x4 + 1) _ gx1 gx2 gs0 g1 hF)
set_option maxHeartbeats 4000000 in
set_option maxRecDepth 100000 in
theorem k_X12_thingOf_b5 {l : Launch} {D : va_G} {cy : Nat → ClassId} {ad : Nat → Nat} {Q : Int → MM → Prop} {J : Nat → List (Nat × Value) → List Value → MM → Prop} (hin : jIn ad ksR.length)   (hJ : jOk l D vwCl (tyR cy) cy ad ftR ksR (XtR ad) Om RX12 cX12_thingOf 5 1 ({ frames := 1, cells := 0, slots := 0, locals := 22 } : Room) Q J)  : ∀ (x1 x2 x3 x4 : Int) (M : MM), ri_ x1 → ri_ x2 → ri_ x3 → ri_ x4 → w_X12_thingOf_b5  Q  x1 x2 x3 x4 M → J 5 [(0, .ref (ad 0)), (1, .int (Ii x1)), (2, .int (Ii x2)), (3, .int (Ii x3)), (4, .int (Ii x4))] [] M := by
  have H9 : ∀ (n : Nat) (x1 x2 x3 x4 : Int) (M : MM), ri_ x1 → ri_ x2 → ri_ x3 → ri_ x4 → jit (fun _ _ _ _ _ => False) (wb_X12_thingOf_b5  Q ) n x1 x2 x3 x4 M → J 5 [(0, .ref (ad 0)), (1, .int (Ii x1)), (2, .int (Ii x2)), (3, .int (Ii x3)), (4, .int (Ii x4))] [] M := by
    intro n
    induction n with
    | zero => intro x1 x2 x3 x4 M gx1 gx2 gx3 gx4 hF; exact False.elim hF
    | succ n ih =>
    intro x1 x2 x3 x4 M gx1 gx2 gx3 gx4 hF
    have hF : wb_X12_thingOf_b5  Q  (jit (fun _ _ _ _ _ => False) (wb_X12_thingOf_b5  Q ) n) x1 x2 x3 x4 M := hF
    unfold wb_X12_thingOf_b5 at hF
    refine j_iload hJ dX12_thingOf_5 4 rfl ?_
    refine j_aload_n hJ dX12_thingOf_7 rfl 0 rfl ?_
    refine j_gr (e := 38) hJ kR_0 fR_15_48 fl_X12_183 dX12_thingOf_8 rfl ?_
    refine j_iload_n hJ dX12_thingOf_11 rfl 1 rfl ?_
    refine j_iald hJ gx1 kR_38 hF.1 hF.2.1 dX12_thingOf_12 (fun v1 ev1 gv1 => ?_)
    have hF := hF.2.2 v1 ev1 gv1
    refine j_icmp_ge hJ 45 gx4 gv1 dX12_thingOf_13 (by decide) (fun z2 => ?_) (fun z2 => ?_)
    · have hF := hF.1 z2
      refine j_iload_n hJ dX12_thingOf_45 rfl 3 rfl ?_
      exact j_iret hJ rfl gx3 dX12_thingOf_46 hF
    · have hF := hF.2 z2
      refine j_aload_n hJ dX12_thingOf_16 rfl 0 rfl ?_
      refine j_gr (e := 39) hJ kR_0 fR_15_49 fl_X12_186 dX12_thingOf_17 rfl ?_
      refine j_aload_n hJ dX12_thingOf_20 rfl 0 rfl ?_
      refine j_iload_n hJ dX12_thingOf_21 rfl 1 rfl ?_
      refine j_iload hJ dX12_thingOf_22 4 rfl ?_
      refine j_callVi hJ (c_X12_at (l := l) (D := D) (cy := cy) (ad := ad) hin) rfl om_1153 ⟨rfl, rfl, Nat.le_of_ble_eq_true rfl, Nat.le_of_ble_eq_true rfl⟩ [.int (Ii x1), .int (Ii x4)] mv_X12_545 hd_X12_atv kR_0 rfl rfl rfl (Nat.le_of_ble_eq_true rfl) dX12_thingOf_24 ⟨x1, x4, rfl, gx1, gx4, hF⟩ (fun r3 M4 gr3 qM4 => ?_)
      have hF := qM4 gr3
      refine j_iald hJ gr3 kR_39 hF.1 hF.2.1 dX12_thingOf_27 (fun v5 ev5 gv5 => ?_)
      have hF := hF.2.2 v5 ev5 gv5
      refine j_iload_n hJ dX12_thingOf_28 rfl 2 rfl ?_
      refine j_icmp_ne hJ 37 gv5 gx2 dX12_thingOf_29 (by decide) (fun z6 => ?_) (fun z6 => ?_)
      · have hF := hF.1 z6
        refine j_iload_n hJ dX12_thingOf_37 rfl 3 rfl ?_
        exact j_sub hJ [0, 1, 2, 4] rfl (k_X12_thingOf_b38 hin  hJ ih x1 x2 x4 x3 _ gx1 gx2 gx4 gx3 hF)
      · have hF := hF.2 z6
        refine j_iload hJ dX12_thingOf_32 4 rfl ?_
        refine j_goto hJ 38 dX12_thingOf_34 (by decide) ?_
        exact j_sub hJ [0, 1, 2, 4] rfl (k_X12_thingOf_b38 hin  hJ ih x1 x2 x4 x4 _ gx1 gx2 gx4 gx4 hF)
  intro x1 x2 x3 x4 M gx1 gx2 gx3 gx4 hF
  obtain ⟨n, hF⟩ := hF
  exact H9 n x1 x2 x3 x4 M gx1 gx2 gx3 gx4 hF
set_option maxHeartbeats 4000000 in
set_option maxRecDepth 100000 in
theorem c_X12_thingOf {l : Launch} {D : va_G} {cy : Nat → ClassId} {ad : Nat → Nat} (hin : jIn ad ksR.length) : jCN l D vwCl (tyR cy) cy ad ftR ksR (XtR ad) yX12_thingOf (.code yX12_thingOf cX12_thingOf 5 (some .int) :: Om) ({ frames := 1, cells := 0, slots := 0, locals := 22 } : Room) 1 (W_X12_thingOf ad) := by
  refine jCN_of (y := yX12_thingOf) (cc := cX12_thingOf) (nL := 5) (rk := 1) (rm := ({ frames := 1, cells := 0, slots := 0, locals := 22 } : Room)) (own := RX12) (tyR_ok cy) hin (XtR_ok ad) Om_good (by decide) rfl ?_
  intro Q av M hF
  obtain ⟨p1, p2, rfl, gp1, gp2, hF⟩ := hF
  refine ⟨Nat.le_of_ble_eq_true rfl, fun J hJ => ?_⟩
  show J 0 [(0, .ref (ad 0)), (1, .int (Ii p1)), (2, .int (Ii p2))] [] M
  unfold w_X12_thingOf at hF
  refine j_iconst hJ dX12_thingOf_0 ?_
  refine j_istore_n (lv' := [(3, .int (Ii (-1))), (0, .ref (ad 0)), (1, .int (Ii p1)), (2, .int (Ii p2))]) hJ dX12_thingOf_1 rfl (by decide) rfl ?_
  refine j_iconst hJ dX12_thingOf_2 ?_
  refine j_istore (lv' := [(4, .int (Ii 0)), (3, .int (Ii (-1))), (0, .ref (ad 0)), (1, .int (Ii p1)), (2, .int (Ii p2))]) hJ dX12_thingOf_3 (by decide) rfl ?_
  exact j_sub hJ [2, 3, 4, 1, 0] rfl (k_X12_thingOf_b5 hin  hJ  p1 p2 (-1) 0 _ gp1 gp2 rk_m1 rk_0 hF)
def W_X12_shown (ad : Nat → Nat) (Q : Int → MM → Prop) (av : List Value) (M : MM) : Prop := ∃ (p1 : Int) (p2 : Int) (p3 : Int), av = [.ref (ad 0), .int (Ii p1), .int (Ii p2), .int (Ii p3)] ∧ ri_ p1 ∧ ri_ p2 ∧ ri_ p3 ∧ w_X12_shown  Q p1 p2 p3 M
set_option maxHeartbeats 4000000 in
set_option maxRecDepth 100000 in
theorem c_X12_shown {l : Launch} {D : va_G} {cy : Nat → ClassId} {ad : Nat → Nat} (hin : jIn ad ksR.length) : jCN l D vwCl (tyR cy) cy ad ftR ksR (XtR ad) yX12_shown (.code yX12_shown cX12_shown 6 (some .long) :: Om) ({ frames := 3, cells := 0, slots := 0, locals := 70 } : Room) 2 (W_X12_shown ad) := by
  refine jCN_of (y := yX12_shown) (cc := cX12_shown) (nL := 6) (rk := 2) (rm := ({ frames := 3, cells := 0, slots := 0, locals := 70 } : Room)) (own := RX12) (tyR_ok cy) hin (XtR_ok ad) Om_good (by decide) rfl ?_
  intro Q av M hF
  obtain ⟨p1, p2, p3, rfl, gp1, gp2, gp3, hF⟩ := hF
  refine ⟨Nat.le_of_ble_eq_true rfl, fun J hJ => ?_⟩
  show J 0 [(0, .ref (ad 0)), (1, .int (Ii p1)), (2, .int (Ii p2)), (3, .int (Ii p3))] [] M
  unfold w_X12_shown at hF
  refine j_aload_n hJ dX12_shown_0 rfl 0 rfl ?_
  refine j_iload_n hJ dX12_shown_1 rfl 1 rfl ?_
  refine j_iload_n hJ dX12_shown_2 rfl 2 rfl ?_
  refine j_iload_n hJ dX12_shown_3 rfl 3 rfl ?_
  refine j_callVl hJ (c_X12_valueIn (l := l) (D := D) (cy := cy) (ad := ad) hin) rfl om_1173 ⟨rfl, rfl, Nat.le_of_ble_eq_true rfl, Nat.le_of_ble_eq_true rfl⟩ [.int (Ii p1), .int (Ii p2), .int (Ii p3)] mv_X12_577 hd_X12_valueInv kR_0 rfl rfl rfl (Nat.le_of_ble_eq_true rfl) dX12_shown_4 ⟨p1, p2, p3, rfl, gp1, gp2, gp3, hF⟩ (fun r1 M2 gr1 qM2 => ?_)
  have hF := qM2 gr1
  refine j_lstore (lv' := [(4, .long (Ll r1)), (0, .ref (ad 0)), (1, .int (Ii p1)), (2, .int (Ii p2)), (3, .int (Ii p3))]) hJ dX12_shown_7 (by decide) rfl ?_
  refine j_aload_n hJ dX12_shown_9 rfl 1 rfl ?_
  refine j_iload_n hJ dX12_shown_10 rfl 2 rfl ?_
  refine j_iload_n hJ dX12_shown_11 rfl 3 rfl ?_
  refine j_iload_n hJ dX12_shown_12 rfl 4 rfl ?_
  refine j_callVz hJ (c_X12_linksIn (l := l) (D := D) (cy := cy) (ad := ad) hin) rfl om_1169 ⟨rfl, rfl, Nat.le_of_ble_eq_true rfl, Nat.le_of_ble_eq_true rfl⟩ [.int (Ii p1), .int (Ii p2), .int (Ii p3)] mv_X12_573 hd_X12_linksInv kR_0 rfl rfl rfl (Nat.le_of_ble_eq_true rfl) dX12_shown_13 ⟨p1, p2, p3, rfl, gp1, gp2, gp3, hF⟩ (fun r3 M4 gr3 qM4 => ?_)
  have hF := qM4 gr3
  refine j_if_eq hJ 45 (jz_ri gr3) dX12_shown_16 (by decide) (fun z5 => ?_) (fun z5 => ?_)
  · have hF := hF.1 z5
    refine j_lload hJ dX12_shown_45 0 rfl ?_
    exact j_lret hJ rfl gr1 dX12_shown_47 hF
  · have hF := hF.2 z5
    refine j_lload hJ dX12_shown_19 0 rfl ?_
    refine j_ldc2 hJ (-1) om_1068 (by decide) dX12_shown_21 ?_
    refine j_lcmp_eq hJ 45 gr1 lk_m1 dX12_shown_24 dX12_shown_25 (by decide) (fun z6 => ?_) (fun z6 => ?_)
    · have hF := hF.1 z6
      refine j_lload hJ dX12_shown_45 0 rfl ?_
      exact j_lret hJ rfl gr1 dX12_shown_47 hF
    · have hF := hF.2 z6
      refine j_aload_n hJ dX12_shown_28 rfl 1 rfl ?_
      refine j_gr (e := 39) hJ kR_0 fR_15_49 fl_X12_186 dX12_shown_29 rfl ?_
      refine j_aload_n hJ dX12_shown_32 rfl 1 rfl ?_
      refine j_iload_n hJ dX12_shown_33 rfl 2 rfl ?_
      refine j_lload hJ dX12_shown_34 0 rfl ?_
      refine j_l2i hJ dX12_shown_36 ?_
      have g7 := hF.1; have hF := hF.2
      refine j_callVi hJ (c_X12_at (l := l) (D := D) (cy := cy) (ad := ad) hin) rfl om_1153 ⟨rfl, rfl, Nat.le_of_ble_eq_true rfl, Nat.le_of_ble_eq_true rfl⟩ [.int (Ii p1), .int (Ii r1)] mv_X12_545 hd_X12_atv kR_0 rfl rfl rfl (Nat.le_of_ble_eq_true rfl) dX12_shown_37 ⟨p1, r1, rfl, gp1, g7, hF⟩ (fun r8 M9 gr8 qM9 => ?_)
      have hF := qM9 gr8
      refine j_iald hJ gr8 kR_39 hF.1 hF.2.1 dX12_shown_40 (fun v10 ev10 gv10 => ?_)
      have hF := hF.2.2 v10 ev10 gv10
      refine j_i2l hJ gv10 dX12_shown_41 ?_
      refine j_goto hJ 47 dX12_shown_42 (by decide) ?_
      exact j_lret hJ rfl (rl_ri gv10) dX12_shown_47 hF
def W_X12_isChanged (ad : Nat → Nat) (Q : Int → MM → Prop) (av : List Value) (M : MM) : Prop := ∃ (p1 : Int) (p2 : Int) (p3 : Int) (p4 : Int), av = [.ref (ad 0), .int (Ii p1), .int (Ii p2), .int (Ii p3), .int (Ii p4)] ∧ ri_ p1 ∧ ri_ p2 ∧ ri_ p3 ∧ ri_ p4 ∧ w_X12_isChanged  Q p1 p2 p3 p4 M
set_option maxHeartbeats 4000000 in
set_option maxRecDepth 100000 in
theorem k_X12_isChanged_b104 {l : Launch} {D : va_G} {cy : Nat → ClassId} {ad : Nat → Nat} {Q : Int → MM → Prop} {J : Nat → List (Nat × Value) → List Value → MM → Prop} (hin : jIn ad ksR.length)   (hJ : jOk l D vwCl (tyR cy) cy ad ftR ksR (XtR ad) Om RX12 cX12_isChanged 7 3 ({ frames := 4, cells := 0, slots := 0, locals := 95 } : Room) Q J) {K62 : Int → Int → Int → Int → Int → Int → MM → Prop} (hK62 : ∀ (x1 x2 x3 x4 x5 x6 : Int) (M : MM), ri_ x1 → ri_ x2 → ri_ x3 → ri_ x4 → ri_ x5 → ri_ x6 → K62 x1 x2 x3 x4 x5 x6 M → J 62 [(0, .ref (ad 0)), (1, .int (Ii x1)), (2, .int (Ii x2)), (3, .int (Ii x3)), (4, .int (Ii x4)), (5, .int (Ii x5)), (6, .int (Ii x6))] [] M) : ∀ (x1 x2 x3 x4 x6 s0 : Int) (M : MM), ri_ x1 → ri_ x2 → ri_ x3 → ri_ x4 → ri_ x6 → ri_ s0 → w_X12_isChanged_b104  Q K62 x1 x2 x3 x4 x6 s0 M → J 104 [(0, .ref (ad 0)), (1, .int (Ii x1)), (2, .int (Ii x2)), (3, .int (Ii x3)), (4, .int (Ii x4)), (6, .int (Ii x6))] [.int (Ii s0)] M := by
  intro x1 x2 x3 x4 x6 s0 M gx1 gx2 gx3 gx4 gx6 gs0 hF
  unfold w_X12_isChanged_b104 at hF
  refine j_istore (lv' := [(5, .int (Ii s0)), (0, .ref (ad 0)), (1, .int (Ii x1)), (2, .int (Ii x2)), (3, .int (Ii x3)), (4, .int (Ii x4)), (6, .int (Ii x6))]) hJ dX12_isChanged_104 (by decide) rfl ?_
  refine j_iinc (lv' := [(6, .int (Ii (x6 + 1))), (5, .int (Ii s0)), (0, .ref (ad 0)), (1, .int (Ii x1)), (2, .int (Ii x2)), (3, .int (Ii x3)), (4, .int (Ii x4))]) (k := 6) hJ dX12_isChanged_106 rfl (by decide) rfl ?_
  have g1 := hF.1; have hF := hF.2
  refine j_goto hJ 62 dX12_isChanged_109 (by decide) ?_
  exact j_sub hJ [2, 3, 4, 5, 6, 1, 0] rfl (hK62 x1 x2 x3 x4 s0 (x6 + 1) _ gx1 gx2 gx3 gx4 gs0 g1 hF)
set_option maxHeartbeats 4000000 in
set_option maxRecDepth 100000 in
theorem k_X12_isChanged_b62 {l : Launch} {D : va_G} {cy : Nat → ClassId} {ad : Nat → Nat} {Q : Int → MM → Prop} {J : Nat → List (Nat × Value) → List Value → MM → Prop} (hin : jIn ad ksR.length)   (hJ : jOk l D vwCl (tyR cy) cy ad ftR ksR (XtR ad) Om RX12 cX12_isChanged 7 3 ({ frames := 4, cells := 0, slots := 0, locals := 95 } : Room) Q J)  : ∀ (x1 x2 x3 x4 x5 x6 : Int) (M : MM), ri_ x1 → ri_ x2 → ri_ x3 → ri_ x4 → ri_ x5 → ri_ x6 → w_X12_isChanged_b62  Q  x1 x2 x3 x4 x5 x6 M → J 62 [(0, .ref (ad 0)), (1, .int (Ii x1)), (2, .int (Ii x2)), (3, .int (Ii x3)), (4, .int (Ii x4)), (5, .int (Ii x5)), (6, .int (Ii x6))] [] M := by
  have H9 : ∀ (n : Nat) (x1 x2 x3 x4 x5 x6 : Int) (M : MM), ri_ x1 → ri_ x2 → ri_ x3 → ri_ x4 → ri_ x5 → ri_ x6 → jit (fun _ _ _ _ _ _ _ => False) (wb_X12_isChanged_b62  Q ) n x1 x2 x3 x4 x5 x6 M → J 62 [(0, .ref (ad 0)), (1, .int (Ii x1)), (2, .int (Ii x2)), (3, .int (Ii x3)), (4, .int (Ii x4)), (5, .int (Ii x5)), (6, .int (Ii x6))] [] M := by
    intro n
    induction n with
    | zero => intro x1 x2 x3 x4 x5 x6 M gx1 gx2 gx3 gx4 gx5 gx6 hF; exact False.elim hF
    | succ n ih =>
    intro x1 x2 x3 x4 x5 x6 M gx1 gx2 gx3 gx4 gx5 gx6 hF
    have hF : wb_X12_isChanged_b62  Q  (jit (fun _ _ _ _ _ _ _ => False) (wb_X12_isChanged_b62  Q ) n) x1 x2 x3 x4 x5 x6 M := hF
    unfold wb_X12_isChanged_b62 at hF
    refine j_iload hJ dX12_isChanged_62 5 rfl ?_
    refine j_if_ne hJ 112 gx5 dX12_isChanged_64 (by decide) (fun z1 => ?_) (fun z1 => ?_)
    · have hF := hF.1 z1
      refine j_iload hJ dX12_isChanged_112 5 rfl ?_
      exact j_zret hJ rfl hF.1 dX12_isChanged_114 hF.2
    · have hF := hF.2 z1
      refine j_iload hJ dX12_isChanged_67 6 rfl ?_
      refine j_aload_n hJ dX12_isChanged_69 rfl 0 rfl ?_
      refine j_iload_n hJ dX12_isChanged_70 rfl 1 rfl ?_
      refine j_iload_n hJ dX12_isChanged_71 rfl 2 rfl ?_
      refine j_callVi hJ (c_X12_slotsIn (l := l) (D := D) (cy := cy) (ad := ad) hin) rfl om_1165 ⟨rfl, rfl, Nat.le_of_ble_eq_true rfl, Nat.le_of_ble_eq_true rfl⟩ [.int (Ii x1), .int (Ii x2)] mv_X12_570 hd_X12_slotsInv kR_0 rfl rfl rfl (Nat.le_of_ble_eq_true rfl) dX12_isChanged_72 ⟨x1, x2, rfl, gx1, gx2, hF⟩ (fun r2 M3 gr2 qM3 => ?_)
      have hF := qM3 gr2
      refine j_icmp_ge hJ 112 gx6 gr2 dX12_isChanged_75 (by decide) (fun z4 => ?_) (fun z4 => ?_)
      · have hF := hF.1 z4
        refine j_iload hJ dX12_isChanged_112 5 rfl ?_
        exact j_zret hJ rfl hF.1 dX12_isChanged_114 hF.2
      · have hF := hF.2 z4
        refine j_aload_n hJ dX12_isChanged_78 rfl 0 rfl ?_
        refine j_iload_n hJ dX12_isChanged_79 rfl 1 rfl ?_
        refine j_iload_n hJ dX12_isChanged_80 rfl 2 rfl ?_
        refine j_iload hJ dX12_isChanged_81 6 rfl ?_
        refine j_callVl hJ (c_X12_shown (l := l) (D := D) (cy := cy) (ad := ad) hin) rfl om_1328 ⟨rfl, rfl, Nat.le_of_ble_eq_true rfl, Nat.le_of_ble_eq_true rfl⟩ [.int (Ii x1), .int (Ii x2), .int (Ii x6)] mv_X12_609 hd_X12_shownv kR_0 rfl rfl rfl (Nat.le_of_ble_eq_true rfl) dX12_isChanged_83 ⟨x1, x2, x6, rfl, gx1, gx2, gx6, hF⟩ (fun r5 M6 gr5 qM6 => ?_)
        have hF := qM6 gr5
        refine j_aload_n hJ dX12_isChanged_86 rfl 0 rfl ?_
        refine j_iload_n hJ dX12_isChanged_87 rfl 3 rfl ?_
        refine j_iload hJ dX12_isChanged_88 4 rfl ?_
        refine j_iload hJ dX12_isChanged_90 6 rfl ?_
        refine j_callVl hJ (c_X12_shown (l := l) (D := D) (cy := cy) (ad := ad) hin) rfl om_1328 ⟨rfl, rfl, Nat.le_of_ble_eq_true rfl, Nat.le_of_ble_eq_true rfl⟩ [.int (Ii x3), .int (Ii x4), .int (Ii x6)] mv_X12_609 hd_X12_shownv kR_0 rfl rfl rfl (Nat.le_of_ble_eq_true rfl) dX12_isChanged_92 ⟨x3, x4, x6, rfl, gx3, gx4, gx6, hF⟩ (fun r7 M8 gr7 qM8 => ?_)
        have hF := qM8 gr7
        refine j_lcmp_eq hJ 103 gr5 gr7 dX12_isChanged_95 dX12_isChanged_96 (by decide) (fun z9 => ?_) (fun z9 => ?_)
        · have hF := hF.1 z9
          refine j_iconst hJ dX12_isChanged_103 ?_
          exact j_sub hJ [0, 1, 2, 3, 4, 6] rfl (k_X12_isChanged_b104 hin  hJ ih x1 x2 x3 x4 x6 0 _ gx1 gx2 gx3 gx4 gx6 rk_0 hF)
        · have hF := hF.2 z9
          refine j_iconst hJ dX12_isChanged_99 ?_
          refine j_goto hJ 104 dX12_isChanged_100 (by decide) ?_
          exact j_sub hJ [0, 1, 2, 3, 4, 6] rfl (k_X12_isChanged_b104 hin  hJ ih x1 x2 x3 x4 x6 1 _ gx1 gx2 gx3 gx4 gx6 rk_1 hF)
  intro x1 x2 x3 x4 x5 x6 M gx1 gx2 gx3 gx4 gx5 gx6 hF
  obtain ⟨n, hF⟩ := hF
  exact H9 n x1 x2 x3 x4 x5 x6 M gx1 gx2 gx3 gx4 gx5 gx6 hF
set_option maxHeartbeats 4000000 in
set_option maxRecDepth 100000 in
theorem k_X12_isChanged_b57 {l : Launch} {D : va_G} {cy : Nat → ClassId} {ad : Nat → Nat} {Q : Int → MM → Prop} {J : Nat → List (Nat × Value) → List Value → MM → Prop} (hin : jIn ad ksR.length)   (hJ : jOk l D vwCl (tyR cy) cy ad ftR ksR (XtR ad) Om RX12 cX12_isChanged 7 3 ({ frames := 4, cells := 0, slots := 0, locals := 95 } : Room) Q J)  : ∀ (x1 x2 x3 x4 s0 : Int) (M : MM), ri_ x1 → ri_ x2 → ri_ x3 → ri_ x4 → ri_ s0 → w_X12_isChanged_b57  Q  x1 x2 x3 x4 s0 M → J 57 [(0, .ref (ad 0)), (1, .int (Ii x1)), (2, .int (Ii x2)), (3, .int (Ii x3)), (4, .int (Ii x4))] [.int (Ii s0)] M := by
  intro x1 x2 x3 x4 s0 M gx1 gx2 gx3 gx4 gs0 hF
  unfold w_X12_isChanged_b57 at hF
  refine j_istore (lv' := [(5, .int (Ii s0)), (0, .ref (ad 0)), (1, .int (Ii x1)), (2, .int (Ii x2)), (3, .int (Ii x3)), (4, .int (Ii x4))]) hJ dX12_isChanged_57 (by decide) rfl ?_
  refine j_iconst hJ dX12_isChanged_59 ?_
  refine j_istore (lv' := [(6, .int (Ii 0)), (5, .int (Ii s0)), (0, .ref (ad 0)), (1, .int (Ii x1)), (2, .int (Ii x2)), (3, .int (Ii x3)), (4, .int (Ii x4))]) hJ dX12_isChanged_60 (by decide) rfl ?_
  exact j_sub hJ [2, 3, 4, 5, 6, 1, 0] rfl (k_X12_isChanged_b62 hin  hJ  x1 x2 x3 x4 s0 0 _ gx1 gx2 gx3 gx4 gs0 rk_0 hF)
set_option maxHeartbeats 4000000 in
set_option maxRecDepth 100000 in
theorem k_X12_isChanged_b52 {l : Launch} {D : va_G} {cy : Nat → ClassId} {ad : Nat → Nat} {Q : Int → MM → Prop} {J : Nat → List (Nat × Value) → List Value → MM → Prop} (hin : jIn ad ksR.length)   (hJ : jOk l D vwCl (tyR cy) cy ad ftR ksR (XtR ad) Om RX12 cX12_isChanged 7 3 ({ frames := 4, cells := 0, slots := 0, locals := 95 } : Room) Q J)  : ∀ (x1 x2 x3 x4 : Int) (M : MM), ri_ x1 → ri_ x2 → ri_ x3 → ri_ x4 → w_X12_isChanged_b52  Q  x1 x2 x3 x4 M → J 52 [(0, .ref (ad 0)), (1, .int (Ii x1)), (2, .int (Ii x2)), (3, .int (Ii x3)), (4, .int (Ii x4))] [] M := by
  intro x1 x2 x3 x4 M gx1 gx2 gx3 gx4 hF
  unfold w_X12_isChanged_b52 at hF
  refine j_iconst hJ dX12_isChanged_52 ?_
  refine j_goto hJ 57 dX12_isChanged_53 (by decide) ?_
  exact j_sub hJ [0, 1, 2, 3, 4] rfl (k_X12_isChanged_b57 hin  hJ  x1 x2 x3 x4 1 _ gx1 gx2 gx3 gx4 rk_1 hF)
set_option maxHeartbeats 4000000 in
set_option maxRecDepth 100000 in
theorem c_X12_isChanged {l : Launch} {D : va_G} {cy : Nat → ClassId} {ad : Nat → Nat} (hin : jIn ad ksR.length) : jCN l D vwCl (tyR cy) cy ad ftR ksR (XtR ad) yX12_isChanged (.code yX12_isChanged cX12_isChanged 7 (some .boolean) :: Om) ({ frames := 4, cells := 0, slots := 0, locals := 95 } : Room) 3 (W_X12_isChanged ad) := by
  refine jCN_of (y := yX12_isChanged) (cc := cX12_isChanged) (nL := 7) (rk := 3) (rm := ({ frames := 4, cells := 0, slots := 0, locals := 95 } : Room)) (own := RX12) (tyR_ok cy) hin (XtR_ok ad) Om_good (by decide) rfl ?_
  intro Q av M hF
  obtain ⟨p1, p2, p3, p4, rfl, gp1, gp2, gp3, gp4, hF⟩ := hF
  refine ⟨Nat.le_of_ble_eq_true rfl, fun J hJ => ?_⟩
  show J 0 [(0, .ref (ad 0)), (1, .int (Ii p1)), (2, .int (Ii p2)), (3, .int (Ii p3)), (4, .int (Ii p4))] [] M
  unfold w_X12_isChanged at hF
  refine j_aload_n hJ dX12_isChanged_0 rfl 0 rfl ?_
  refine j_gr (e := 40) hJ kR_0 fR_15_50 fl_X12_189 dX12_isChanged_1 rfl ?_
  refine j_aload_n hJ dX12_isChanged_4 rfl 0 rfl ?_
  refine j_iload_n hJ dX12_isChanged_5 rfl 1 rfl ?_
  refine j_iload_n hJ dX12_isChanged_6 rfl 2 rfl ?_
  refine j_callVi hJ (c_X12_at (l := l) (D := D) (cy := cy) (ad := ad) hin) rfl om_1153 ⟨rfl, rfl, Nat.le_of_ble_eq_true rfl, Nat.le_of_ble_eq_true rfl⟩ [.int (Ii p1), .int (Ii p2)] mv_X12_545 hd_X12_atv kR_0 rfl rfl rfl (Nat.le_of_ble_eq_true rfl) dX12_isChanged_7 ⟨p1, p2, rfl, gp1, gp2, hF⟩ (fun r1 M2 gr1 qM2 => ?_)
  have hF := qM2 gr1
  refine j_iald hJ gr1 kR_40 hF.1 hF.2.1 dX12_isChanged_10 (fun v3 ev3 gv3 => ?_)
  have hF := hF.2.2 v3 ev3 gv3
  refine j_aload_n hJ dX12_isChanged_11 rfl 0 rfl ?_
  refine j_gr (e := 40) hJ kR_0 fR_15_50 fl_X12_189 dX12_isChanged_12 rfl ?_
  refine j_aload_n hJ dX12_isChanged_15 rfl 0 rfl ?_
  refine j_iload_n hJ dX12_isChanged_16 rfl 3 rfl ?_
  refine j_iload hJ dX12_isChanged_17 4 rfl ?_
  refine j_callVi hJ (c_X12_at (l := l) (D := D) (cy := cy) (ad := ad) hin) rfl om_1153 ⟨rfl, rfl, Nat.le_of_ble_eq_true rfl, Nat.le_of_ble_eq_true rfl⟩ [.int (Ii p3), .int (Ii p4)] mv_X12_545 hd_X12_atv kR_0 rfl rfl rfl (Nat.le_of_ble_eq_true rfl) dX12_isChanged_19 ⟨p3, p4, rfl, gp3, gp4, hF⟩ (fun r4 M5 gr4 qM5 => ?_)
  have hF := qM5 gr4
  refine j_iald hJ gr4 kR_40 hF.1 hF.2.1 dX12_isChanged_22 (fun v6 ev6 gv6 => ?_)
  have hF := hF.2.2 v6 ev6 gv6
  refine j_icmp_ne hJ 52 gv3 gv6 dX12_isChanged_23 (by decide) (fun z7 => ?_) (fun z7 => ?_)
  · have hF := hF.1 z7
    exact j_sub hJ [0, 1, 2, 3, 4] rfl (k_X12_isChanged_b52 hin  hJ  p1 p2 p3 p4 _ gp1 gp2 gp3 gp4 hF)
  · have hF := hF.2 z7
    refine j_aload_n hJ dX12_isChanged_26 rfl 0 rfl ?_
    refine j_gr (e := 41) hJ kR_0 fR_15_51 fl_X12_192 dX12_isChanged_27 rfl ?_
    refine j_aload_n hJ dX12_isChanged_30 rfl 0 rfl ?_
    refine j_iload_n hJ dX12_isChanged_31 rfl 1 rfl ?_
    refine j_iload_n hJ dX12_isChanged_32 rfl 2 rfl ?_
    refine j_callVi hJ (c_X12_at (l := l) (D := D) (cy := cy) (ad := ad) hin) rfl om_1153 ⟨rfl, rfl, Nat.le_of_ble_eq_true rfl, Nat.le_of_ble_eq_true rfl⟩ [.int (Ii p1), .int (Ii p2)] mv_X12_545 hd_X12_atv kR_0 rfl rfl rfl (Nat.le_of_ble_eq_true rfl) dX12_isChanged_33 ⟨p1, p2, rfl, gp1, gp2, hF⟩ (fun r8 M9 gr8 qM9 => ?_)
    have hF := qM9 gr8
    refine j_iald hJ gr8 kR_41 hF.1 hF.2.1 dX12_isChanged_36 (fun v10 ev10 gv10 => ?_)
    have hF := hF.2.2 v10 ev10 gv10
    refine j_aload_n hJ dX12_isChanged_37 rfl 0 rfl ?_
    refine j_gr (e := 41) hJ kR_0 fR_15_51 fl_X12_192 dX12_isChanged_38 rfl ?_
    refine j_aload_n hJ dX12_isChanged_41 rfl 0 rfl ?_
    refine j_iload_n hJ dX12_isChanged_42 rfl 3 rfl ?_
    refine j_iload hJ dX12_isChanged_43 4 rfl ?_
    refine j_callVi hJ (c_X12_at (l := l) (D := D) (cy := cy) (ad := ad) hin) rfl om_1153 ⟨rfl, rfl, Nat.le_of_ble_eq_true rfl, Nat.le_of_ble_eq_true rfl⟩ [.int (Ii p3), .int (Ii p4)] mv_X12_545 hd_X12_atv kR_0 rfl rfl rfl (Nat.le_of_ble_eq_true rfl) dX12_isChanged_45 ⟨p3, p4, rfl, gp3, gp4, hF⟩ (fun r11 M12 gr11 qM12 => ?_)
    have hF := qM12 gr11
    refine j_iald hJ gr11 kR_41 hF.1 hF.2.1 dX12_isChanged_48 (fun v13 ev13 gv13 => ?_)
    have hF := hF.2.2 v13 ev13 gv13
    refine j_icmp_eq hJ 56 gv10 gv13 dX12_isChanged_49 (by decide) (fun z14 => ?_) (fun z14 => ?_)
    · have hF := hF.1 z14
      refine j_iconst hJ dX12_isChanged_56 ?_
      exact j_sub hJ [0, 1, 2, 3, 4] rfl (k_X12_isChanged_b57 hin  hJ  p1 p2 p3 p4 0 _ gp1 gp2 gp3 gp4 rk_0 hF)
    · have hF := hF.2 z14
      exact j_sub hJ [0, 1, 2, 3, 4] rfl (k_X12_isChanged_b52 hin  hJ  p1 p2 p3 p4 _ gp1 gp2 gp3 gp4 hF)
def W_X12_growth (ad : Nat → Nat) (Q : Int → MM → Prop) (av : List Value) (M : MM) : Prop := ∃ (p1 : Int) (p2 : Int) (p3 : Int), av = [.ref (ad 0), .int (Ii p1), .int (Ii p2), .int (Ii p3)] ∧ ri_ p1 ∧ ri_ p2 ∧ ri_ p3 ∧ w_X12_growth  Q p1 p2 p3 M
set_option maxHeartbeats 4000000 in
set_option maxRecDepth 100000 in
theorem k_X12_growth_b167 {l : Launch} {D : va_G} {cy : Nat → ClassId} {ad : Nat → Nat} {Q : Int → MM → Prop} {J : Nat → List (Nat × Value) → List Value → MM → Prop} (hin : jIn ad ksR.length)   (hJ : jOk l D vwCl (tyR cy) cy ad ftR ksR (XtR ad) Om RX12 cX12_growth 8 1 ({ frames := 5, cells := 0, slots := 0, locals := 121 } : Room) Q J) {K75 : Int → Int → Int → Int → MM → Prop} (hK75 : ∀ (x3 x4 x5 x6 : Int) (M : MM), ri_ x3 → ri_ x4 → ri_ x5 → ri_ x6 → K75 x3 x4 x5 x6 M → J 75 [(0, .ref (ad 0)), (3, .int (Ii x3)), (4, .int (Ii x4)), (5, .int (Ii x5)), (6, .int (Ii x6))] [] M) : ∀ (x3 x4 x5 x6 : Int) (M : MM), ri_ x3 → ri_ x4 → ri_ x5 → ri_ x6 → w_X12_growth_b167  Q K75 x3 x4 x5 x6 M → J 167 [(0, .ref (ad 0)), (3, .int (Ii x3)), (4, .int (Ii x4)), (5, .int (Ii x5)), (6, .int (Ii x6))] [] M := by
  intro x3 x4 x5 x6 M gx3 gx4 gx5 gx6 hF
  unfold w_X12_growth_b167 at hF
  refine j_iinc (lv' := [(6, .int (Ii (x6 + 1))), (0, .ref (ad 0)), (3, .int (Ii x3)), (4, .int (Ii x4)), (5, .int (Ii x5))]) (k := 4) hJ dX12_growth_167 rfl (by decide) rfl ?_
  have g1 := hF.1; have hF := hF.2
  refine j_goto hJ 75 dX12_growth_170 (by decide) ?_
  exact j_sub hJ [1, 2, 3, 4, 0] rfl (hK75 x3 x4 x5 (x6 + 1) _ gx3 gx4 gx5 g1 hF)
set_option maxHeartbeats 4000000 in
set_option maxRecDepth 100000 in
theorem k_X12_growth_b146 {l : Launch} {D : va_G} {cy : Nat → ClassId} {ad : Nat → Nat} {Q : Int → MM → Prop} {J : Nat → List (Nat × Value) → List Value → MM → Prop} (hin : jIn ad ksR.length)   (hJ : jOk l D vwCl (tyR cy) cy ad ftR ksR (XtR ad) Om RX12 cX12_growth 8 1 ({ frames := 5, cells := 0, slots := 0, locals := 121 } : Room) Q J) {K75 : Int → Int → Int → Int → MM → Prop} (hK75 : ∀ (x3 x4 x5 x6 : Int) (M : MM), ri_ x3 → ri_ x4 → ri_ x5 → ri_ x6 → K75 x3 x4 x5 x6 M → J 75 [(0, .ref (ad 0)), (3, .int (Ii x3)), (4, .int (Ii x4)), (5, .int (Ii x5)), (6, .int (Ii x6))] [] M) : ∀ (x3 x4 x5 x6 : Int) (M : MM), ri_ x3 → ri_ x4 → ri_ x5 → ri_ x6 → w_X12_growth_b146  Q K75 x3 x4 x5 x6 M → J 146 [(0, .ref (ad 0)), (3, .int (Ii x3)), (4, .int (Ii x4)), (5, .int (Ii x5)), (6, .int (Ii x6))] [] M := by
  intro x3 x4 x5 x6 M gx3 gx4 gx5 gx6 hF
  unfold w_X12_growth_b146 at hF
  refine j_aload_n hJ dX12_growth_146 rfl 0 rfl ?_
  refine j_gr (e := 63) hJ kR_0 fR_15_74 fl_X12_259 dX12_growth_147 rfl ?_
  refine j_aload_n hJ dX12_growth_150 rfl 0 rfl ?_
  refine j_gi hJ kR_0 fR_15_75 rfl fl_X12_612 dX12_growth_151 (fun v1 ev1 gv1 => ?_)
  have hF := hF v1 ev1 gv1
  refine j_iload hJ dX12_growth_154 4 rfl ?_
  refine j_iast hJ gv1 gx6 kR_63 hF.1 hF.2.1 dX12_growth_156 (fun M2 eM2 => ?_)
  have hF := hF.2.2 M2 eM2
  refine j_aload_n hJ dX12_growth_157 rfl 0 rfl ?_
  refine j_dup hJ dX12_growth_158 rfl ?_
  refine j_gi hJ kR_0 fR_15_75 rfl fl_X12_612 dX12_growth_159 (fun v3 ev3 gv3 => ?_)
  have hF := hF v3 ev3 gv3
  refine j_iconst hJ dX12_growth_162 ?_
  refine j_iadd hJ dX12_growth_163 ?_
  have g4 := hF.1; have hF := hF.2
  refine j_pi hJ g4 kR_0 fR_15_75 rfl fp_X12_612 dX12_growth_164 (fun M5 eM5 => ?_)
  have hF := hF M5 eM5
  exact j_sub hJ [0, 1, 2, 3, 4] rfl (k_X12_growth_b167 hin  hJ hK75 x3 x4 x5 x6 _ gx3 gx4 gx5 gx6 hF)
set_option maxHeartbeats 4000000 in
set_option maxRecDepth 100000 in
theorem k_X12_growth_b75 {l : Launch} {D : va_G} {cy : Nat → ClassId} {ad : Nat → Nat} {Q : Int → MM → Prop} {J : Nat → List (Nat × Value) → List Value → MM → Prop} (hin : jIn ad ksR.length)   (hJ : jOk l D vwCl (tyR cy) cy ad ftR ksR (XtR ad) Om RX12 cX12_growth 8 1 ({ frames := 5, cells := 0, slots := 0, locals := 121 } : Room) Q J)  : ∀ (x3 x4 x5 x6 : Int) (M : MM), ri_ x3 → ri_ x4 → ri_ x5 → ri_ x6 → w_X12_growth_b75  Q  x3 x4 x5 x6 M → J 75 [(0, .ref (ad 0)), (3, .int (Ii x3)), (4, .int (Ii x4)), (5, .int (Ii x5)), (6, .int (Ii x6))] [] M := by
  have H9 : ∀ (n : Nat) (x3 x4 x5 x6 : Int) (M : MM), ri_ x3 → ri_ x4 → ri_ x5 → ri_ x6 → jit (fun _ _ _ _ _ => False) (wb_X12_growth_b75  Q ) n x3 x4 x5 x6 M → J 75 [(0, .ref (ad 0)), (3, .int (Ii x3)), (4, .int (Ii x4)), (5, .int (Ii x5)), (6, .int (Ii x6))] [] M := by
    intro n
    induction n with
    | zero => intro x3 x4 x5 x6 M gx3 gx4 gx5 gx6 hF; exact False.elim hF
    | succ n ih =>
    intro x3 x4 x5 x6 M gx3 gx4 gx5 gx6 hF
    have hF : wb_X12_growth_b75  Q  (jit (fun _ _ _ _ _ => False) (wb_X12_growth_b75  Q ) n) x3 x4 x5 x6 M := hF
    unfold wb_X12_growth_b75 at hF
    refine j_iload hJ dX12_growth_75 4 rfl ?_
    refine j_aload_n hJ dX12_growth_77 rfl 0 rfl ?_
    refine j_gr (e := 38) hJ kR_0 fR_15_48 fl_X12_183 dX12_growth_78 rfl ?_
    refine j_iload hJ dX12_growth_81 2 rfl ?_
    refine j_iald hJ gx4 kR_38 hF.1 hF.2.1 dX12_growth_83 (fun v1 ev1 gv1 => ?_)
    have hF := hF.2.2 v1 ev1 gv1
    refine j_icmp_ge hJ 173 gx6 gv1 dX12_growth_84 (by decide) (fun z2 => ?_) (fun z2 => ?_)
    · have hF := hF.1 z2
      refine j_aload_n hJ dX12_growth_173 rfl 0 rfl ?_
      refine j_gi hJ kR_0 fR_15_75 rfl fl_X12_612 dX12_growth_174 (fun v3 ev3 gv3 => ?_)
      have hF := hF v3 ev3 gv3
      exact j_iret hJ rfl gv3 dX12_growth_177 hF
    · have hF := hF.2 z2
      refine j_aload_n hJ dX12_growth_87 rfl 0 rfl ?_
      refine j_iload hJ dX12_growth_88 3 rfl ?_
      refine j_aload_n hJ dX12_growth_90 rfl 0 rfl ?_
      refine j_gr (e := 39) hJ kR_0 fR_15_49 fl_X12_186 dX12_growth_91 rfl ?_
      refine j_aload_n hJ dX12_growth_94 rfl 0 rfl ?_
      refine j_iload hJ dX12_growth_95 2 rfl ?_
      refine j_iload hJ dX12_growth_97 4 rfl ?_
      refine j_callVi hJ (c_X12_at (l := l) (D := D) (cy := cy) (ad := ad) hin) rfl om_1153 ⟨rfl, rfl, Nat.le_of_ble_eq_true rfl, Nat.le_of_ble_eq_true rfl⟩ [.int (Ii x4), .int (Ii x6)] mv_X12_545 hd_X12_atv kR_0 rfl rfl rfl (Nat.le_of_ble_eq_true rfl) dX12_growth_99 ⟨x4, x6, rfl, gx4, gx6, hF⟩ (fun r4 M5 gr4 qM5 => ?_)
      have hF := qM5 gr4
      refine j_iald hJ gr4 kR_39 hF.1 hF.2.1 dX12_growth_102 (fun v6 ev6 gv6 => ?_)
      have hF := hF.2.2 v6 ev6 gv6
      refine j_callVi hJ (c_X12_thingOf (l := l) (D := D) (cy := cy) (ad := ad) hin) rfl om_1332 ⟨rfl, rfl, Nat.le_of_ble_eq_true rfl, Nat.le_of_ble_eq_true rfl⟩ [.int (Ii x5), .int (Ii v6)] mv_X12_615 hd_X12_thingOfv kR_0 rfl rfl rfl (Nat.le_of_ble_eq_true rfl) dX12_growth_103 ⟨x5, v6, rfl, gx5, gv6, hF⟩ (fun r7 M8 gr7 qM8 => ?_)
      have hF := qM8 gr7
      refine j_istore (lv' := [(7, .int (Ii r7)), (0, .ref (ad 0)), (3, .int (Ii x3)), (4, .int (Ii x4)), (5, .int (Ii x5)), (6, .int (Ii x6))]) hJ dX12_growth_106 (by decide) rfl ?_
      refine j_iload_n hJ dX12_growth_108 rfl 2 rfl ?_
      refine j_iconst hJ dX12_growth_109 ?_
      refine j_icmp_ne hJ 137 gx3 rk_2 dX12_growth_110 (by decide) (fun z9 => ?_) (fun z9 => ?_)
      · have hF := hF.1 z9
        refine j_iload hJ dX12_growth_137 0 rfl ?_
        refine j_iconst hJ dX12_growth_139 ?_
        refine j_icmp_eq hJ 146 gr7 rk_m1 dX12_growth_140 (by decide) (fun z10 => ?_) (fun z10 => ?_)
        · have hF := hF.1 z10
          exact j_sub hJ [1, 2, 3, 4, 5] rfl (k_X12_growth_b146 hin  hJ ih x3 x4 x5 x6 _ gx3 gx4 gx5 gx6 hF)
        · have hF := hF.2 z10
          refine j_goto hJ 167 dX12_growth_143 (by decide) ?_
          exact j_sub hJ [1, 2, 3, 4, 5] rfl (k_X12_growth_b167 hin  hJ ih x3 x4 x5 x6 _ gx3 gx4 gx5 gx6 hF)
      · have hF := hF.2 z9
        refine j_iload hJ dX12_growth_113 0 rfl ?_
        refine j_iconst hJ dX12_growth_115 ?_
        refine j_icmp_eq hJ 167 gr7 rk_m1 dX12_growth_116 (by decide) (fun z11 => ?_) (fun z11 => ?_)
        · have hF := hF.1 z11
          exact j_sub hJ [1, 2, 3, 4, 5] rfl (k_X12_growth_b167 hin  hJ ih x3 x4 x5 x6 _ gx3 gx4 gx5 gx6 hF)
        · have hF := hF.2 z11
          refine j_aload_n hJ dX12_growth_119 rfl 1 rfl ?_
          refine j_iload hJ dX12_growth_120 4 rfl ?_
          refine j_iload hJ dX12_growth_122 0 rfl ?_
          refine j_iload hJ dX12_growth_124 3 rfl ?_
          refine j_iload hJ dX12_growth_126 5 rfl ?_
          refine j_callVz hJ (c_X12_isChanged (l := l) (D := D) (cy := cy) (ad := ad) hin) rfl om_1336 ⟨rfl, rfl, Nat.le_of_ble_eq_true rfl, Nat.le_of_ble_eq_true rfl⟩ [.int (Ii x5), .int (Ii r7), .int (Ii x4), .int (Ii x6)] mv_X12_618 hd_X12_isChangedv kR_0 rfl rfl rfl (Nat.le_of_ble_eq_true rfl) dX12_growth_128 ⟨x5, r7, x4, x6, rfl, gx5, gr7, gx4, gx6, hF⟩ (fun r12 M13 gr12 qM13 => ?_)
          have hF := qM13 gr12
          refine j_if_ne hJ 146 (jz_ri gr12) dX12_growth_131 (by decide) (fun z14 => ?_) (fun z14 => ?_)
          · have hF := hF.1 z14
            exact j_sub hJ [1, 2, 3, 4, 5] rfl (k_X12_growth_b146 hin  hJ ih x3 x4 x5 x6 _ gx3 gx4 gx5 gx6 hF)
          · have hF := hF.2 z14
            refine j_goto hJ 167 dX12_growth_134 (by decide) ?_
            exact j_sub hJ [1, 2, 3, 4, 5] rfl (k_X12_growth_b167 hin  hJ ih x3 x4 x5 x6 _ gx3 gx4 gx5 gx6 hF)
  intro x3 x4 x5 x6 M gx3 gx4 gx5 gx6 hF
  obtain ⟨n, hF⟩ := hF
  exact H9 n x3 x4 x5 x6 M gx3 gx4 gx5 gx6 hF
set_option maxHeartbeats 4000000 in
set_option maxRecDepth 100000 in
theorem k_X12_growth_b70 {l : Launch} {D : va_G} {cy : Nat → ClassId} {ad : Nat → Nat} {Q : Int → MM → Prop} {J : Nat → List (Nat × Value) → List Value → MM → Prop} (hin : jIn ad ksR.length)   (hJ : jOk l D vwCl (tyR cy) cy ad ftR ksR (XtR ad) Om RX12 cX12_growth 8 1 ({ frames := 5, cells := 0, slots := 0, locals := 121 } : Room) Q J)  : ∀ (x3 x4 s0 : Int) (M : MM), ri_ x3 → ri_ x4 → ri_ s0 → w_X12_growth_b70  Q  x3 x4 s0 M → J 70 [(0, .ref (ad 0)), (3, .int (Ii x3)), (4, .int (Ii x4))] [.int (Ii s0)] M := by
  intro x3 x4 s0 M gx3 gx4 gs0 hF
  unfold w_X12_growth_b70 at hF
  refine j_istore (lv' := [(5, .int (Ii s0)), (0, .ref (ad 0)), (3, .int (Ii x3)), (4, .int (Ii x4))]) hJ dX12_growth_70 (by decide) rfl ?_
  refine j_iconst hJ dX12_growth_72 ?_
  refine j_istore (lv' := [(6, .int (Ii 0)), (5, .int (Ii s0)), (0, .ref (ad 0)), (3, .int (Ii x3)), (4, .int (Ii x4))]) hJ dX12_growth_73 (by decide) rfl ?_
  exact j_sub hJ [2, 3, 4, 1, 0] rfl (k_X12_growth_b75 hin  hJ  x3 x4 s0 0 _ gx3 gx4 gs0 rk_0 hF)
set_option maxHeartbeats 4000000 in
set_option maxRecDepth 100000 in
theorem k_X12_growth_b58 {l : Launch} {D : va_G} {cy : Nat → ClassId} {ad : Nat → Nat} {Q : Int → MM → Prop} {J : Nat → List (Nat × Value) → List Value → MM → Prop} (hin : jIn ad ksR.length)   (hJ : jOk l D vwCl (tyR cy) cy ad ftR ksR (XtR ad) Om RX12 cX12_growth 8 1 ({ frames := 5, cells := 0, slots := 0, locals := 121 } : Room) Q J)  : ∀ (x1 x2 x3 s0 : Int) (M : MM), ri_ x1 → ri_ x2 → ri_ x3 → ri_ s0 → w_X12_growth_b58  Q  x1 x2 x3 s0 M → J 58 [(0, .ref (ad 0)), (1, .int (Ii x1)), (2, .int (Ii x2)), (3, .int (Ii x3))] [.int (Ii s0)] M := by
  intro x1 x2 x3 s0 M gx1 gx2 gx3 gs0 hF
  unfold w_X12_growth_b58 at hF
  refine j_istore (lv' := [(4, .int (Ii s0)), (0, .ref (ad 0)), (1, .int (Ii x1)), (2, .int (Ii x2)), (3, .int (Ii x3))]) hJ dX12_growth_58 (by decide) rfl ?_
  refine j_iload_n hJ dX12_growth_60 rfl 4 rfl ?_
  refine j_iconst hJ dX12_growth_61 ?_
  refine j_icmp_ne hJ 69 gx3 rk_1 dX12_growth_62 (by decide) (fun z1 => ?_) (fun z1 => ?_)
  · have hF := hF.1 z1
    refine j_iload_n hJ dX12_growth_69 rfl 2 rfl ?_
    exact j_sub hJ [1, 4, 0] rfl (k_X12_growth_b70 hin  hJ  x3 s0 x1 _ gx3 gs0 gx1 hF)
  · have hF := hF.2 z1
    refine j_iload_n hJ dX12_growth_65 rfl 3 rfl ?_
    refine j_goto hJ 70 dX12_growth_66 (by decide) ?_
    exact j_sub hJ [1, 4, 0] rfl (k_X12_growth_b70 hin  hJ  x3 s0 x2 _ gx3 gs0 gx2 hF)
set_option maxHeartbeats 4000000 in
set_option maxRecDepth 100000 in
theorem k_X12_growth_b31 {l : Launch} {D : va_G} {cy : Nat → ClassId} {ad : Nat → Nat} {Q : Int → MM → Prop} {J : Nat → List (Nat × Value) → List Value → MM → Prop} (hin : jIn ad ksR.length)   (hJ : jOk l D vwCl (tyR cy) cy ad ftR ksR (XtR ad) Om RX12 cX12_growth 8 1 ({ frames := 5, cells := 0, slots := 0, locals := 121 } : Room) Q J)  : ∀ (x1 x2 x3 s0 : Int) (M : MM), ri_ x1 → ri_ x2 → ri_ x3 → ri_ s0 → w_X12_growth_b31  Q  x1 x2 x3 s0 M → J 31 [(0, .ref (ad 0)), (1, .int (Ii x1)), (2, .int (Ii x2)), (3, .int (Ii x3))] [.int (Ii s0), .ref (ad 0)] M := by
  intro x1 x2 x3 s0 M gx1 gx2 gx3 gs0 hF
  unfold w_X12_growth_b31 at hF
  refine j_pi hJ gs0 kR_0 fR_15_0 rfl fp_X12_388 dX12_growth_31 (fun M1 eM1 => ?_)
  have hF := hF M1 eM1
  refine j_aload_n hJ dX12_growth_34 rfl 0 rfl ?_
  refine j_gi hJ kR_0 fR_15_0 rfl fl_X12_388 dX12_growth_35 (fun v2 ev2 gv2 => ?_)
  have hF := hF v2 ev2 gv2
  refine j_if_le hJ 43 gv2 dX12_growth_38 (by decide) (fun z3 => ?_) (fun z3 => ?_)
  · have hF := hF.1 z3
    refine j_aload_n hJ dX12_growth_43 rfl 0 rfl ?_
    refine j_iconst hJ dX12_growth_44 ?_
    refine j_pi hJ rk_0 kR_0 fR_15_75 rfl fp_X12_612 dX12_growth_45 (fun M4 eM4 => ?_)
    have hF := hF M4 eM4
    refine j_iload_n hJ dX12_growth_48 rfl 3 rfl ?_
    refine j_iconst hJ dX12_growth_49 ?_
    refine j_icmp_ne hJ 57 gx3 rk_1 dX12_growth_50 (by decide) (fun z5 => ?_) (fun z5 => ?_)
    · have hF := hF.1 z5
      refine j_iload_n hJ dX12_growth_57 rfl 2 rfl ?_
      exact j_sub hJ [0, 1, 2, 3] rfl (k_X12_growth_b58 hin  hJ  x1 x2 x3 x2 _ gx1 gx2 gx3 gx2 hF)
    · have hF := hF.2 z5
      refine j_iload_n hJ dX12_growth_53 rfl 1 rfl ?_
      refine j_goto hJ 58 dX12_growth_54 (by decide) ?_
      exact j_sub hJ [0, 1, 2, 3] rfl (k_X12_growth_b58 hin  hJ  x1 x2 x3 x1 _ gx1 gx2 gx3 gx1 hF)
  · have hF := hF.2 z3
    refine j_iconst hJ dX12_growth_41 ?_
    exact j_iret hJ rfl rk_0 dX12_growth_42 hF
set_option maxHeartbeats 4000000 in
set_option maxRecDepth 100000 in
theorem k_X12_growth_b26 {l : Launch} {D : va_G} {cy : Nat → ClassId} {ad : Nat → Nat} {Q : Int → MM → Prop} {J : Nat → List (Nat × Value) → List Value → MM → Prop} (hin : jIn ad ksR.length)   (hJ : jOk l D vwCl (tyR cy) cy ad ftR ksR (XtR ad) Om RX12 cX12_growth 8 1 ({ frames := 5, cells := 0, slots := 0, locals := 121 } : Room) Q J)  : ∀ (x1 x2 x3 : Int) (M : MM), ri_ x1 → ri_ x2 → ri_ x3 → w_X12_growth_b26  Q  x1 x2 x3 M → J 26 [(0, .ref (ad 0)), (1, .int (Ii x1)), (2, .int (Ii x2)), (3, .int (Ii x3))] [.ref (ad 0)] M := by
  intro x1 x2 x3 M gx1 gx2 gx3 hF
  unfold w_X12_growth_b26 at hF
  refine j_iconst hJ dX12_growth_26 ?_
  refine j_goto hJ 31 dX12_growth_27 (by decide) ?_
  exact j_sub hJ [0, 1, 2, 3] rfl (k_X12_growth_b31 hin  hJ  x1 x2 x3 1 _ gx1 gx2 gx3 rk_1 hF)
set_option maxHeartbeats 4000000 in
set_option maxRecDepth 100000 in
theorem c_X12_growth {l : Launch} {D : va_G} {cy : Nat → ClassId} {ad : Nat → Nat} (hin : jIn ad ksR.length) : jCN l D vwCl (tyR cy) cy ad ftR ksR (XtR ad) yX12_growth (.code yX12_growth cX12_growth 8 (some .int) :: Om) ({ frames := 5, cells := 0, slots := 0, locals := 121 } : Room) 1 (W_X12_growth ad) := by
  refine jCN_of (y := yX12_growth) (cc := cX12_growth) (nL := 8) (rk := 1) (rm := ({ frames := 5, cells := 0, slots := 0, locals := 121 } : Room)) (own := RX12) (tyR_ok cy) hin (XtR_ok ad) Om_good (by decide) rfl ?_
  intro Q av M hF
  obtain ⟨p1, p2, p3, rfl, gp1, gp2, gp3, hF⟩ := hF
  refine ⟨Nat.le_of_ble_eq_true rfl, fun J hJ => ?_⟩
  show J 0 [(0, .ref (ad 0)), (1, .int (Ii p1)), (2, .int (Ii p2)), (3, .int (Ii p3))] [] M
  unfold w_X12_growth at hF
  refine j_aload_n hJ dX12_growth_0 rfl 0 rfl ?_
  refine j_aload_n hJ dX12_growth_1 rfl 0 rfl ?_
  refine j_iload_n hJ dX12_growth_2 rfl 1 rfl ?_
  refine j_callVz hJ (c_X12_isPicture (l := l) (D := D) (cy := cy) (ad := ad) hin) rfl om_1296 ⟨rfl, rfl, Nat.le_of_ble_eq_true rfl, Nat.le_of_ble_eq_true rfl⟩ [.int (Ii p1)] mv_X12_542 hd_X12_isPicturev kR_0 rfl rfl rfl (Nat.le_of_ble_eq_true rfl) dX12_growth_3 ⟨p1, rfl, gp1, hF⟩ (fun r1 M2 gr1 qM2 => ?_)
  have hF := qM2 gr1
  refine j_if_eq hJ 26 (jz_ri gr1) dX12_growth_6 (by decide) (fun z3 => ?_) (fun z3 => ?_)
  · have hF := hF.1 z3
    exact j_sub hJ [0, 1, 2, 3] rfl (k_X12_growth_b26 hin  hJ  p1 p2 p3 _ gp1 gp2 gp3 hF)
  · have hF := hF.2 z3
    refine j_aload_n hJ dX12_growth_9 rfl 0 rfl ?_
    refine j_iload_n hJ dX12_growth_10 rfl 2 rfl ?_
    refine j_callVz hJ (c_X12_isPicture (l := l) (D := D) (cy := cy) (ad := ad) hin) rfl om_1296 ⟨rfl, rfl, Nat.le_of_ble_eq_true rfl, Nat.le_of_ble_eq_true rfl⟩ [.int (Ii p2)] mv_X12_542 hd_X12_isPicturev kR_0 rfl rfl rfl (Nat.le_of_ble_eq_true rfl) dX12_growth_11 ⟨p2, rfl, gp2, hF⟩ (fun r4 M5 gr4 qM5 => ?_)
    have hF := qM5 gr4
    refine j_if_eq hJ 26 (jz_ri gr4) dX12_growth_14 (by decide) (fun z6 => ?_) (fun z6 => ?_)
    · have hF := hF.1 z6
      exact j_sub hJ [0, 1, 2, 3] rfl (k_X12_growth_b26 hin  hJ  p1 p2 p3 _ gp1 gp2 gp3 hF)
    · have hF := hF.2 z6
      refine j_iload_n hJ dX12_growth_17 rfl 3 rfl ?_
      refine j_if_lt hJ 26 gp3 dX12_growth_18 (by decide) (fun z7 => ?_) (fun z7 => ?_)
      · have hF := hF.1 z7
        exact j_sub hJ [0, 1, 2, 3] rfl (k_X12_growth_b26 hin  hJ  p1 p2 p3 _ gp1 gp2 gp3 hF)
      · have hF := hF.2 z7
        refine j_iload_n hJ dX12_growth_21 rfl 3 rfl ?_
        refine j_iconst hJ dX12_growth_22 ?_
        refine j_icmp_le hJ 30 gp3 rk_2 dX12_growth_23 (by decide) (fun z8 => ?_) (fun z8 => ?_)
        · have hF := hF.1 z8
          refine j_iconst hJ dX12_growth_30 ?_
          exact j_sub hJ [0, 1, 2, 3] rfl (k_X12_growth_b31 hin  hJ  p1 p2 p3 0 _ gp1 gp2 gp3 rk_0 hF)
        · have hF := hF.2 z8
          exact j_sub hJ [0, 1, 2, 3] rfl (k_X12_growth_b26 hin  hJ  p1 p2 p3 _ gp1 gp2 gp3 hF)
def W_X12_grown (ad : Nat → Nat) (Q : Int → MM → Prop) (av : List Value) (M : MM) : Prop := ∃ (p1 : Int), av = [.ref (ad 0), .int (Ii p1)] ∧ ri_ p1 ∧ w_X12_grown  Q p1 M
set_option maxHeartbeats 4000000 in
set_option maxRecDepth 100000 in
theorem c_X12_grown {l : Launch} {D : va_G} {cy : Nat → ClassId} {ad : Nat → Nat} (hin : jIn ad ksR.length) : jCN l D vwCl (tyR cy) cy ad ftR ksR (XtR ad) yX12_grown (.code yX12_grown cX12_grown 2 (some .int) :: Om) ({ frames := 0, cells := 0, slots := 0, locals := 0 } : Room) 1 (W_X12_grown ad) := by
  refine jCN_of (y := yX12_grown) (cc := cX12_grown) (nL := 2) (rk := 1) (rm := ({ frames := 0, cells := 0, slots := 0, locals := 0 } : Room)) (own := RX12) (tyR_ok cy) hin (XtR_ok ad) Om_good (by decide) rfl ?_
  intro Q av M hF
  obtain ⟨p1, rfl, gp1, hF⟩ := hF
  refine ⟨Nat.le_of_ble_eq_true rfl, fun J hJ => ?_⟩
  show J 0 [(0, .ref (ad 0)), (1, .int (Ii p1))] [] M
  unfold w_X12_grown at hF
  refine j_aload_n hJ dX12_grown_0 rfl 0 rfl ?_
  refine j_iconst hJ dX12_grown_1 ?_
  refine j_pi hJ rk_0 kR_0 fR_15_0 rfl fp_X12_388 dX12_grown_2 (fun M1 eM1 => ?_)
  have hF := hF M1 eM1
  refine j_iload_n hJ dX12_grown_5 rfl 1 rfl ?_
  refine j_if_lt hJ 26 gp1 dX12_grown_6 (by decide) (fun z2 => ?_) (fun z2 => ?_)
  · have hF := hF.1 z2
    refine j_iconst hJ dX12_grown_26 ?_
    exact j_iret hJ rfl rk_m1 dX12_grown_27 hF
  · have hF := hF.2 z2
    refine j_iload_n hJ dX12_grown_9 rfl 1 rfl ?_
    refine j_aload_n hJ dX12_grown_10 rfl 0 rfl ?_
    refine j_gi hJ kR_0 fR_15_75 rfl fl_X12_612 dX12_grown_11 (fun v3 ev3 gv3 => ?_)
    have hF := hF v3 ev3 gv3
    refine j_icmp_ge hJ 26 gp1 gv3 dX12_grown_14 (by decide) (fun z4 => ?_) (fun z4 => ?_)
    · have hF := hF.1 z4
      refine j_iconst hJ dX12_grown_26 ?_
      exact j_iret hJ rfl rk_m1 dX12_grown_27 hF
    · have hF := hF.2 z4
      refine j_aload_n hJ dX12_grown_17 rfl 0 rfl ?_
      refine j_gr (e := 63) hJ kR_0 fR_15_74 fl_X12_259 dX12_grown_18 rfl ?_
      refine j_iload_n hJ dX12_grown_21 rfl 1 rfl ?_
      refine j_iald hJ gp1 kR_63 hF.1 hF.2.1 dX12_grown_22 (fun v5 ev5 gv5 => ?_)
      have hF := hF.2.2 v5 ev5 gv5
      refine j_goto hJ 27 dX12_grown_23 (by decide) ?_
      exact j_iret hJ rfl gv5 dX12_grown_27 hF
def W_X12_pair (ad : Nat → Nat) (Q : Int → MM → Prop) (av : List Value) (M : MM) : Prop := ∃ (p1 : Int) (p2 : Int), av = [.ref (ad 0), .int (Ii p1), .int (Ii p2)] ∧ ri_ p1 ∧ ri_ p2 ∧ w_X12_pair  Q p1 p2 M
set_option maxHeartbeats 4000000 in
set_option maxRecDepth 100000 in
theorem k_X12_pair_b20 {l : Launch} {D : va_G} {cy : Nat → ClassId} {ad : Nat → Nat} {Q : Int → MM → Prop} {J : Nat → List (Nat × Value) → List Value → MM → Prop} (hin : jIn ad ksR.length)   (hJ : jOk l D vwCl (tyR cy) cy ad ftR ksR (XtR ad) Om RX12 cX12_pair 3 3 ({ frames := 0, cells := 0, slots := 0, locals := 0 } : Room) Q J)  : ∀ (x1 x2 : Int) (M : MM), ri_ x1 → ri_ x2 → w_X12_pair_b20  Q  x1 x2 M → J 20 [(0, .ref (ad 0)), (1, .int (Ii x1)), (2, .int (Ii x2))] [] M := by
  intro x1 x2 M gx1 gx2 hF
  unfold w_X12_pair_b20 at hF
  refine j_aload_n hJ dX12_pair_20 rfl 0 rfl ?_
  refine j_gr (e := 64) hJ kR_0 fR_15_76 fl_X12_262 dX12_pair_21 rfl ?_
  refine j_iload_n hJ dX12_pair_24 rfl 1 rfl ?_
  refine j_iald hJ gx1 kR_64 hF.1 hF.2.1 dX12_pair_25 (fun v1 ev1 gv1 => ?_)
  have hF := hF.2.2 v1 ev1 gv1
  refine j_iload_n hJ dX12_pair_26 rfl 2 rfl ?_
  refine j_icmp_ne hJ 34 gv1 gx2 dX12_pair_27 (by decide) (fun z2 => ?_) (fun z2 => ?_)
  · have hF := hF.1 z2
    refine j_iconst hJ dX12_pair_34 ?_
    exact j_zret hJ rfl (by decide) dX12_pair_35 hF
  · have hF := hF.2 z2
    refine j_iconst hJ dX12_pair_30 ?_
    refine j_goto hJ 35 dX12_pair_31 (by decide) ?_
    exact j_zret hJ rfl (by decide) dX12_pair_35 hF
set_option maxHeartbeats 4000000 in
set_option maxRecDepth 100000 in
theorem c_X12_pair {l : Launch} {D : va_G} {cy : Nat → ClassId} {ad : Nat → Nat} (hin : jIn ad ksR.length) : jCN l D vwCl (tyR cy) cy ad ftR ksR (XtR ad) yX12_pair (.code yX12_pair cX12_pair 3 (some .boolean) :: Om) ({ frames := 0, cells := 0, slots := 0, locals := 0 } : Room) 3 (W_X12_pair ad) := by
  refine jCN_of (y := yX12_pair) (cc := cX12_pair) (nL := 3) (rk := 3) (rm := ({ frames := 0, cells := 0, slots := 0, locals := 0 } : Room)) (own := RX12) (tyR_ok cy) hin (XtR_ok ad) Om_good (by decide) rfl ?_
  intro Q av M hF
  obtain ⟨p1, p2, rfl, gp1, gp2, hF⟩ := hF
  refine ⟨Nat.le_of_ble_eq_true rfl, fun J hJ => ?_⟩
  show J 0 [(0, .ref (ad 0)), (1, .int (Ii p1)), (2, .int (Ii p2))] [] M
  unfold w_X12_pair at hF
  refine j_aload_n hJ dX12_pair_0 rfl 0 rfl ?_
  refine j_gr (e := 64) hJ kR_0 fR_15_76 fl_X12_262 dX12_pair_1 rfl ?_
  refine j_iload_n hJ dX12_pair_4 rfl 1 rfl ?_
  refine j_iald hJ gp1 kR_64 hF.1 hF.2.1 dX12_pair_5 (fun v1 ev1 gv1 => ?_)
  have hF := hF.2.2 v1 ev1 gv1
  refine j_iconst hJ dX12_pair_6 ?_
  refine j_icmp_ne hJ 20 gv1 rk_m1 dX12_pair_7 (by decide) (fun z2 => ?_) (fun z2 => ?_)
  · have hF := hF.1 z2
    exact j_sub hJ [0, 1, 2] rfl (k_X12_pair_b20 hin  hJ  p1 p2 _ gp1 gp2 hF)
  · have hF := hF.2 z2
    refine j_aload_n hJ dX12_pair_10 rfl 0 rfl ?_
    refine j_gr (e := 65) hJ kR_0 fR_15_77 fl_X12_265 dX12_pair_11 rfl ?_
    refine j_iload_n hJ dX12_pair_14 rfl 2 rfl ?_
    refine j_iald hJ gp2 kR_65 hF.1 hF.2.1 dX12_pair_15 (fun v3 ev3 gv3 => ?_)
    have hF := hF.2.2 v3 ev3 gv3
    refine j_iconst hJ dX12_pair_16 ?_
    refine j_icmp_eq hJ 36 gv3 rk_m1 dX12_pair_17 (by decide) (fun z4 => ?_) (fun z4 => ?_)
    · have hF := hF.1 z4
      refine j_aload_n hJ dX12_pair_36 rfl 0 rfl ?_
      refine j_gr (e := 64) hJ kR_0 fR_15_76 fl_X12_262 dX12_pair_37 rfl ?_
      refine j_iload_n hJ dX12_pair_40 rfl 1 rfl ?_
      refine j_iload_n hJ dX12_pair_41 rfl 2 rfl ?_
      refine j_iast hJ gp1 gp2 kR_64 hF.1 hF.2.1 dX12_pair_42 (fun M5 eM5 => ?_)
      have hF := hF.2.2 M5 eM5
      refine j_aload_n hJ dX12_pair_43 rfl 0 rfl ?_
      refine j_gr (e := 65) hJ kR_0 fR_15_77 fl_X12_265 dX12_pair_44 rfl ?_
      refine j_iload_n hJ dX12_pair_47 rfl 2 rfl ?_
      refine j_iload_n hJ dX12_pair_48 rfl 1 rfl ?_
      refine j_iast hJ gp2 gp1 kR_65 hF.1 hF.2.1 dX12_pair_49 (fun M6 eM6 => ?_)
      have hF := hF.2.2 M6 eM6
      refine j_aload_n hJ dX12_pair_50 rfl 0 rfl ?_
      refine j_gr (e := 62) hJ kR_0 fR_15_72 fl_X12_256 dX12_pair_51 rfl ?_
      refine j_aload_n hJ dX12_pair_54 rfl 0 rfl ?_
      refine j_gi hJ kR_0 fR_15_73 rfl fl_X12_581 dX12_pair_55 (fun v7 ev7 gv7 => ?_)
      have hF := hF v7 ev7 gv7
      refine j_iload_n hJ dX12_pair_58 rfl 1 rfl ?_
      refine j_iast hJ gv7 gp1 kR_62 hF.1 hF.2.1 dX12_pair_59 (fun M8 eM8 => ?_)
      have hF := hF.2.2 M8 eM8
      refine j_aload_n hJ dX12_pair_60 rfl 0 rfl ?_
      refine j_dup hJ dX12_pair_61 rfl ?_
      refine j_gi hJ kR_0 fR_15_73 rfl fl_X12_581 dX12_pair_62 (fun v9 ev9 gv9 => ?_)
      have hF := hF v9 ev9 gv9
      refine j_iconst hJ dX12_pair_65 ?_
      refine j_iadd hJ dX12_pair_66 ?_
      have g10 := hF.1; have hF := hF.2
      refine j_pi hJ g10 kR_0 fR_15_73 rfl fp_X12_581 dX12_pair_67 (fun M11 eM11 => ?_)
      have hF := hF M11 eM11
      refine j_iconst hJ dX12_pair_70 ?_
      exact j_zret hJ rfl (by decide) dX12_pair_71 hF
    · have hF := hF.2 z4
      exact j_sub hJ [0, 1, 2] rfl (k_X12_pair_b20 hin  hJ  p1 p2 _ gp1 gp2 hF)
def W_X12_like (ad : Nat → Nat) (Q : Int → MM → Prop) (av : List Value) (M : MM) : Prop := ∃ (p1 : Int) (p2 : Int) (p3 : Int) (p4 : Int), av = [.ref (ad 0), .int (Ii p1), .int (Ii p2), .int (Ii p3), .int (Ii p4)] ∧ ri_ p1 ∧ ri_ p2 ∧ ri_ p3 ∧ ri_ p4 ∧ w_X12_like  Q p1 p2 p3 p4 M
set_option maxHeartbeats 4000000 in
set_option maxRecDepth 100000 in
theorem k_X12_like_b298 {l : Launch} {D : va_G} {cy : Nat → ClassId} {ad : Nat → Nat} {Q : Int → MM → Prop} {J : Nat → List (Nat × Value) → List Value → MM → Prop} (hin : jIn ad ksR.length)   (hJ : jOk l D vwCl (tyR cy) cy ad ftR ksR (XtR ad) Om RX12 cX12_like 15 3 ({ frames := 3, cells := 0, slots := 0, locals := 70 } : Room) Q J) {K87 : Int → Int → Int → Int → MM → Prop} (hK87 : ∀ (x1 x3 x5 x6 : Int) (M : MM), ri_ x1 → ri_ x3 → ri_ x5 → ri_ x6 → K87 x1 x3 x5 x6 M → J 87 [(0, .ref (ad 0)), (1, .int (Ii x1)), (3, .int (Ii x3)), (5, .int (Ii x5)), (6, .int (Ii x6))] [] M) : ∀ (x1 x3 x5 x6 : Int) (M : MM), ri_ x1 → ri_ x3 → ri_ x5 → ri_ x6 → w_X12_like_b298  Q K87 x1 x3 x5 x6 M → J 298 [(0, .ref (ad 0)), (1, .int (Ii x1)), (3, .int (Ii x3)), (5, .int (Ii x5)), (6, .int (Ii x6))] [] M := by
  intro x1 x3 x5 x6 M gx1 gx3 gx5 gx6 hF
  unfold w_X12_like_b298 at hF
  refine j_iinc (lv' := [(6, .int (Ii (x6 + 1))), (0, .ref (ad 0)), (1, .int (Ii x1)), (3, .int (Ii x3)), (5, .int (Ii x5))]) (k := 4) hJ dX12_like_298 rfl (by decide) rfl ?_
  have g1 := hF.1; have hF := hF.2
  refine j_goto hJ 87 dX12_like_301 (by decide) ?_
  exact j_sub hJ [1, 2, 3, 4, 0] rfl (hK87 x1 x3 x5 (x6 + 1) _ gx1 gx3 gx5 g1 hF)
set_option maxHeartbeats 4000000 in
set_option maxRecDepth 100000 in
theorem k_X12_like_b290 {l : Launch} {D : va_G} {cy : Nat → ClassId} {ad : Nat → Nat} {Q : Int → MM → Prop} {J : Nat → List (Nat × Value) → List Value → MM → Prop} (hin : jIn ad ksR.length)   (hJ : jOk l D vwCl (tyR cy) cy ad ftR ksR (XtR ad) Om RX12 cX12_like 15 3 ({ frames := 3, cells := 0, slots := 0, locals := 70 } : Room) Q J) {K87 : Int → Int → Int → Int → MM → Prop} (hK87 : ∀ (x1 x3 x5 x6 : Int) (M : MM), ri_ x1 → ri_ x3 → ri_ x5 → ri_ x6 → K87 x1 x3 x5 x6 M → J 87 [(0, .ref (ad 0)), (1, .int (Ii x1)), (3, .int (Ii x3)), (5, .int (Ii x5)), (6, .int (Ii x6))] [] M) {K183 : Int → Int → Int → Int → Int → Int → Int → MM → Prop} (hK183 : ∀ (x1 x3 x5 x6 x7 x8 x9 : Int) (M : MM), ri_ x1 → ri_ x3 → ri_ x5 → ri_ x6 → ri_ x7 → ri_ x8 → ri_ x9 → K183 x1 x3 x5 x6 x7 x8 x9 M → J 183 [(0, .ref (ad 0)), (1, .int (Ii x1)), (3, .int (Ii x3)), (5, .int (Ii x5)), (6, .int (Ii x6)), (7, .int (Ii x7)), (8, .int (Ii x8)), (9, .int (Ii x9))] [] M) : ∀ (x1 x3 x6 x7 x8 x9 s0 : Int) (M : MM), ri_ x1 → ri_ x3 → ri_ x6 → ri_ x7 → ri_ x8 → ri_ x9 → ri_ s0 → w_X12_like_b290  Q K87 K183 x1 x3 x6 x7 x8 x9 s0 M → J 290 [(0, .ref (ad 0)), (1, .int (Ii x1)), (3, .int (Ii x3)), (6, .int (Ii x6)), (7, .int (Ii x7)), (8, .int (Ii x8)), (9, .int (Ii x9))] [.int (Ii s0)] M := by
  intro x1 x3 x6 x7 x8 x9 s0 M gx1 gx3 gx6 gx7 gx8 gx9 gs0 hF
  unfold w_X12_like_b290 at hF
  refine j_istore (lv' := [(5, .int (Ii s0)), (0, .ref (ad 0)), (1, .int (Ii x1)), (3, .int (Ii x3)), (6, .int (Ii x6)), (7, .int (Ii x7)), (8, .int (Ii x8)), (9, .int (Ii x9))]) hJ dX12_like_290 (by decide) rfl ?_
  refine j_iinc (lv' := [(9, .int (Ii (x9 + 1))), (5, .int (Ii s0)), (0, .ref (ad 0)), (1, .int (Ii x1)), (3, .int (Ii x3)), (6, .int (Ii x6)), (7, .int (Ii x7)), (8, .int (Ii x8))]) (k := 7) hJ dX12_like_292 rfl (by decide) rfl ?_
  have g1 := hF.1; have hF := hF.2
  refine j_goto hJ 183 dX12_like_295 (by decide) ?_
  exact j_sub hJ [2, 3, 4, 1, 5, 6, 7, 0] rfl (hK183 x1 x3 s0 x6 x7 x8 (x9 + 1) _ gx1 gx3 gs0 gx6 gx7 gx8 g1 hF)
set_option maxHeartbeats 4000000 in
set_option maxRecDepth 100000 in
theorem k_X12_like_b257 {l : Launch} {D : va_G} {cy : Nat → ClassId} {ad : Nat → Nat} {Q : Int → MM → Prop} {J : Nat → List (Nat × Value) → List Value → MM → Prop} (hin : jIn ad ksR.length)   (hJ : jOk l D vwCl (tyR cy) cy ad ftR ksR (XtR ad) Om RX12 cX12_like 15 3 ({ frames := 3, cells := 0, slots := 0, locals := 70 } : Room) Q J) {K87 : Int → Int → Int → Int → MM → Prop} (hK87 : ∀ (x1 x3 x5 x6 : Int) (M : MM), ri_ x1 → ri_ x3 → ri_ x5 → ri_ x6 → K87 x1 x3 x5 x6 M → J 87 [(0, .ref (ad 0)), (1, .int (Ii x1)), (3, .int (Ii x3)), (5, .int (Ii x5)), (6, .int (Ii x6))] [] M) {K183 : Int → Int → Int → Int → Int → Int → Int → MM → Prop} (hK183 : ∀ (x1 x3 x5 x6 x7 x8 x9 : Int) (M : MM), ri_ x1 → ri_ x3 → ri_ x5 → ri_ x6 → ri_ x7 → ri_ x8 → ri_ x9 → K183 x1 x3 x5 x6 x7 x8 x9 M → J 183 [(0, .ref (ad 0)), (1, .int (Ii x1)), (3, .int (Ii x3)), (5, .int (Ii x5)), (6, .int (Ii x6)), (7, .int (Ii x7)), (8, .int (Ii x8)), (9, .int (Ii x9))] [] M) : ∀ (x1 x3 x6 x7 x8 x9 x10 x12 s0 : Int) (M : MM), ri_ x1 → ri_ x3 → ri_ x6 → ri_ x7 → ri_ x8 → ri_ x9 → rl_ x10 → rl_ x12 → ri_ s0 → w_X12_like_b257  Q K87 K183 x1 x3 x6 x7 x8 x9 x10 x12 s0 M → J 257 [(0, .ref (ad 0)), (1, .int (Ii x1)), (3, .int (Ii x3)), (6, .int (Ii x6)), (7, .int (Ii x7)), (8, .int (Ii x8)), (9, .int (Ii x9)), (10, .long (Ll x10)), (12, .long (Ll x12))] [.int (Ii s0)] M := by
  intro x1 x3 x6 x7 x8 x9 x10 x12 s0 M gx1 gx3 gx6 gx7 gx8 gx9 gx10 gx12 gs0 hF
  unfold w_X12_like_b257 at hF
  refine j_istore (lv' := [(14, .int (Ii s0)), (0, .ref (ad 0)), (1, .int (Ii x1)), (3, .int (Ii x3)), (6, .int (Ii x6)), (7, .int (Ii x7)), (8, .int (Ii x8)), (9, .int (Ii x9)), (10, .long (Ll x10)), (12, .long (Ll x12))]) hJ dX12_like_257 (by decide) rfl ?_
  refine j_iload hJ dX12_like_259 0 rfl ?_
  refine j_if_eq hJ 277 gs0 dX12_like_261 (by decide) (fun z1 => ?_) (fun z1 => ?_)
  · have hF := hF.1 z1
    refine j_lload hJ dX12_like_277 8 rfl ?_
    refine j_lload hJ dX12_like_279 9 rfl ?_
    refine j_lcmp_ne hJ 289 gx10 gx12 dX12_like_281 dX12_like_282 (by decide) (fun z2 => ?_) (fun z2 => ?_)
    · have hF := hF.1 z2
      refine j_iconst hJ dX12_like_289 ?_
      exact j_sub hJ [1, 2, 3, 4, 5, 6, 7] rfl (k_X12_like_b290 hin  hJ hK87 hK183 x1 x3 x6 x7 x8 x9 0 _ gx1 gx3 gx6 gx7 gx8 gx9 rk_0 hF)
    · have hF := hF.2 z2
      refine j_iconst hJ dX12_like_285 ?_
      refine j_goto hJ 290 dX12_like_286 (by decide) ?_
      exact j_sub hJ [1, 2, 3, 4, 5, 6, 7] rfl (k_X12_like_b290 hin  hJ hK87 hK183 x1 x3 x6 x7 x8 x9 1 _ gx1 gx3 gx6 gx7 gx8 gx9 rk_1 hF)
  · have hF := hF.2 z1
    refine j_aload_n hJ dX12_like_264 rfl 1 rfl ?_
    refine j_lload hJ dX12_like_265 8 rfl ?_
    refine j_l2i hJ dX12_like_267 ?_
    have g3 := hF.1; have hF := hF.2
    refine j_lload hJ dX12_like_268 9 rfl ?_
    refine j_l2i hJ dX12_like_270 ?_
    have g4 := hF.1; have hF := hF.2
    refine j_callVz hJ (c_X12_pair (l := l) (D := D) (cy := cy) (ad := ad) hin) rfl om_1340 ⟨rfl, rfl, Nat.le_of_ble_eq_true rfl, Nat.le_of_ble_eq_true rfl⟩ [.int (Ii x10), .int (Ii x12)] mv_X12_622 hd_X12_pairv kR_0 rfl rfl rfl (Nat.le_of_ble_eq_true rfl) dX12_like_271 ⟨x10, x12, rfl, g3, g4, hF⟩ (fun r5 M6 gr5 qM6 => ?_)
    have hF := qM6 gr5
    refine j_goto hJ 290 dX12_like_274 (by decide) ?_
    exact j_sub hJ [1, 2, 3, 4, 5, 6, 7] rfl (k_X12_like_b290 hin  hJ hK87 hK183 x1 x3 x6 x7 x8 x9 r5 _ gx1 gx3 gx6 gx7 gx8 gx9 (jz_ri gr5) hF)
set_option maxHeartbeats 4000000 in
set_option maxRecDepth 100000 in
theorem k_X12_like_b256 {l : Launch} {D : va_G} {cy : Nat → ClassId} {ad : Nat → Nat} {Q : Int → MM → Prop} {J : Nat → List (Nat × Value) → List Value → MM → Prop} (hin : jIn ad ksR.length)   (hJ : jOk l D vwCl (tyR cy) cy ad ftR ksR (XtR ad) Om RX12 cX12_like 15 3 ({ frames := 3, cells := 0, slots := 0, locals := 70 } : Room) Q J) {K87 : Int → Int → Int → Int → MM → Prop} (hK87 : ∀ (x1 x3 x5 x6 : Int) (M : MM), ri_ x1 → ri_ x3 → ri_ x5 → ri_ x6 → K87 x1 x3 x5 x6 M → J 87 [(0, .ref (ad 0)), (1, .int (Ii x1)), (3, .int (Ii x3)), (5, .int (Ii x5)), (6, .int (Ii x6))] [] M) {K183 : Int → Int → Int → Int → Int → Int → Int → MM → Prop} (hK183 : ∀ (x1 x3 x5 x6 x7 x8 x9 : Int) (M : MM), ri_ x1 → ri_ x3 → ri_ x5 → ri_ x6 → ri_ x7 → ri_ x8 → ri_ x9 → K183 x1 x3 x5 x6 x7 x8 x9 M → J 183 [(0, .ref (ad 0)), (1, .int (Ii x1)), (3, .int (Ii x3)), (5, .int (Ii x5)), (6, .int (Ii x6)), (7, .int (Ii x7)), (8, .int (Ii x8)), (9, .int (Ii x9))] [] M) : ∀ (x1 x3 x6 x7 x8 x9 x10 x12 : Int) (M : MM), ri_ x1 → ri_ x3 → ri_ x6 → ri_ x7 → ri_ x8 → ri_ x9 → rl_ x10 → rl_ x12 → w_X12_like_b256  Q K87 K183 x1 x3 x6 x7 x8 x9 x10 x12 M → J 256 [(0, .ref (ad 0)), (1, .int (Ii x1)), (3, .int (Ii x3)), (6, .int (Ii x6)), (7, .int (Ii x7)), (8, .int (Ii x8)), (9, .int (Ii x9)), (10, .long (Ll x10)), (12, .long (Ll x12))] [] M := by
  intro x1 x3 x6 x7 x8 x9 x10 x12 M gx1 gx3 gx6 gx7 gx8 gx9 gx10 gx12 hF
  unfold w_X12_like_b256 at hF
  refine j_iconst hJ dX12_like_256 ?_
  exact j_sub hJ [0, 1, 2, 3, 4, 5, 6, 7, 8] rfl (k_X12_like_b257 hin  hJ hK87 hK183 x1 x3 x6 x7 x8 x9 x10 x12 0 _ gx1 gx3 gx6 gx7 gx8 gx9 gx10 gx12 rk_0 hF)
set_option maxHeartbeats 4000000 in
set_option maxRecDepth 100000 in
theorem k_X12_like_b183 {l : Launch} {D : va_G} {cy : Nat → ClassId} {ad : Nat → Nat} {Q : Int → MM → Prop} {J : Nat → List (Nat × Value) → List Value → MM → Prop} (hin : jIn ad ksR.length)   (hJ : jOk l D vwCl (tyR cy) cy ad ftR ksR (XtR ad) Om RX12 cX12_like 15 3 ({ frames := 3, cells := 0, slots := 0, locals := 70 } : Room) Q J) {K87 : Int → Int → Int → Int → MM → Prop} (hK87 : ∀ (x1 x3 x5 x6 : Int) (M : MM), ri_ x1 → ri_ x3 → ri_ x5 → ri_ x6 → K87 x1 x3 x5 x6 M → J 87 [(0, .ref (ad 0)), (1, .int (Ii x1)), (3, .int (Ii x3)), (5, .int (Ii x5)), (6, .int (Ii x6))] [] M) : ∀ (x1 x3 x5 x6 x7 x8 x9 : Int) (M : MM), ri_ x1 → ri_ x3 → ri_ x5 → ri_ x6 → ri_ x7 → ri_ x8 → ri_ x9 → w_X12_like_b183  Q K87 x1 x3 x5 x6 x7 x8 x9 M → J 183 [(0, .ref (ad 0)), (1, .int (Ii x1)), (3, .int (Ii x3)), (5, .int (Ii x5)), (6, .int (Ii x6)), (7, .int (Ii x7)), (8, .int (Ii x8)), (9, .int (Ii x9))] [] M := by
  have H9 : ∀ (n : Nat) (x1 x3 x5 x6 x7 x8 x9 : Int) (M : MM), ri_ x1 → ri_ x3 → ri_ x5 → ri_ x6 → ri_ x7 → ri_ x8 → ri_ x9 → jit (fun _ _ _ _ _ _ _ _ => False) (wb_X12_like_b183  Q K87) n x1 x3 x5 x6 x7 x8 x9 M → J 183 [(0, .ref (ad 0)), (1, .int (Ii x1)), (3, .int (Ii x3)), (5, .int (Ii x5)), (6, .int (Ii x6)), (7, .int (Ii x7)), (8, .int (Ii x8)), (9, .int (Ii x9))] [] M := by
    intro n
    induction n with
    | zero => intro x1 x3 x5 x6 x7 x8 x9 M gx1 gx3 gx5 gx6 gx7 gx8 gx9 hF; exact False.elim hF
    | succ n ih =>
    intro x1 x3 x5 x6 x7 x8 x9 M gx1 gx3 gx5 gx6 gx7 gx8 gx9 hF
    have hF : wb_X12_like_b183  Q K87 (jit (fun _ _ _ _ _ _ _ _ => False) (wb_X12_like_b183  Q K87) n) x1 x3 x5 x6 x7 x8 x9 M := hF
    unfold wb_X12_like_b183 at hF
    refine j_iload hJ dX12_like_183 3 rfl ?_
    refine j_if_eq hJ 298 gx5 dX12_like_185 (by decide) (fun z1 => ?_) (fun z1 => ?_)
    · have hF := hF.1 z1
      exact j_sub hJ [0, 1, 2, 3, 4] rfl (k_X12_like_b298 hin  hJ hK87 x1 x3 x5 x6 _ gx1 gx3 gx5 gx6 hF)
    · have hF := hF.2 z1
      refine j_iload hJ dX12_like_188 7 rfl ?_
      refine j_aload_n hJ dX12_like_190 rfl 0 rfl ?_
      refine j_iload_n hJ dX12_like_191 rfl 1 rfl ?_
      refine j_iload hJ dX12_like_192 5 rfl ?_
      refine j_callVi hJ (c_X12_slotsIn (l := l) (D := D) (cy := cy) (ad := ad) hin) rfl om_1165 ⟨rfl, rfl, Nat.le_of_ble_eq_true rfl, Nat.le_of_ble_eq_true rfl⟩ [.int (Ii x1), .int (Ii x7)] mv_X12_570 hd_X12_slotsInv kR_0 rfl rfl rfl (Nat.le_of_ble_eq_true rfl) dX12_like_194 ⟨x1, x7, rfl, gx1, gx7, hF⟩ (fun r2 M3 gr2 qM3 => ?_)
      have hF := qM3 gr2
      refine j_icmp_ge hJ 298 gx9 gr2 dX12_like_197 (by decide) (fun z4 => ?_) (fun z4 => ?_)
      · have hF := hF.1 z4
        exact j_sub hJ [0, 1, 2, 3, 4] rfl (k_X12_like_b298 hin  hJ hK87 x1 x3 x5 x6 _ gx1 gx3 gx5 gx6 hF)
      · have hF := hF.2 z4
        refine j_aload_n hJ dX12_like_200 rfl 0 rfl ?_
        refine j_iload_n hJ dX12_like_201 rfl 1 rfl ?_
        refine j_iload hJ dX12_like_202 5 rfl ?_
        refine j_iload hJ dX12_like_204 7 rfl ?_
        refine j_callVl hJ (c_X12_valueIn (l := l) (D := D) (cy := cy) (ad := ad) hin) rfl om_1173 ⟨rfl, rfl, Nat.le_of_ble_eq_true rfl, Nat.le_of_ble_eq_true rfl⟩ [.int (Ii x1), .int (Ii x7), .int (Ii x9)] mv_X12_577 hd_X12_valueInv kR_0 rfl rfl rfl (Nat.le_of_ble_eq_true rfl) dX12_like_206 ⟨x1, x7, x9, rfl, gx1, gx7, gx9, hF⟩ (fun r5 M6 gr5 qM6 => ?_)
        have hF := qM6 gr5
        refine j_lstore (lv' := [(10, .long (Ll r5)), (0, .ref (ad 0)), (1, .int (Ii x1)), (3, .int (Ii x3)), (5, .int (Ii x5)), (6, .int (Ii x6)), (7, .int (Ii x7)), (8, .int (Ii x8)), (9, .int (Ii x9))]) hJ dX12_like_209 (by decide) rfl ?_
        refine j_aload_n hJ dX12_like_211 rfl 1 rfl ?_
        refine j_iload_n hJ dX12_like_212 rfl 3 rfl ?_
        refine j_iload hJ dX12_like_213 7 rfl ?_
        refine j_iload hJ dX12_like_215 8 rfl ?_
        refine j_callVl hJ (c_X12_valueIn (l := l) (D := D) (cy := cy) (ad := ad) hin) rfl om_1173 ⟨rfl, rfl, Nat.le_of_ble_eq_true rfl, Nat.le_of_ble_eq_true rfl⟩ [.int (Ii x3), .int (Ii x8), .int (Ii x9)] mv_X12_577 hd_X12_valueInv kR_0 rfl rfl rfl (Nat.le_of_ble_eq_true rfl) dX12_like_217 ⟨x3, x8, x9, rfl, gx3, gx8, gx9, hF⟩ (fun r7 M8 gr7 qM8 => ?_)
        have hF := qM8 gr7
        refine j_lstore (lv' := [(12, .long (Ll r7)), (10, .long (Ll r5)), (0, .ref (ad 0)), (1, .int (Ii x1)), (3, .int (Ii x3)), (5, .int (Ii x5)), (6, .int (Ii x6)), (7, .int (Ii x7)), (8, .int (Ii x8)), (9, .int (Ii x9))]) hJ dX12_like_220 (by decide) rfl ?_
        refine j_aload_n hJ dX12_like_222 rfl 2 rfl ?_
        refine j_iload_n hJ dX12_like_223 rfl 3 rfl ?_
        refine j_iload hJ dX12_like_224 7 rfl ?_
        refine j_iload hJ dX12_like_226 9 rfl ?_
        refine j_callVz hJ (c_X12_linksIn (l := l) (D := D) (cy := cy) (ad := ad) hin) rfl om_1169 ⟨rfl, rfl, Nat.le_of_ble_eq_true rfl, Nat.le_of_ble_eq_true rfl⟩ [.int (Ii x1), .int (Ii x7), .int (Ii x9)] mv_X12_573 hd_X12_linksInv kR_0 rfl rfl rfl (Nat.le_of_ble_eq_true rfl) dX12_like_228 ⟨x1, x7, x9, rfl, gx1, gx7, gx9, hF⟩ (fun r9 M10 gr9 qM10 => ?_)
        have hF := qM10 gr9
        refine j_if_eq hJ 256 (jz_ri gr9) dX12_like_231 (by decide) (fun z11 => ?_) (fun z11 => ?_)
        · have hF := hF.1 z11
          exact j_sub hJ [2, 3, 4, 6, 7, 8, 9, 1, 0] rfl (k_X12_like_b256 hin  hJ hK87 ih x1 x3 x6 x7 x8 x9 r5 r7 _ gx1 gx3 gx6 gx7 gx8 gx9 gr5 gr7 hF)
        · have hF := hF.2 z11
          refine j_lload hJ dX12_like_234 1 rfl ?_
          refine j_ldc2 hJ (-1) om_1068 (by decide) dX12_like_236 ?_
          refine j_lcmp_eq hJ 256 gr5 lk_m1 dX12_like_239 dX12_like_240 (by decide) (fun z12 => ?_) (fun z12 => ?_)
          · have hF := hF.1 z12
            exact j_sub hJ [2, 3, 4, 6, 7, 8, 9, 1, 0] rfl (k_X12_like_b256 hin  hJ hK87 ih x1 x3 x6 x7 x8 x9 r5 r7 _ gx1 gx3 gx6 gx7 gx8 gx9 gr5 gr7 hF)
          · have hF := hF.2 z12
            refine j_lload hJ dX12_like_243 0 rfl ?_
            refine j_ldc2 hJ (-1) om_1068 (by decide) dX12_like_245 ?_
            refine j_lcmp_eq hJ 256 gr7 lk_m1 dX12_like_248 dX12_like_249 (by decide) (fun z13 => ?_) (fun z13 => ?_)
            · have hF := hF.1 z13
              exact j_sub hJ [2, 3, 4, 6, 7, 8, 9, 1, 0] rfl (k_X12_like_b256 hin  hJ hK87 ih x1 x3 x6 x7 x8 x9 r5 r7 _ gx1 gx3 gx6 gx7 gx8 gx9 gr5 gr7 hF)
            · have hF := hF.2 z13
              refine j_iconst hJ dX12_like_252 ?_
              refine j_goto hJ 257 dX12_like_253 (by decide) ?_
              exact j_sub hJ [2, 3, 4, 6, 7, 8, 9, 1, 0] rfl (k_X12_like_b257 hin  hJ hK87 ih x1 x3 x6 x7 x8 x9 r5 r7 1 _ gx1 gx3 gx6 gx7 gx8 gx9 gr5 gr7 rk_1 hF)
  intro x1 x3 x5 x6 x7 x8 x9 M gx1 gx3 gx5 gx6 gx7 gx8 gx9 hF
  obtain ⟨n, hF⟩ := hF
  exact H9 n x1 x3 x5 x6 x7 x8 x9 M gx1 gx3 gx5 gx6 gx7 gx8 gx9 hF
set_option maxHeartbeats 4000000 in
set_option maxRecDepth 100000 in
theorem k_X12_like_b178 {l : Launch} {D : va_G} {cy : Nat → ClassId} {ad : Nat → Nat} {Q : Int → MM → Prop} {J : Nat → List (Nat × Value) → List Value → MM → Prop} (hin : jIn ad ksR.length)   (hJ : jOk l D vwCl (tyR cy) cy ad ftR ksR (XtR ad) Om RX12 cX12_like 15 3 ({ frames := 3, cells := 0, slots := 0, locals := 70 } : Room) Q J) {K87 : Int → Int → Int → Int → MM → Prop} (hK87 : ∀ (x1 x3 x5 x6 : Int) (M : MM), ri_ x1 → ri_ x3 → ri_ x5 → ri_ x6 → K87 x1 x3 x5 x6 M → J 87 [(0, .ref (ad 0)), (1, .int (Ii x1)), (3, .int (Ii x3)), (5, .int (Ii x5)), (6, .int (Ii x6))] [] M) : ∀ (x1 x3 x6 x7 x8 s0 : Int) (M : MM), ri_ x1 → ri_ x3 → ri_ x6 → ri_ x7 → ri_ x8 → ri_ s0 → w_X12_like_b178  Q K87 x1 x3 x6 x7 x8 s0 M → J 178 [(0, .ref (ad 0)), (1, .int (Ii x1)), (3, .int (Ii x3)), (6, .int (Ii x6)), (7, .int (Ii x7)), (8, .int (Ii x8))] [.int (Ii s0)] M := by
  intro x1 x3 x6 x7 x8 s0 M gx1 gx3 gx6 gx7 gx8 gs0 hF
  unfold w_X12_like_b178 at hF
  refine j_istore (lv' := [(5, .int (Ii s0)), (0, .ref (ad 0)), (1, .int (Ii x1)), (3, .int (Ii x3)), (6, .int (Ii x6)), (7, .int (Ii x7)), (8, .int (Ii x8))]) hJ dX12_like_178 (by decide) rfl ?_
  refine j_iconst hJ dX12_like_180 ?_
  refine j_istore (lv' := [(9, .int (Ii 0)), (5, .int (Ii s0)), (0, .ref (ad 0)), (1, .int (Ii x1)), (3, .int (Ii x3)), (6, .int (Ii x6)), (7, .int (Ii x7)), (8, .int (Ii x8))]) hJ dX12_like_181 (by decide) rfl ?_
  exact j_sub hJ [2, 3, 4, 1, 5, 6, 7, 0] rfl (k_X12_like_b183 hin  hJ hK87 x1 x3 s0 x6 x7 x8 0 _ gx1 gx3 gs0 gx6 gx7 gx8 rk_0 hF)
set_option maxHeartbeats 4000000 in
set_option maxRecDepth 100000 in
theorem k_X12_like_b177 {l : Launch} {D : va_G} {cy : Nat → ClassId} {ad : Nat → Nat} {Q : Int → MM → Prop} {J : Nat → List (Nat × Value) → List Value → MM → Prop} (hin : jIn ad ksR.length)   (hJ : jOk l D vwCl (tyR cy) cy ad ftR ksR (XtR ad) Om RX12 cX12_like 15 3 ({ frames := 3, cells := 0, slots := 0, locals := 70 } : Room) Q J) {K87 : Int → Int → Int → Int → MM → Prop} (hK87 : ∀ (x1 x3 x5 x6 : Int) (M : MM), ri_ x1 → ri_ x3 → ri_ x5 → ri_ x6 → K87 x1 x3 x5 x6 M → J 87 [(0, .ref (ad 0)), (1, .int (Ii x1)), (3, .int (Ii x3)), (5, .int (Ii x5)), (6, .int (Ii x6))] [] M) : ∀ (x1 x3 x6 x7 x8 : Int) (M : MM), ri_ x1 → ri_ x3 → ri_ x6 → ri_ x7 → ri_ x8 → w_X12_like_b177  Q K87 x1 x3 x6 x7 x8 M → J 177 [(0, .ref (ad 0)), (1, .int (Ii x1)), (3, .int (Ii x3)), (6, .int (Ii x6)), (7, .int (Ii x7)), (8, .int (Ii x8))] [] M := by
  intro x1 x3 x6 x7 x8 M gx1 gx3 gx6 gx7 gx8 hF
  unfold w_X12_like_b177 at hF
  refine j_iconst hJ dX12_like_177 ?_
  exact j_sub hJ [0, 1, 2, 3, 4, 5] rfl (k_X12_like_b178 hin  hJ hK87 x1 x3 x6 x7 x8 0 _ gx1 gx3 gx6 gx7 gx8 rk_0 hF)
set_option maxHeartbeats 4000000 in
set_option maxRecDepth 100000 in
theorem k_X12_like_b87 {l : Launch} {D : va_G} {cy : Nat → ClassId} {ad : Nat → Nat} {Q : Int → MM → Prop} {J : Nat → List (Nat × Value) → List Value → MM → Prop} (hin : jIn ad ksR.length)   (hJ : jOk l D vwCl (tyR cy) cy ad ftR ksR (XtR ad) Om RX12 cX12_like 15 3 ({ frames := 3, cells := 0, slots := 0, locals := 70 } : Room) Q J)  : ∀ (x1 x3 x5 x6 : Int) (M : MM), ri_ x1 → ri_ x3 → ri_ x5 → ri_ x6 → w_X12_like_b87  Q  x1 x3 x5 x6 M → J 87 [(0, .ref (ad 0)), (1, .int (Ii x1)), (3, .int (Ii x3)), (5, .int (Ii x5)), (6, .int (Ii x6))] [] M := by
  have H9 : ∀ (n : Nat) (x1 x3 x5 x6 : Int) (M : MM), ri_ x1 → ri_ x3 → ri_ x5 → ri_ x6 → jit (fun _ _ _ _ _ => False) (wb_X12_like_b87  Q ) n x1 x3 x5 x6 M → J 87 [(0, .ref (ad 0)), (1, .int (Ii x1)), (3, .int (Ii x3)), (5, .int (Ii x5)), (6, .int (Ii x6))] [] M := by
    intro n
    induction n with
    | zero => intro x1 x3 x5 x6 M gx1 gx3 gx5 gx6 hF; exact False.elim hF
    | succ n ih =>
    intro x1 x3 x5 x6 M gx1 gx3 gx5 gx6 hF
    have hF : wb_X12_like_b87  Q  (jit (fun _ _ _ _ _ => False) (wb_X12_like_b87  Q ) n) x1 x3 x5 x6 M := hF
    unfold wb_X12_like_b87 at hF
    refine j_iload hJ dX12_like_87 4 rfl ?_
    refine j_aload_n hJ dX12_like_89 rfl 0 rfl ?_
    refine j_gi hJ kR_0 fR_15_73 rfl fl_X12_581 dX12_like_90 (fun v1 ev1 gv1 => ?_)
    have hF := hF v1 ev1 gv1
    refine j_icmp_ge hJ 304 gx6 gv1 dX12_like_93 (by decide) (fun z2 => ?_) (fun z2 => ?_)
    · have hF := hF.1 z2
      refine j_iload hJ dX12_like_304 3 rfl ?_
      exact j_zret hJ rfl hF.1 dX12_like_306 hF.2
    · have hF := hF.2 z2
      refine j_iload hJ dX12_like_96 3 rfl ?_
      refine j_if_eq hJ 304 gx5 dX12_like_98 (by decide) (fun z3 => ?_) (fun z3 => ?_)
      · have hF := hF.1 z3
        refine j_iload hJ dX12_like_304 3 rfl ?_
        exact j_zret hJ rfl hF.1 dX12_like_306 hF.2
      · have hF := hF.2 z3
        refine j_aload_n hJ dX12_like_101 rfl 0 rfl ?_
        refine j_gr (e := 62) hJ kR_0 fR_15_72 fl_X12_256 dX12_like_102 rfl ?_
        refine j_iload hJ dX12_like_105 4 rfl ?_
        refine j_iald hJ gx6 kR_62 hF.1 hF.2.1 dX12_like_107 (fun v4 ev4 gv4 => ?_)
        have hF := hF.2.2 v4 ev4 gv4
        refine j_istore (lv' := [(7, .int (Ii v4)), (0, .ref (ad 0)), (1, .int (Ii x1)), (3, .int (Ii x3)), (5, .int (Ii x5)), (6, .int (Ii x6))]) hJ dX12_like_108 (by decide) rfl ?_
        refine j_aload_n hJ dX12_like_110 rfl 1 rfl ?_
        refine j_gr (e := 64) hJ kR_0 fR_15_76 fl_X12_262 dX12_like_111 rfl ?_
        refine j_iload hJ dX12_like_114 0 rfl ?_
        refine j_iald hJ gv4 kR_64 hF.1 hF.2.1 dX12_like_116 (fun v5 ev5 gv5 => ?_)
        have hF := hF.2.2 v5 ev5 gv5
        refine j_istore (lv' := [(8, .int (Ii v5)), (7, .int (Ii v4)), (0, .ref (ad 0)), (1, .int (Ii x1)), (3, .int (Ii x3)), (5, .int (Ii x5)), (6, .int (Ii x6))]) hJ dX12_like_117 (by decide) rfl ?_
        refine j_aload_n hJ dX12_like_119 rfl 2 rfl ?_
        refine j_gr (e := 40) hJ kR_0 fR_15_50 fl_X12_189 dX12_like_120 rfl ?_
        refine j_aload_n hJ dX12_like_123 rfl 2 rfl ?_
        refine j_iload_n hJ dX12_like_124 rfl 3 rfl ?_
        refine j_iload hJ dX12_like_125 1 rfl ?_
        refine j_callVi hJ (c_X12_at (l := l) (D := D) (cy := cy) (ad := ad) hin) rfl om_1153 ⟨rfl, rfl, Nat.le_of_ble_eq_true rfl, Nat.le_of_ble_eq_true rfl⟩ [.int (Ii x1), .int (Ii v4)] mv_X12_545 hd_X12_atv kR_0 rfl rfl rfl (Nat.le_of_ble_eq_true rfl) dX12_like_127 ⟨x1, v4, rfl, gx1, gv4, hF⟩ (fun r6 M7 gr6 qM7 => ?_)
        have hF := qM7 gr6
        refine j_iald hJ gr6 kR_40 hF.1 hF.2.1 dX12_like_130 (fun v8 ev8 gv8 => ?_)
        have hF := hF.2.2 v8 ev8 gv8
        refine j_aload_n hJ dX12_like_131 rfl 2 rfl ?_
        refine j_gr (e := 40) hJ kR_0 fR_15_50 fl_X12_189 dX12_like_132 rfl ?_
        refine j_aload_n hJ dX12_like_135 rfl 2 rfl ?_
        refine j_iload_n hJ dX12_like_136 rfl 4 rfl ?_
        refine j_iload hJ dX12_like_137 0 rfl ?_
        refine j_callVi hJ (c_X12_at (l := l) (D := D) (cy := cy) (ad := ad) hin) rfl om_1153 ⟨rfl, rfl, Nat.le_of_ble_eq_true rfl, Nat.le_of_ble_eq_true rfl⟩ [.int (Ii x3), .int (Ii v5)] mv_X12_545 hd_X12_atv kR_0 rfl rfl rfl (Nat.le_of_ble_eq_true rfl) dX12_like_139 ⟨x3, v5, rfl, gx3, gv5, hF⟩ (fun r9 M10 gr9 qM10 => ?_)
        have hF := qM10 gr9
        refine j_iald hJ gr9 kR_40 hF.1 hF.2.1 dX12_like_142 (fun v11 ev11 gv11 => ?_)
        have hF := hF.2.2 v11 ev11 gv11
        refine j_icmp_ne hJ 177 gv8 gv11 dX12_like_143 (by decide) (fun z12 => ?_) (fun z12 => ?_)
        · have hF := hF.1 z12
          exact j_sub hJ [2, 3, 4, 6, 1, 0] rfl (k_X12_like_b177 hin  hJ ih x1 x3 x6 v4 v5 _ gx1 gx3 gx6 gv4 gv5 hF)
        · have hF := hF.2 z12
          refine j_aload_n hJ dX12_like_146 rfl 2 rfl ?_
          refine j_gr (e := 41) hJ kR_0 fR_15_51 fl_X12_192 dX12_like_147 rfl ?_
          refine j_aload_n hJ dX12_like_150 rfl 2 rfl ?_
          refine j_iload_n hJ dX12_like_151 rfl 3 rfl ?_
          refine j_iload hJ dX12_like_152 1 rfl ?_
          refine j_callVi hJ (c_X12_at (l := l) (D := D) (cy := cy) (ad := ad) hin) rfl om_1153 ⟨rfl, rfl, Nat.le_of_ble_eq_true rfl, Nat.le_of_ble_eq_true rfl⟩ [.int (Ii x1), .int (Ii v4)] mv_X12_545 hd_X12_atv kR_0 rfl rfl rfl (Nat.le_of_ble_eq_true rfl) dX12_like_154 ⟨x1, v4, rfl, gx1, gv4, hF⟩ (fun r13 M14 gr13 qM14 => ?_)
          have hF := qM14 gr13
          refine j_iald hJ gr13 kR_41 hF.1 hF.2.1 dX12_like_157 (fun v15 ev15 gv15 => ?_)
          have hF := hF.2.2 v15 ev15 gv15
          refine j_aload_n hJ dX12_like_158 rfl 2 rfl ?_
          refine j_gr (e := 41) hJ kR_0 fR_15_51 fl_X12_192 dX12_like_159 rfl ?_
          refine j_aload_n hJ dX12_like_162 rfl 2 rfl ?_
          refine j_iload_n hJ dX12_like_163 rfl 4 rfl ?_
          refine j_iload hJ dX12_like_164 0 rfl ?_
          refine j_callVi hJ (c_X12_at (l := l) (D := D) (cy := cy) (ad := ad) hin) rfl om_1153 ⟨rfl, rfl, Nat.le_of_ble_eq_true rfl, Nat.le_of_ble_eq_true rfl⟩ [.int (Ii x3), .int (Ii v5)] mv_X12_545 hd_X12_atv kR_0 rfl rfl rfl (Nat.le_of_ble_eq_true rfl) dX12_like_166 ⟨x3, v5, rfl, gx3, gv5, hF⟩ (fun r16 M17 gr16 qM17 => ?_)
          have hF := qM17 gr16
          refine j_iald hJ gr16 kR_41 hF.1 hF.2.1 dX12_like_169 (fun v18 ev18 gv18 => ?_)
          have hF := hF.2.2 v18 ev18 gv18
          refine j_icmp_ne hJ 177 gv15 gv18 dX12_like_170 (by decide) (fun z19 => ?_) (fun z19 => ?_)
          · have hF := hF.1 z19
            exact j_sub hJ [2, 3, 4, 6, 1, 0] rfl (k_X12_like_b177 hin  hJ ih x1 x3 x6 v4 v5 _ gx1 gx3 gx6 gv4 gv5 hF)
          · have hF := hF.2 z19
            refine j_iconst hJ dX12_like_173 ?_
            refine j_goto hJ 178 dX12_like_174 (by decide) ?_
            exact j_sub hJ [2, 3, 4, 6, 1, 0] rfl (k_X12_like_b178 hin  hJ ih x1 x3 x6 v4 v5 1 _ gx1 gx3 gx6 gv4 gv5 rk_1 hF)
  intro x1 x3 x5 x6 M gx1 gx3 gx5 gx6 hF
  obtain ⟨n, hF⟩ := hF
  exact H9 n x1 x3 x5 x6 M gx1 gx3 gx5 gx6 hF
set_option maxHeartbeats 4000000 in
set_option maxRecDepth 100000 in
theorem k_X12_like_b40 {l : Launch} {D : va_G} {cy : Nat → ClassId} {ad : Nat → Nat} {Q : Int → MM → Prop} {J : Nat → List (Nat × Value) → List Value → MM → Prop} (hin : jIn ad ksR.length)   (hJ : jOk l D vwCl (tyR cy) cy ad ftR ksR (XtR ad) Om RX12 cX12_like 15 3 ({ frames := 3, cells := 0, slots := 0, locals := 70 } : Room) Q J)  : ∀ (x1 x2 x3 x4 x5 : Int) (M : MM), ri_ x1 → ri_ x2 → ri_ x3 → ri_ x4 → ri_ x5 → w_X12_like_b40  Q  x1 x2 x3 x4 x5 M → J 40 [(0, .ref (ad 0)), (1, .int (Ii x1)), (2, .int (Ii x2)), (3, .int (Ii x3)), (4, .int (Ii x4)), (5, .int (Ii x5))] [] M := by
  have H9 : ∀ (n : Nat) (x1 x2 x3 x4 x5 : Int) (M : MM), ri_ x1 → ri_ x2 → ri_ x3 → ri_ x4 → ri_ x5 → jit (fun _ _ _ _ _ _ => False) (wb_X12_like_b40  Q ) n x1 x2 x3 x4 x5 M → J 40 [(0, .ref (ad 0)), (1, .int (Ii x1)), (2, .int (Ii x2)), (3, .int (Ii x3)), (4, .int (Ii x4)), (5, .int (Ii x5))] [] M := by
    intro n
    induction n with
    | zero => intro x1 x2 x3 x4 x5 M gx1 gx2 gx3 gx4 gx5 hF; exact False.elim hF
    | succ n ih =>
    intro x1 x2 x3 x4 x5 M gx1 gx2 gx3 gx4 gx5 hF
    have hF : wb_X12_like_b40  Q  (jit (fun _ _ _ _ _ _ => False) (wb_X12_like_b40  Q ) n) x1 x2 x3 x4 x5 M := hF
    unfold wb_X12_like_b40 at hF
    refine j_iload hJ dX12_like_40 5 rfl ?_
    refine j_sipush hJ dX12_like_42 (by decide) ?_
    refine j_icmp_ge hJ 70 gx5 rk_400 dX12_like_45 (by decide) (fun z1 => ?_) (fun z1 => ?_)
    · have hF := hF.1 z1
      refine j_aload_n hJ dX12_like_70 rfl 0 rfl ?_
      refine j_iconst hJ dX12_like_71 ?_
      refine j_pi hJ rk_0 kR_0 fR_15_73 rfl fp_X12_581 dX12_like_72 (fun M2 eM2 => ?_)
      have hF := hF M2 eM2
      refine j_aload_n hJ dX12_like_75 rfl 0 rfl ?_
      refine j_iload_n hJ dX12_like_76 rfl 2 rfl ?_
      refine j_iload hJ dX12_like_77 4 rfl ?_
      refine j_callVz hJ (c_X12_pair (l := l) (D := D) (cy := cy) (ad := ad) hin) rfl om_1340 ⟨rfl, rfl, Nat.le_of_ble_eq_true rfl, Nat.le_of_ble_eq_true rfl⟩ [.int (Ii x2), .int (Ii x4)] mv_X12_622 hd_X12_pairv kR_0 rfl rfl rfl (Nat.le_of_ble_eq_true rfl) dX12_like_79 ⟨x2, x4, rfl, gx2, gx4, hF⟩ (fun r3 M4 gr3 qM4 => ?_)
      have hF := qM4 gr3
      refine j_istore (lv' := [(5, .int (Ii r3)), (0, .ref (ad 0)), (1, .int (Ii x1)), (2, .int (Ii x2)), (3, .int (Ii x3)), (4, .int (Ii x4))]) hJ dX12_like_82 (by decide) rfl ?_
      refine j_iconst hJ dX12_like_84 ?_
      refine j_istore (lv' := [(6, .int (Ii 0)), (5, .int (Ii r3)), (0, .ref (ad 0)), (1, .int (Ii x1)), (2, .int (Ii x2)), (3, .int (Ii x3)), (4, .int (Ii x4))]) hJ dX12_like_85 (by decide) rfl ?_
      exact j_sub hJ [2, 3, 5, 1, 0] rfl (k_X12_like_b87 hin  hJ  x1 x3 r3 0 _ gx1 gx3 (jz_ri gr3) rk_0 hF)
    · have hF := hF.2 z1
      refine j_aload_n hJ dX12_like_48 rfl 0 rfl ?_
      refine j_gr (e := 64) hJ kR_0 fR_15_76 fl_X12_262 dX12_like_49 rfl ?_
      refine j_iload hJ dX12_like_52 5 rfl ?_
      refine j_iconst hJ dX12_like_54 ?_
      refine j_iast hJ gx5 rk_m1 kR_64 hF.1 hF.2.1 dX12_like_55 (fun M5 eM5 => ?_)
      have hF := hF.2.2 M5 eM5
      refine j_aload_n hJ dX12_like_56 rfl 0 rfl ?_
      refine j_gr (e := 65) hJ kR_0 fR_15_77 fl_X12_265 dX12_like_57 rfl ?_
      refine j_iload hJ dX12_like_60 5 rfl ?_
      refine j_iconst hJ dX12_like_62 ?_
      refine j_iast hJ gx5 rk_m1 kR_65 hF.1 hF.2.1 dX12_like_63 (fun M6 eM6 => ?_)
      have hF := hF.2.2 M6 eM6
      refine j_iinc (lv' := [(5, .int (Ii (x5 + 1))), (0, .ref (ad 0)), (1, .int (Ii x1)), (2, .int (Ii x2)), (3, .int (Ii x3)), (4, .int (Ii x4))]) (k := 5) hJ dX12_like_64 rfl (by decide) rfl ?_
      have g7 := hF.1; have hF := hF.2
      refine j_goto hJ 40 dX12_like_67 (by decide) ?_
      exact j_sub hJ [1, 2, 3, 4, 5, 0] rfl (ih x1 x2 x3 x4 (x5 + 1) _ gx1 gx2 gx3 gx4 g7 hF)
  intro x1 x2 x3 x4 x5 M gx1 gx2 gx3 gx4 gx5 hF
  obtain ⟨n, hF⟩ := hF
  exact H9 n x1 x2 x3 x4 x5 M gx1 gx2 gx3 gx4 gx5 hF
set_option maxHeartbeats 4000000 in
set_option maxRecDepth 100000 in
theorem k_X12_like_b25 {l : Launch} {D : va_G} {cy : Nat → ClassId} {ad : Nat → Nat} {Q : Int → MM → Prop} {J : Nat → List (Nat × Value) → List Value → MM → Prop} (hin : jIn ad ksR.length)   (hJ : jOk l D vwCl (tyR cy) cy ad ftR ksR (XtR ad) Om RX12 cX12_like 15 3 ({ frames := 3, cells := 0, slots := 0, locals := 70 } : Room) Q J)  : ∀ (x1 x2 x3 x4 s0 : Int) (M : MM), ri_ x1 → ri_ x2 → ri_ x3 → ri_ x4 → ri_ s0 → w_X12_like_b25  Q  x1 x2 x3 x4 s0 M → J 25 [(0, .ref (ad 0)), (1, .int (Ii x1)), (2, .int (Ii x2)), (3, .int (Ii x3)), (4, .int (Ii x4))] [.int (Ii s0), .ref (ad 0)] M := by
  intro x1 x2 x3 x4 s0 M gx1 gx2 gx3 gx4 gs0 hF
  unfold w_X12_like_b25 at hF
  refine j_pi hJ gs0 kR_0 fR_15_0 rfl fp_X12_388 dX12_like_25 (fun M1 eM1 => ?_)
  have hF := hF M1 eM1
  refine j_aload_n hJ dX12_like_28 rfl 0 rfl ?_
  refine j_gi hJ kR_0 fR_15_0 rfl fl_X12_388 dX12_like_29 (fun v2 ev2 gv2 => ?_)
  have hF := hF v2 ev2 gv2
  refine j_if_le hJ 37 gv2 dX12_like_32 (by decide) (fun z3 => ?_) (fun z3 => ?_)
  · have hF := hF.1 z3
    refine j_iconst hJ dX12_like_37 ?_
    refine j_istore (lv' := [(5, .int (Ii 0)), (0, .ref (ad 0)), (1, .int (Ii x1)), (2, .int (Ii x2)), (3, .int (Ii x3)), (4, .int (Ii x4))]) hJ dX12_like_38 (by decide) rfl ?_
    exact j_sub hJ [1, 2, 3, 4, 5, 0] rfl (k_X12_like_b40 hin  hJ  x1 x2 x3 x4 0 _ gx1 gx2 gx3 gx4 rk_0 hF)
  · have hF := hF.2 z3
    refine j_iconst hJ dX12_like_35 ?_
    exact j_zret hJ rfl (by decide) dX12_like_36 hF
set_option maxHeartbeats 4000000 in
set_option maxRecDepth 100000 in
theorem k_X12_like_b20 {l : Launch} {D : va_G} {cy : Nat → ClassId} {ad : Nat → Nat} {Q : Int → MM → Prop} {J : Nat → List (Nat × Value) → List Value → MM → Prop} (hin : jIn ad ksR.length)   (hJ : jOk l D vwCl (tyR cy) cy ad ftR ksR (XtR ad) Om RX12 cX12_like 15 3 ({ frames := 3, cells := 0, slots := 0, locals := 70 } : Room) Q J)  : ∀ (x1 x2 x3 x4 : Int) (M : MM), ri_ x1 → ri_ x2 → ri_ x3 → ri_ x4 → w_X12_like_b20  Q  x1 x2 x3 x4 M → J 20 [(0, .ref (ad 0)), (1, .int (Ii x1)), (2, .int (Ii x2)), (3, .int (Ii x3)), (4, .int (Ii x4))] [.ref (ad 0)] M := by
  intro x1 x2 x3 x4 M gx1 gx2 gx3 gx4 hF
  unfold w_X12_like_b20 at hF
  refine j_iconst hJ dX12_like_20 ?_
  refine j_goto hJ 25 dX12_like_21 (by decide) ?_
  exact j_sub hJ [0, 1, 2, 3, 4] rfl (k_X12_like_b25 hin  hJ  x1 x2 x3 x4 1 _ gx1 gx2 gx3 gx4 rk_1 hF)
set_option maxHeartbeats 4000000 in
set_option maxRecDepth 100000 in
theorem c_X12_like {l : Launch} {D : va_G} {cy : Nat → ClassId} {ad : Nat → Nat} (hin : jIn ad ksR.length) : jCN l D vwCl (tyR cy) cy ad ftR ksR (XtR ad) yX12_like (.code yX12_like cX12_like 15 (some .boolean) :: Om) ({ frames := 3, cells := 0, slots := 0, locals := 70 } : Room) 3 (W_X12_like ad) := by
  refine jCN_of (y := yX12_like) (cc := cX12_like) (nL := 15) (rk := 3) (rm := ({ frames := 3, cells := 0, slots := 0, locals := 70 } : Room)) (own := RX12) (tyR_ok cy) hin (XtR_ok ad) Om_good (by decide) rfl ?_
  intro Q av M hF
  obtain ⟨p1, p2, p3, p4, rfl, gp1, gp2, gp3, gp4, hF⟩ := hF
  refine ⟨Nat.le_of_ble_eq_true rfl, fun J hJ => ?_⟩
  show J 0 [(0, .ref (ad 0)), (1, .int (Ii p1)), (2, .int (Ii p2)), (3, .int (Ii p3)), (4, .int (Ii p4))] [] M
  unfold w_X12_like at hF
  refine j_aload_n hJ dX12_like_0 rfl 0 rfl ?_
  refine j_aload_n hJ dX12_like_1 rfl 0 rfl ?_
  refine j_iload_n hJ dX12_like_2 rfl 1 rfl ?_
  refine j_iload_n hJ dX12_like_3 rfl 2 rfl ?_
  refine j_callVz hJ (c_X12_isThing (l := l) (D := D) (cy := cy) (ad := ad) hin) rfl om_1316 ⟨rfl, rfl, Nat.le_of_ble_eq_true rfl, Nat.le_of_ble_eq_true rfl⟩ [.int (Ii p1), .int (Ii p2)] mv_X12_600 hd_X12_isThingv kR_0 rfl rfl rfl (Nat.le_of_ble_eq_true rfl) dX12_like_4 ⟨p1, p2, rfl, gp1, gp2, hF⟩ (fun r1 M2 gr1 qM2 => ?_)
  have hF := qM2 gr1
  refine j_if_eq hJ 20 (jz_ri gr1) dX12_like_7 (by decide) (fun z3 => ?_) (fun z3 => ?_)
  · have hF := hF.1 z3
    exact j_sub hJ [0, 1, 2, 3, 4] rfl (k_X12_like_b20 hin  hJ  p1 p2 p3 p4 _ gp1 gp2 gp3 gp4 hF)
  · have hF := hF.2 z3
    refine j_aload_n hJ dX12_like_10 rfl 0 rfl ?_
    refine j_iload_n hJ dX12_like_11 rfl 3 rfl ?_
    refine j_iload hJ dX12_like_12 4 rfl ?_
    refine j_callVz hJ (c_X12_isThing (l := l) (D := D) (cy := cy) (ad := ad) hin) rfl om_1316 ⟨rfl, rfl, Nat.le_of_ble_eq_true rfl, Nat.le_of_ble_eq_true rfl⟩ [.int (Ii p3), .int (Ii p4)] mv_X12_600 hd_X12_isThingv kR_0 rfl rfl rfl (Nat.le_of_ble_eq_true rfl) dX12_like_14 ⟨p3, p4, rfl, gp3, gp4, hF⟩ (fun r4 M5 gr4 qM5 => ?_)
    have hF := qM5 gr4
    refine j_if_ne hJ 24 (jz_ri gr4) dX12_like_17 (by decide) (fun z6 => ?_) (fun z6 => ?_)
    · have hF := hF.1 z6
      refine j_iconst hJ dX12_like_24 ?_
      exact j_sub hJ [0, 1, 2, 3, 4] rfl (k_X12_like_b25 hin  hJ  p1 p2 p3 p4 0 _ gp1 gp2 gp3 gp4 rk_0 hF)
    · have hF := hF.2 z6
      exact j_sub hJ [0, 1, 2, 3, 4] rfl (k_X12_like_b20 hin  hJ  p1 p2 p3 p4 _ gp1 gp2 gp3 gp4 hF)
def W_X12_byteAt (ad : Nat → Nat) (Q : Int → MM → Prop) (av : List Value) (M : MM) : Prop := ∃ (p1 : Int), av = [.ref (ad 0), .int (Ii p1)] ∧ ri_ p1 ∧ w_X12_byteAt  Q p1 M
set_option maxHeartbeats 4000000 in
set_option maxRecDepth 100000 in
theorem c_X12_byteAt {l : Launch} {D : va_G} {cy : Nat → ClassId} {ad : Nat → Nat} (hin : jIn ad ksR.length) : jCN l D vwCl (tyR cy) cy ad ftR ksR (XtR ad) yX12_byteAt (.code yX12_byteAt cX12_byteAt 2 (some .int) :: Om) ({ frames := 0, cells := 0, slots := 0, locals := 0 } : Room) 1 (W_X12_byteAt ad) := by
  refine jCN_of (y := yX12_byteAt) (cc := cX12_byteAt) (nL := 2) (rk := 1) (rm := ({ frames := 0, cells := 0, slots := 0, locals := 0 } : Room)) (own := RX12) (tyR_ok cy) hin (XtR_ok ad) Om_good (by decide) rfl ?_
  intro Q av M hF
  obtain ⟨p1, rfl, gp1, hF⟩ := hF
  refine ⟨Nat.le_of_ble_eq_true rfl, fun J hJ => ?_⟩
  show J 0 [(0, .ref (ad 0)), (1, .int (Ii p1))] [] M
  unfold w_X12_byteAt at hF
  refine j_iload_n hJ dX12_byteAt_0 rfl 1 rfl ?_
  refine j_aload_n hJ dX12_byteAt_1 rfl 0 rfl ?_
  refine j_gi hJ kR_0 fR_15_3 rfl fl_X12_391 dX12_byteAt_2 (fun v1 ev1 gv1 => ?_)
  have hF := hF v1 ev1 gv1
  refine j_icmp_ge hJ 21 gp1 gv1 dX12_byteAt_5 (by decide) (fun z2 => ?_) (fun z2 => ?_)
  · have hF := hF.1 z2
    refine j_iconst hJ dX12_byteAt_21 ?_
    exact j_iret hJ rfl rk_m1 dX12_byteAt_22 hF
  · have hF := hF.2 z2
    refine j_aload_n hJ dX12_byteAt_8 rfl 0 rfl ?_
    refine j_gr (e := 1) hJ kR_0 fR_15_1 fl_X12_7 dX12_byteAt_9 rfl ?_
    refine j_iload_n hJ dX12_byteAt_12 rfl 1 rfl ?_
    refine j_bald hJ gp1 kR_1 hF.1 hF.2.1 dX12_byteAt_13 (fun v3 ev3 gv3 => ?_)
    have hF := hF.2.2 v3 ev3 gv3
    refine j_sipush hJ dX12_byteAt_14 (by decide) ?_
    refine j_iand hJ dX12_byteAt_17 ?_
    refine j_goto hJ 22 dX12_byteAt_18 (by decide) ?_
    exact j_iret hJ rfl (ri_of _) dX12_byteAt_22 hF
def W_X12_fail (ad : Nat → Nat) (Q : Int → MM → Prop) (av : List Value) (M : MM) : Prop := ∃ (p1 : Int) (p2 : Int), av = [.ref (ad 0), .int (Ii p1), .int (Ii p2)] ∧ ri_ p1 ∧ ri_ p2 ∧ w_X12_fail  Q p1 p2 M
set_option maxHeartbeats 4000000 in
set_option maxRecDepth 100000 in
theorem c_X12_fail {l : Launch} {D : va_G} {cy : Nat → ClassId} {ad : Nat → Nat} (hin : jIn ad ksR.length) : jCN l D vwCl (tyR cy) cy ad ftR ksR (XtR ad) yX12_fail (.code yX12_fail cX12_fail 3 none :: Om) ({ frames := 0, cells := 0, slots := 0, locals := 0 } : Room) 0 (W_X12_fail ad) := by
  refine jCN_of (y := yX12_fail) (cc := cX12_fail) (nL := 3) (rk := 0) (rm := ({ frames := 0, cells := 0, slots := 0, locals := 0 } : Room)) (own := RX12) (tyR_ok cy) hin (XtR_ok ad) Om_good (by decide) rfl ?_
  intro Q av M hF
  obtain ⟨p1, p2, rfl, gp1, gp2, hF⟩ := hF
  refine ⟨Nat.le_of_ble_eq_true rfl, fun J hJ => ?_⟩
  show J 0 [(0, .ref (ad 0)), (1, .int (Ii p1)), (2, .int (Ii p2))] [] M
  unfold w_X12_fail at hF
  refine j_aload_n hJ dX12_fail_0 rfl 0 rfl ?_
  refine j_gi hJ kR_0 fR_15_83 rfl fl_X12_625 dX12_fail_1 (fun v1 ev1 gv1 => ?_)
  have hF := hF v1 ev1 gv1
  refine j_if_le hJ 8 gv1 dX12_fail_4 (by decide) (fun z2 => ?_) (fun z2 => ?_)
  · have hF := hF.1 z2
    refine j_aload_n hJ dX12_fail_8 rfl 0 rfl ?_
    refine j_iload_n hJ dX12_fail_9 rfl 1 rfl ?_
    refine j_pi hJ gp1 kR_0 fR_15_83 rfl fp_X12_625 dX12_fail_10 (fun M3 eM3 => ?_)
    have hF := hF M3 eM3
    refine j_aload_n hJ dX12_fail_13 rfl 0 rfl ?_
    refine j_iload_n hJ dX12_fail_14 rfl 2 rfl ?_
    refine j_pi hJ gp2 kR_0 fR_15_84 rfl fp_X12_628 dX12_fail_15 (fun M4 eM4 => ?_)
    have hF := hF M4 eM4
    exact j_vret hJ rfl dX12_fail_18 hF
  · have hF := hF.2 z2
    exact j_vret hJ rfl dX12_fail_7 hF
def W_X12_advance (ad : Nat → Nat) (Q : Int → MM → Prop) (av : List Value) (M : MM) : Prop := av = [.ref (ad 0)] ∧ w_X12_advance  Q  M
set_option maxHeartbeats 4000000 in
set_option maxRecDepth 100000 in
theorem k_X12_advance_b33 {l : Launch} {D : va_G} {cy : Nat → ClassId} {ad : Nat → Nat} {Q : Int → MM → Prop} {J : Nat → List (Nat × Value) → List Value → MM → Prop} (hin : jIn ad ksR.length)   (hJ : jOk l D vwCl (tyR cy) cy ad ftR ksR (XtR ad) Om RX12 cX12_advance 5 0 ({ frames := 2, cells := 0, slots := 0, locals := 40 } : Room) Q J) {K9 : Int → MM → Prop} (hK9 : ∀ (x1 : Int) (M : MM), ri_ x1 → K9 x1 M → J 9 [(0, .ref (ad 0)), (1, .int (Ii x1))] [] M) : ∀ (M : MM), w_X12_advance_b33  Q K9  M → J 33 [(0, .ref (ad 0))] [] M := by
  intro  M  hF
  unfold w_X12_advance_b33 at hF
  refine j_aload_n hJ dX12_advance_33 rfl 0 rfl ?_
  refine j_dup hJ dX12_advance_34 rfl ?_
  refine j_gi hJ kR_0 fR_15_78 rfl fl_X12_631 dX12_advance_35 (fun v1 ev1 gv1 => ?_)
  have hF := hF v1 ev1 gv1
  refine j_iconst hJ dX12_advance_38 ?_
  refine j_iadd hJ dX12_advance_39 ?_
  have g2 := hF.1; have hF := hF.2
  refine j_pi hJ g2 kR_0 fR_15_78 rfl fp_X12_631 dX12_advance_40 (fun M3 eM3 => ?_)
  have hF := hF M3 eM3
  refine j_aload_n hJ dX12_advance_43 rfl 0 rfl ?_
  refine j_aload_n hJ dX12_advance_44 rfl 0 rfl ?_
  refine j_gi hJ kR_0 fR_15_78 rfl fl_X12_631 dX12_advance_45 (fun v4 ev4 gv4 => ?_)
  have hF := hF v4 ev4 gv4
  refine j_callVi hJ (c_X12_byteAt (l := l) (D := D) (cy := cy) (ad := ad) hin) rfl om_1344 ⟨rfl, rfl, Nat.le_of_ble_eq_true rfl, Nat.le_of_ble_eq_true rfl⟩ [.int (Ii v4)] mv_X12_634 hd_X12_byteAtv kR_0 rfl rfl rfl (Nat.le_of_ble_eq_true rfl) dX12_advance_48 ⟨v4, rfl, gv4, hF⟩ (fun r5 M6 gr5 qM6 => ?_)
  have hF := qM6 gr5
  refine j_istore_n (lv' := [(1, .int (Ii r5)), (0, .ref (ad 0))]) hJ dX12_advance_51 rfl (by decide) rfl ?_
  refine j_goto hJ 9 dX12_advance_52 (by decide) ?_
  exact j_sub hJ [1, 0] rfl (hK9 r5 _ gr5 hF)
set_option maxHeartbeats 4000000 in
set_option maxRecDepth 100000 in
theorem k_X12_advance_b500 {l : Launch} {D : va_G} {cy : Nat → ClassId} {ad : Nat → Nat} {Q : Int → MM → Prop} {J : Nat → List (Nat × Value) → List Value → MM → Prop} (hin : jIn ad ksR.length)   (hJ : jOk l D vwCl (tyR cy) cy ad ftR ksR (XtR ad) Om RX12 cX12_advance 5 0 ({ frames := 2, cells := 0, slots := 0, locals := 40 } : Room) Q J)  : ∀ (s0 s1 : Int) (M : MM), ri_ s0 → ri_ s1 → w_X12_advance_b500  Q  s0 s1 M → J 500 [] [.int (Ii s0), .int (Ii s1), .ref (ad 0)] M := by
  intro s0 s1 M gs0 gs1 hF
  unfold w_X12_advance_b500 at hF
  refine j_iadd hJ dX12_advance_500 ?_
  have g1 := hF.1; have hF := hF.2
  refine j_pi hJ g1 kR_0 fR_15_78 rfl fp_X12_631 dX12_advance_501 (fun M2 eM2 => ?_)
  have hF := hF M2 eM2
  exact j_vret hJ rfl dX12_advance_504 hF
set_option maxHeartbeats 4000000 in
set_option maxRecDepth 100000 in
theorem k_X12_advance_b483 {l : Launch} {D : va_G} {cy : Nat → ClassId} {ad : Nat → Nat} {Q : Int → MM → Prop} {J : Nat → List (Nat × Value) → List Value → MM → Prop} (hin : jIn ad ksR.length)   (hJ : jOk l D vwCl (tyR cy) cy ad ftR ksR (XtR ad) Om RX12 cX12_advance 5 0 ({ frames := 2, cells := 0, slots := 0, locals := 40 } : Room) Q J)  : ∀ (x3 s0 : Int) (M : MM), ri_ x3 → rl_ s0 → w_X12_advance_b483  Q  x3 s0 M → J 483 [(0, .ref (ad 0)), (3, .int (Ii x3))] [.long (Ll s0), .ref (ad 0)] M := by
  intro x3 s0 M gx3 gs0 hF
  unfold w_X12_advance_b483 at hF
  refine j_pl hJ gs0 kR_0 fR_15_85 rfl fp_X12_640 dX12_advance_483 (fun M1 eM1 => ?_)
  have hF := hF M1 eM1
  refine j_aload_n hJ dX12_advance_486 rfl 0 rfl ?_
  refine j_dup hJ dX12_advance_487 rfl ?_
  refine j_gi hJ kR_0 fR_15_78 rfl fl_X12_631 dX12_advance_488 (fun v2 ev2 gv2 => ?_)
  have hF := hF v2 ev2 gv2
  refine j_iload_n hJ dX12_advance_491 rfl 1 rfl ?_
  refine j_if_eq hJ 499 gx3 dX12_advance_492 (by decide) (fun z3 => ?_) (fun z3 => ?_)
  · have hF := hF.1 z3
    refine j_iconst hJ dX12_advance_499 ?_
    exact j_sub hJ [] rfl (k_X12_advance_b500 hin  hJ  1 v2 _ rk_1 gv2 hF)
  · have hF := hF.2 z3
    refine j_iconst hJ dX12_advance_495 ?_
    refine j_goto hJ 500 dX12_advance_496 (by decide) ?_
    exact j_sub hJ [] rfl (k_X12_advance_b500 hin  hJ  2 v2 _ rk_2 gv2 hF)
set_option maxHeartbeats 4000000 in
set_option maxRecDepth 100000 in
theorem k_X12_advance_b461 {l : Launch} {D : va_G} {cy : Nat → ClassId} {ad : Nat → Nat} {Q : Int → MM → Prop} {J : Nat → List (Nat × Value) → List Value → MM → Prop} (hin : jIn ad ksR.length)   (hJ : jOk l D vwCl (tyR cy) cy ad ftR ksR (XtR ad) Om RX12 cX12_advance 5 0 ({ frames := 2, cells := 0, slots := 0, locals := 40 } : Room) Q J)  : ∀ (x1 x2 x3 s0 : Int) (M : MM), ri_ x1 → ri_ x2 → ri_ x3 → ri_ s0 → w_X12_advance_b461  Q  x1 x2 x3 s0 M → J 461 [(0, .ref (ad 0)), (1, .int (Ii x1)), (2, .int (Ii x2)), (3, .int (Ii x3))] [.int (Ii s0), .ref (ad 0)] M := by
  intro x1 x2 x3 s0 M gx1 gx2 gx3 gs0 hF
  unfold w_X12_advance_b461 at hF
  refine j_pi hJ gs0 kR_0 fR_15_80 rfl fp_X12_644 dX12_advance_461 (fun M1 eM1 => ?_)
  have hF := hF M1 eM1
  refine j_aload_n hJ dX12_advance_464 rfl 0 rfl ?_
  refine j_iload_n hJ dX12_advance_465 rfl 3 rfl ?_
  refine j_if_eq hJ 481 gx3 dX12_advance_466 (by decide) (fun z2 => ?_) (fun z2 => ?_)
  · have hF := hF.1 z2
    refine j_iload_n hJ dX12_advance_481 rfl 1 rfl ?_
    refine j_i2l hJ gx1 dX12_advance_482 ?_
    exact j_sub hJ [0, 3] rfl (k_X12_advance_b483 hin  hJ  x3 x1 _ gx3 (rl_ri gx1) hF)
  · have hF := hF.2 z2
    refine j_ldc2 hJ 256 om_1348 (by decide) dX12_advance_469 ?_
    refine j_iload_n hJ dX12_advance_472 rfl 1 rfl ?_
    refine j_i2l hJ gx1 dX12_advance_473 ?_
    refine j_lmulw hJ dX12_advance_474 ?_
    refine j_iload_n hJ dX12_advance_475 rfl 2 rfl ?_
    refine j_i2l hJ gx2 dX12_advance_476 ?_
    refine j_laddw hJ dX12_advance_477 ?_
    refine j_goto hJ 483 dX12_advance_478 (by decide) ?_
    exact j_sub hJ [0, 3] rfl (k_X12_advance_b483 hin  hJ  x3 (w64 ((w64 (256 * x1)) + x2)) _ gx3 (rl_w _) hF)
set_option maxHeartbeats 4000000 in
set_option maxRecDepth 100000 in
theorem k_X12_advance_b456 {l : Launch} {D : va_G} {cy : Nat → ClassId} {ad : Nat → Nat} {Q : Int → MM → Prop} {J : Nat → List (Nat × Value) → List Value → MM → Prop} (hin : jIn ad ksR.length)   (hJ : jOk l D vwCl (tyR cy) cy ad ftR ksR (XtR ad) Om RX12 cX12_advance 5 0 ({ frames := 2, cells := 0, slots := 0, locals := 40 } : Room) Q J)  : ∀ (x1 x2 x3 : Int) (M : MM), ri_ x1 → ri_ x2 → ri_ x3 → w_X12_advance_b456  Q  x1 x2 x3 M → J 456 [(0, .ref (ad 0)), (1, .int (Ii x1)), (2, .int (Ii x2)), (3, .int (Ii x3))] [.ref (ad 0)] M := by
  intro x1 x2 x3 M gx1 gx2 gx3 hF
  unfold w_X12_advance_b456 at hF
  refine j_iconst hJ dX12_advance_456 ?_
  refine j_goto hJ 461 dX12_advance_457 (by decide) ?_
  exact j_sub hJ [0, 1, 2, 3] rfl (k_X12_advance_b461 hin  hJ  x1 x2 x3 3 _ gx1 gx2 gx3 rk_3 hF)
set_option maxHeartbeats 4000000 in
set_option maxRecDepth 100000 in
theorem k_X12_advance_b444 {l : Launch} {D : va_G} {cy : Nat → ClassId} {ad : Nat → Nat} {Q : Int → MM → Prop} {J : Nat → List (Nat × Value) → List Value → MM → Prop} (hin : jIn ad ksR.length)   (hJ : jOk l D vwCl (tyR cy) cy ad ftR ksR (XtR ad) Om RX12 cX12_advance 5 0 ({ frames := 2, cells := 0, slots := 0, locals := 40 } : Room) Q J)  : ∀ (x1 x2 x3 s0 : Int) (M : MM), ri_ x1 → ri_ x2 → ri_ x3 → ri_ s0 → w_X12_advance_b444  Q  x1 x2 x3 s0 M → J 444 [(0, .ref (ad 0)), (1, .int (Ii x1)), (2, .int (Ii x2)), (3, .int (Ii x3))] [.int (Ii s0)] M := by
  intro x1 x2 x3 s0 M gx1 gx2 gx3 gs0 hF
  unfold w_X12_advance_b444 at hF
  refine j_istore (lv' := [(4, .int (Ii s0)), (0, .ref (ad 0)), (1, .int (Ii x1)), (2, .int (Ii x2)), (3, .int (Ii x3))]) hJ dX12_advance_444 (by decide) rfl ?_
  refine j_aload_n hJ dX12_advance_446 rfl 1 rfl ?_
  refine j_iload_n hJ dX12_advance_447 rfl 4 rfl ?_
  refine j_if_ne hJ 456 gx3 dX12_advance_448 (by decide) (fun z1 => ?_) (fun z1 => ?_)
  · have hF := hF.1 z1
    exact j_sub hJ [1, 2, 3, 4] rfl (k_X12_advance_b456 hin  hJ  x1 x2 x3 _ gx1 gx2 gx3 hF)
  · have hF := hF.2 z1
    refine j_iload hJ dX12_advance_451 0 rfl ?_
    refine j_if_eq hJ 460 gs0 dX12_advance_453 (by decide) (fun z2 => ?_) (fun z2 => ?_)
    · have hF := hF.1 z2
      refine j_iconst hJ dX12_advance_460 ?_
      exact j_sub hJ [1, 2, 3, 4] rfl (k_X12_advance_b461 hin  hJ  x1 x2 x3 4 _ gx1 gx2 gx3 rk_4 hF)
    · have hF := hF.2 z2
      exact j_sub hJ [1, 2, 3, 4] rfl (k_X12_advance_b456 hin  hJ  x1 x2 x3 _ gx1 gx2 gx3 hF)
set_option maxHeartbeats 4000000 in
set_option maxRecDepth 100000 in
theorem k_X12_advance_b439 {l : Launch} {D : va_G} {cy : Nat → ClassId} {ad : Nat → Nat} {Q : Int → MM → Prop} {J : Nat → List (Nat × Value) → List Value → MM → Prop} (hin : jIn ad ksR.length)   (hJ : jOk l D vwCl (tyR cy) cy ad ftR ksR (XtR ad) Om RX12 cX12_advance 5 0 ({ frames := 2, cells := 0, slots := 0, locals := 40 } : Room) Q J)  : ∀ (x1 x2 x3 : Int) (M : MM), ri_ x1 → ri_ x2 → ri_ x3 → w_X12_advance_b439  Q  x1 x2 x3 M → J 439 [(0, .ref (ad 0)), (1, .int (Ii x1)), (2, .int (Ii x2)), (3, .int (Ii x3))] [] M := by
  intro x1 x2 x3 M gx1 gx2 gx3 hF
  unfold w_X12_advance_b439 at hF
  refine j_iconst hJ dX12_advance_439 ?_
  refine j_goto hJ 444 dX12_advance_440 (by decide) ?_
  exact j_sub hJ [0, 1, 2, 3] rfl (k_X12_advance_b444 hin  hJ  x1 x2 x3 1 _ gx1 gx2 gx3 rk_1 hF)
set_option maxHeartbeats 4000000 in
set_option maxRecDepth 100000 in
theorem k_X12_advance_b342 {l : Launch} {D : va_G} {cy : Nat → ClassId} {ad : Nat → Nat} {Q : Int → MM → Prop} {J : Nat → List (Nat × Value) → List Value → MM → Prop} (hin : jIn ad ksR.length)   (hJ : jOk l D vwCl (tyR cy) cy ad ftR ksR (XtR ad) Om RX12 cX12_advance 5 0 ({ frames := 2, cells := 0, slots := 0, locals := 40 } : Room) Q J)  : ∀ (x1 x2 s0 : Int) (M : MM), ri_ x1 → ri_ x2 → ri_ s0 → w_X12_advance_b342  Q  x1 x2 s0 M → J 342 [(0, .ref (ad 0)), (1, .int (Ii x1)), (2, .int (Ii x2))] [.int (Ii s0)] M := by
  intro x1 x2 s0 M gx1 gx2 gs0 hF
  unfold w_X12_advance_b342 at hF
  refine j_istore_n (lv' := [(3, .int (Ii s0)), (0, .ref (ad 0)), (1, .int (Ii x1)), (2, .int (Ii x2))]) hJ dX12_advance_342 rfl (by decide) rfl ?_
  refine j_iload_n hJ dX12_advance_343 rfl 2 rfl ?_
  refine j_bipush hJ dX12_advance_344 (by decide) ?_
  refine j_icmp_eq hJ 439 gx1 rk_40 dX12_advance_346 (by decide) (fun z1 => ?_) (fun z1 => ?_)
  · have hF := hF.1 z1
    exact j_sub hJ [1, 2, 3, 0] rfl (k_X12_advance_b439 hin  hJ  x1 x2 s0 _ gx1 gx2 gs0 hF)
  · have hF := hF.2 z1
    refine j_iload_n hJ dX12_advance_349 rfl 2 rfl ?_
    refine j_bipush hJ dX12_advance_350 (by decide) ?_
    refine j_icmp_eq hJ 439 gx1 rk_41 dX12_advance_352 (by decide) (fun z2 => ?_) (fun z2 => ?_)
    · have hF := hF.1 z2
      exact j_sub hJ [1, 2, 3, 0] rfl (k_X12_advance_b439 hin  hJ  x1 x2 s0 _ gx1 gx2 gs0 hF)
    · have hF := hF.2 z2
      refine j_iload_n hJ dX12_advance_355 rfl 2 rfl ?_
      refine j_bipush hJ dX12_advance_356 (by decide) ?_
      refine j_icmp_eq hJ 439 gx1 rk_91 dX12_advance_358 (by decide) (fun z3 => ?_) (fun z3 => ?_)
      · have hF := hF.1 z3
        exact j_sub hJ [1, 2, 3, 0] rfl (k_X12_advance_b439 hin  hJ  x1 x2 s0 _ gx1 gx2 gs0 hF)
      · have hF := hF.2 z3
        refine j_iload_n hJ dX12_advance_361 rfl 2 rfl ?_
        refine j_bipush hJ dX12_advance_362 (by decide) ?_
        refine j_icmp_eq hJ 439 gx1 rk_93 dX12_advance_364 (by decide) (fun z4 => ?_) (fun z4 => ?_)
        · have hF := hF.1 z4
          exact j_sub hJ [1, 2, 3, 0] rfl (k_X12_advance_b439 hin  hJ  x1 x2 s0 _ gx1 gx2 gs0 hF)
        · have hF := hF.2 z4
          refine j_iload_n hJ dX12_advance_367 rfl 2 rfl ?_
          refine j_bipush hJ dX12_advance_368 (by decide) ?_
          refine j_icmp_eq hJ 439 gx1 rk_46 dX12_advance_370 (by decide) (fun z5 => ?_) (fun z5 => ?_)
          · have hF := hF.1 z5
            exact j_sub hJ [1, 2, 3, 0] rfl (k_X12_advance_b439 hin  hJ  x1 x2 s0 _ gx1 gx2 gs0 hF)
          · have hF := hF.2 z5
            refine j_iload_n hJ dX12_advance_373 rfl 2 rfl ?_
            refine j_bipush hJ dX12_advance_374 (by decide) ?_
            refine j_icmp_eq hJ 439 gx1 rk_44 dX12_advance_376 (by decide) (fun z6 => ?_) (fun z6 => ?_)
            · have hF := hF.1 z6
              exact j_sub hJ [1, 2, 3, 0] rfl (k_X12_advance_b439 hin  hJ  x1 x2 s0 _ gx1 gx2 gs0 hF)
            · have hF := hF.2 z6
              refine j_iload_n hJ dX12_advance_379 rfl 2 rfl ?_
              refine j_bipush hJ dX12_advance_380 (by decide) ?_
              refine j_icmp_eq hJ 439 gx1 rk_58 dX12_advance_382 (by decide) (fun z7 => ?_) (fun z7 => ?_)
              · have hF := hF.1 z7
                exact j_sub hJ [1, 2, 3, 0] rfl (k_X12_advance_b439 hin  hJ  x1 x2 s0 _ gx1 gx2 gs0 hF)
              · have hF := hF.2 z7
                refine j_iload_n hJ dX12_advance_385 rfl 2 rfl ?_
                refine j_bipush hJ dX12_advance_386 (by decide) ?_
                refine j_icmp_eq hJ 439 gx1 rk_59 dX12_advance_388 (by decide) (fun z8 => ?_) (fun z8 => ?_)
                · have hF := hF.1 z8
                  exact j_sub hJ [1, 2, 3, 0] rfl (k_X12_advance_b439 hin  hJ  x1 x2 s0 _ gx1 gx2 gs0 hF)
                · have hF := hF.2 z8
                  refine j_iload_n hJ dX12_advance_391 rfl 2 rfl ?_
                  refine j_bipush hJ dX12_advance_392 (by decide) ?_
                  refine j_icmp_eq hJ 439 gx1 rk_61 dX12_advance_394 (by decide) (fun z9 => ?_) (fun z9 => ?_)
                  · have hF := hF.1 z9
                    exact j_sub hJ [1, 2, 3, 0] rfl (k_X12_advance_b439 hin  hJ  x1 x2 s0 _ gx1 gx2 gs0 hF)
                  · have hF := hF.2 z9
                    refine j_iload_n hJ dX12_advance_397 rfl 2 rfl ?_
                    refine j_bipush hJ dX12_advance_398 (by decide) ?_
                    refine j_icmp_eq hJ 439 gx1 rk_60 dX12_advance_400 (by decide) (fun z10 => ?_) (fun z10 => ?_)
                    · have hF := hF.1 z10
                      exact j_sub hJ [1, 2, 3, 0] rfl (k_X12_advance_b439 hin  hJ  x1 x2 s0 _ gx1 gx2 gs0 hF)
                    · have hF := hF.2 z10
                      refine j_iload_n hJ dX12_advance_403 rfl 2 rfl ?_
                      refine j_bipush hJ dX12_advance_404 (by decide) ?_
                      refine j_icmp_eq hJ 439 gx1 rk_62 dX12_advance_406 (by decide) (fun z11 => ?_) (fun z11 => ?_)
                      · have hF := hF.1 z11
                        exact j_sub hJ [1, 2, 3, 0] rfl (k_X12_advance_b439 hin  hJ  x1 x2 s0 _ gx1 gx2 gs0 hF)
                      · have hF := hF.2 z11
                        refine j_iload_n hJ dX12_advance_409 rfl 2 rfl ?_
                        refine j_bipush hJ dX12_advance_410 (by decide) ?_
                        refine j_icmp_eq hJ 439 gx1 rk_43 dX12_advance_412 (by decide) (fun z12 => ?_) (fun z12 => ?_)
                        · have hF := hF.1 z12
                          exact j_sub hJ [1, 2, 3, 0] rfl (k_X12_advance_b439 hin  hJ  x1 x2 s0 _ gx1 gx2 gs0 hF)
                        · have hF := hF.2 z12
                          refine j_iload_n hJ dX12_advance_415 rfl 2 rfl ?_
                          refine j_bipush hJ dX12_advance_416 (by decide) ?_
                          refine j_icmp_eq hJ 439 gx1 rk_45 dX12_advance_418 (by decide) (fun z13 => ?_) (fun z13 => ?_)
                          · have hF := hF.1 z13
                            exact j_sub hJ [1, 2, 3, 0] rfl (k_X12_advance_b439 hin  hJ  x1 x2 s0 _ gx1 gx2 gs0 hF)
                          · have hF := hF.2 z13
                            refine j_iload_n hJ dX12_advance_421 rfl 2 rfl ?_
                            refine j_bipush hJ dX12_advance_422 (by decide) ?_
                            refine j_icmp_eq hJ 439 gx1 rk_42 dX12_advance_424 (by decide) (fun z14 => ?_) (fun z14 => ?_)
                            · have hF := hF.1 z14
                              exact j_sub hJ [1, 2, 3, 0] rfl (k_X12_advance_b439 hin  hJ  x1 x2 s0 _ gx1 gx2 gs0 hF)
                            · have hF := hF.2 z14
                              refine j_iload_n hJ dX12_advance_427 rfl 2 rfl ?_
                              refine j_bipush hJ dX12_advance_428 (by decide) ?_
                              refine j_icmp_eq hJ 439 gx1 rk_47 dX12_advance_430 (by decide) (fun z15 => ?_) (fun z15 => ?_)
                              · have hF := hF.1 z15
                                exact j_sub hJ [1, 2, 3, 0] rfl (k_X12_advance_b439 hin  hJ  x1 x2 s0 _ gx1 gx2 gs0 hF)
                              · have hF := hF.2 z15
                                refine j_iload_n hJ dX12_advance_433 rfl 2 rfl ?_
                                refine j_bipush hJ dX12_advance_434 (by decide) ?_
                                refine j_icmp_ne hJ 443 gx1 rk_37 dX12_advance_436 (by decide) (fun z16 => ?_) (fun z16 => ?_)
                                · have hF := hF.1 z16
                                  refine j_iconst hJ dX12_advance_443 ?_
                                  exact j_sub hJ [1, 2, 3, 0] rfl (k_X12_advance_b444 hin  hJ  x1 x2 s0 0 _ gx1 gx2 gs0 rk_0 hF)
                                · have hF := hF.2 z16
                                  exact j_sub hJ [1, 2, 3, 0] rfl (k_X12_advance_b439 hin  hJ  x1 x2 s0 _ gx1 gx2 gs0 hF)
set_option maxHeartbeats 4000000 in
set_option maxRecDepth 100000 in
theorem k_X12_advance_b341 {l : Launch} {D : va_G} {cy : Nat → ClassId} {ad : Nat → Nat} {Q : Int → MM → Prop} {J : Nat → List (Nat × Value) → List Value → MM → Prop} (hin : jIn ad ksR.length)   (hJ : jOk l D vwCl (tyR cy) cy ad ftR ksR (XtR ad) Om RX12 cX12_advance 5 0 ({ frames := 2, cells := 0, slots := 0, locals := 40 } : Room) Q J)  : ∀ (x1 x2 : Int) (M : MM), ri_ x1 → ri_ x2 → w_X12_advance_b341  Q  x1 x2 M → J 341 [(0, .ref (ad 0)), (1, .int (Ii x1)), (2, .int (Ii x2))] [] M := by
  intro x1 x2 M gx1 gx2 hF
  unfold w_X12_advance_b341 at hF
  refine j_iconst hJ dX12_advance_341 ?_
  exact j_sub hJ [0, 1, 2] rfl (k_X12_advance_b342 hin  hJ  x1 x2 0 _ gx1 gx2 rk_0 hF)
set_option maxHeartbeats 4000000 in
set_option maxRecDepth 100000 in
theorem k_X12_advance_b331 {l : Launch} {D : va_G} {cy : Nat → ClassId} {ad : Nat → Nat} {Q : Int → MM → Prop} {J : Nat → List (Nat × Value) → List Value → MM → Prop} (hin : jIn ad ksR.length)   (hJ : jOk l D vwCl (tyR cy) cy ad ftR ksR (XtR ad) Om RX12 cX12_advance 5 0 ({ frames := 2, cells := 0, slots := 0, locals := 40 } : Room) Q J)  : ∀ (x1 x2 : Int) (M : MM), ri_ x1 → ri_ x2 → w_X12_advance_b331  Q  x1 x2 M → J 331 [(0, .ref (ad 0)), (1, .int (Ii x1)), (2, .int (Ii x2))] [] M := by
  intro x1 x2 M gx1 gx2 hF
  unfold w_X12_advance_b331 at hF
  refine j_iload_n hJ dX12_advance_331 rfl 2 rfl ?_
  refine j_bipush hJ dX12_advance_332 (by decide) ?_
  refine j_icmp_ne hJ 341 gx2 rk_61 dX12_advance_334 (by decide) (fun z1 => ?_) (fun z1 => ?_)
  · have hF := hF.1 z1
    exact j_sub hJ [0, 1, 2] rfl (k_X12_advance_b341 hin  hJ  x1 x2 _ gx1 gx2 hF)
  · have hF := hF.2 z1
    refine j_iconst hJ dX12_advance_337 ?_
    refine j_goto hJ 342 dX12_advance_338 (by decide) ?_
    exact j_sub hJ [0, 1, 2] rfl (k_X12_advance_b342 hin  hJ  x1 x2 1 _ gx1 gx2 rk_1 hF)
set_option maxHeartbeats 4000000 in
set_option maxRecDepth 100000 in
theorem k_X12_advance_b296 {l : Launch} {D : va_G} {cy : Nat → ClassId} {ad : Nat → Nat} {Q : Int → MM → Prop} {J : Nat → List (Nat × Value) → List Value → MM → Prop} (hin : jIn ad ksR.length)   (hJ : jOk l D vwCl (tyR cy) cy ad ftR ksR (XtR ad) Om RX12 cX12_advance 5 0 ({ frames := 2, cells := 0, slots := 0, locals := 40 } : Room) Q J)  : ∀ (s0 : Int) (M : MM), ri_ s0 → w_X12_advance_b296  Q  s0 M → J 296 [] [.int (Ii s0), .ref (ad 0)] M := by
  intro s0 M gs0 hF
  unfold w_X12_advance_b296 at hF
  refine j_pi hJ gs0 kR_0 fR_15_80 rfl fp_X12_644 dX12_advance_296 (fun M1 eM1 => ?_)
  have hF := hF M1 eM1
  refine j_goto hJ 504 dX12_advance_299 (by decide) ?_
  exact j_vret hJ rfl dX12_advance_504 hF
set_option maxHeartbeats 4000000 in
set_option maxRecDepth 100000 in
theorem k_X12_advance_b260 {l : Launch} {D : va_G} {cy : Nat → ClassId} {ad : Nat → Nat} {Q : Int → MM → Prop} {J : Nat → List (Nat × Value) → List Value → MM → Prop} (hin : jIn ad ksR.length)   (hJ : jOk l D vwCl (tyR cy) cy ad ftR ksR (XtR ad) Om RX12 cX12_advance 5 0 ({ frames := 2, cells := 0, slots := 0, locals := 40 } : Room) Q J) {K205 : MM → Prop} (hK205 : ∀ (M : MM), K205  M → J 205 [(0, .ref (ad 0))] [] M) : ∀ (s0 : Int) (M : MM), rl_ s0 → w_X12_advance_b260  Q K205 s0 M → J 260 [(0, .ref (ad 0))] [.long (Ll s0), .ref (ad 0)] M := by
  intro s0 M gs0 hF
  unfold w_X12_advance_b260 at hF
  refine j_pl hJ gs0 kR_0 fR_15_85 rfl fp_X12_640 dX12_advance_260 (fun M1 eM1 => ?_)
  have hF := hF M1 eM1
  refine j_aload_n hJ dX12_advance_263 rfl 0 rfl ?_
  refine j_dup hJ dX12_advance_264 rfl ?_
  refine j_gi hJ kR_0 fR_15_78 rfl fl_X12_631 dX12_advance_265 (fun v2 ev2 gv2 => ?_)
  have hF := hF v2 ev2 gv2
  refine j_iconst hJ dX12_advance_268 ?_
  refine j_iadd hJ dX12_advance_269 ?_
  have g3 := hF.1; have hF := hF.2
  refine j_pi hJ g3 kR_0 fR_15_78 rfl fp_X12_631 dX12_advance_270 (fun M4 eM4 => ?_)
  have hF := hF M4 eM4
  refine j_goto hJ 205 dX12_advance_273 (by decide) ?_
  exact j_sub hJ [0] rfl (hK205  _  hF)
set_option maxHeartbeats 4000000 in
set_option maxRecDepth 100000 in
theorem k_X12_advance_b205 {l : Launch} {D : va_G} {cy : Nat → ClassId} {ad : Nat → Nat} {Q : Int → MM → Prop} {J : Nat → List (Nat × Value) → List Value → MM → Prop} (hin : jIn ad ksR.length)   (hJ : jOk l D vwCl (tyR cy) cy ad ftR ksR (XtR ad) Om RX12 cX12_advance 5 0 ({ frames := 2, cells := 0, slots := 0, locals := 40 } : Room) Q J)  : ∀ (M : MM), w_X12_advance_b205  Q   M → J 205 [(0, .ref (ad 0))] [] M := by
  have H9 : ∀ (n : Nat) (M : MM), jit (fun _ => False) (wb_X12_advance_b205  Q ) n  M → J 205 [(0, .ref (ad 0))] [] M := by
    intro n
    induction n with
    | zero => intro  M  hF; exact False.elim hF
    | succ n ih =>
    intro  M  hF
    have hF : wb_X12_advance_b205  Q  (jit (fun _ => False) (wb_X12_advance_b205  Q ) n)  M := hF
    unfold wb_X12_advance_b205 at hF
    refine j_aload_n hJ dX12_advance_205 rfl 0 rfl ?_
    refine j_aload_n hJ dX12_advance_206 rfl 0 rfl ?_
    refine j_gi hJ kR_0 fR_15_78 rfl fl_X12_631 dX12_advance_207 (fun v1 ev1 gv1 => ?_)
    have hF := hF v1 ev1 gv1
    refine j_callVi hJ (c_X12_byteAt (l := l) (D := D) (cy := cy) (ad := ad) hin) rfl om_1344 ⟨rfl, rfl, Nat.le_of_ble_eq_true rfl, Nat.le_of_ble_eq_true rfl⟩ [.int (Ii v1)] mv_X12_634 hd_X12_byteAtv kR_0 rfl rfl rfl (Nat.le_of_ble_eq_true rfl) dX12_advance_210 ⟨v1, rfl, gv1, hF⟩ (fun r2 M3 gr2 qM3 => ?_)
    have hF := qM3 gr2
    refine j_callSz hJ (c_X12_isDigit (l := l) (D := D) (cy := cy) (ad := ad) hin) rfl om_1037 ⟨rfl, rfl, Nat.le_of_ble_eq_true rfl, Nat.le_of_ble_eq_true rfl⟩ [.int (Ii r2)] mv_X12_394 hd_X12_isDigit rfl (Nat.le_of_ble_eq_true rfl) dX12_advance_213 ⟨r2, rfl, gr2, hF⟩ (fun r4 M5 gr4 qM5 => ?_)
    have hF := qM5 gr4
    refine j_if_eq hJ 276 (jz_ri gr4) dX12_advance_216 (by decide) (fun z6 => ?_) (fun z6 => ?_)
    · have hF := hF.1 z6
      refine j_aload_n hJ dX12_advance_276 rfl 0 rfl ?_
      refine j_aload_n hJ dX12_advance_277 rfl 0 rfl ?_
      refine j_gi hJ kR_0 fR_15_78 rfl fl_X12_631 dX12_advance_278 (fun v7 ev7 gv7 => ?_)
      have hF := hF v7 ev7 gv7
      refine j_aload_n hJ dX12_advance_281 rfl 0 rfl ?_
      refine j_gi hJ kR_0 fR_15_79 rfl fl_X12_637 dX12_advance_282 (fun v8 ev8 gv8 => ?_)
      have hF := hF v8 ev8 gv8
      refine j_isub hJ dX12_advance_285 ?_
      have g9 := hF.1; have hF := hF.2
      refine j_bipush hJ dX12_advance_286 (by decide) ?_
      refine j_icmp_le hJ 295 g9 rk_18 dX12_advance_288 (by decide) (fun z10 => ?_) (fun z10 => ?_)
      · have hF := hF.1 z10
        refine j_iconst hJ dX12_advance_295 ?_
        exact j_sub hJ [] rfl (k_X12_advance_b296 hin  hJ  2 _ rk_2 hF)
      · have hF := hF.2 z10
        refine j_iconst hJ dX12_advance_291 ?_
        refine j_goto hJ 296 dX12_advance_292 (by decide) ?_
        exact j_sub hJ [] rfl (k_X12_advance_b296 hin  hJ  4 _ rk_4 hF)
    · have hF := hF.2 z6
      refine j_aload_n hJ dX12_advance_219 rfl 0 rfl ?_
      refine j_aload_n hJ dX12_advance_220 rfl 0 rfl ?_
      refine j_gi hJ kR_0 fR_15_78 rfl fl_X12_631 dX12_advance_221 (fun v11 ev11 gv11 => ?_)
      have hF := hF v11 ev11 gv11
      refine j_aload_n hJ dX12_advance_224 rfl 0 rfl ?_
      refine j_gi hJ kR_0 fR_15_79 rfl fl_X12_637 dX12_advance_225 (fun v12 ev12 gv12 => ?_)
      have hF := hF v12 ev12 gv12
      refine j_isub hJ dX12_advance_228 ?_
      have g13 := hF.1; have hF := hF.2
      refine j_bipush hJ dX12_advance_229 (by decide) ?_
      refine j_icmp_ge hJ 259 g13 rk_18 dX12_advance_231 (by decide) (fun z14 => ?_) (fun z14 => ?_)
      · have hF := hF.1 z14
        refine j_lconst (x := 0) hJ dX12_advance_259 rfl ?_
        exact j_sub hJ [0] rfl (k_X12_advance_b260 hin  hJ ih 0 _ lkm_0 hF)
      · have hF := hF.2 z14
        refine j_ldc2 hJ 10 om_1349 (by decide) dX12_advance_234 ?_
        refine j_aload_n hJ dX12_advance_237 rfl 0 rfl ?_
        refine j_gl hJ kR_0 fR_15_85 rfl fl_X12_640 dX12_advance_238 (fun v15 ev15 gv15 => ?_)
        have hF := hF v15 ev15 gv15
        refine j_lmulw hJ dX12_advance_241 ?_
        refine j_aload_n hJ dX12_advance_242 rfl 0 rfl ?_
        refine j_aload_n hJ dX12_advance_243 rfl 0 rfl ?_
        refine j_gi hJ kR_0 fR_15_78 rfl fl_X12_631 dX12_advance_244 (fun v16 ev16 gv16 => ?_)
        have hF := hF v16 ev16 gv16
        refine j_callVi hJ (c_X12_byteAt (l := l) (D := D) (cy := cy) (ad := ad) hin) rfl om_1344 ⟨rfl, rfl, Nat.le_of_ble_eq_true rfl, Nat.le_of_ble_eq_true rfl⟩ [.int (Ii v16)] mv_X12_634 hd_X12_byteAtv kR_0 rfl rfl rfl (Nat.le_of_ble_eq_true rfl) dX12_advance_247 ⟨v16, rfl, gv16, hF⟩ (fun r17 M18 gr17 qM18 => ?_)
        have hF := qM18 gr17
        refine j_i2l hJ gr17 dX12_advance_250 ?_
        refine j_laddw hJ dX12_advance_251 ?_
        refine j_ldc2 hJ 48 om_1350 (by decide) dX12_advance_252 ?_
        refine j_lsubw hJ dX12_advance_255 ?_
        refine j_goto hJ 260 dX12_advance_256 (by decide) ?_
        exact j_sub hJ [0] rfl (k_X12_advance_b260 hin  hJ ih (w64 ((w64 ((w64 (10 * v15)) + r17)) - 48)) _ (rl_w _) hF)
  intro  M  hF
  obtain ⟨n, hF⟩ := hF
  exact H9 n  M  hF
set_option maxHeartbeats 4000000 in
set_option maxRecDepth 100000 in
theorem k_X12_advance_b156 {l : Launch} {D : va_G} {cy : Nat → ClassId} {ad : Nat → Nat} {Q : Int → MM → Prop} {J : Nat → List (Nat × Value) → List Value → MM → Prop} (hin : jIn ad ksR.length)   (hJ : jOk l D vwCl (tyR cy) cy ad ftR ksR (XtR ad) Om RX12 cX12_advance 5 0 ({ frames := 2, cells := 0, slots := 0, locals := 40 } : Room) Q J) {K88 : MM → Prop} (hK88 : ∀ (M : MM), K88  M → J 88 [(0, .ref (ad 0))] [] M) : ∀ (s0 : Int) (M : MM), rl_ s0 → w_X12_advance_b156  Q K88 s0 M → J 156 [(0, .ref (ad 0))] [.long (Ll s0), .ref (ad 0)] M := by
  intro s0 M gs0 hF
  unfold w_X12_advance_b156 at hF
  refine j_pl hJ gs0 kR_0 fR_15_85 rfl fp_X12_640 dX12_advance_156 (fun M1 eM1 => ?_)
  have hF := hF M1 eM1
  refine j_aload_n hJ dX12_advance_159 rfl 0 rfl ?_
  refine j_dup hJ dX12_advance_160 rfl ?_
  refine j_gi hJ kR_0 fR_15_78 rfl fl_X12_631 dX12_advance_161 (fun v2 ev2 gv2 => ?_)
  have hF := hF v2 ev2 gv2
  refine j_iconst hJ dX12_advance_164 ?_
  refine j_iadd hJ dX12_advance_165 ?_
  have g3 := hF.1; have hF := hF.2
  refine j_pi hJ g3 kR_0 fR_15_78 rfl fp_X12_631 dX12_advance_166 (fun M4 eM4 => ?_)
  have hF := hF M4 eM4
  refine j_goto hJ 88 dX12_advance_169 (by decide) ?_
  exact j_sub hJ [0] rfl (hK88  _  hF)
set_option maxHeartbeats 4000000 in
set_option maxRecDepth 100000 in
theorem k_X12_advance_b116 {l : Launch} {D : va_G} {cy : Nat → ClassId} {ad : Nat → Nat} {Q : Int → MM → Prop} {J : Nat → List (Nat × Value) → List Value → MM → Prop} (hin : jIn ad ksR.length)   (hJ : jOk l D vwCl (tyR cy) cy ad ftR ksR (XtR ad) Om RX12 cX12_advance 5 0 ({ frames := 2, cells := 0, slots := 0, locals := 40 } : Room) Q J) {K88 : MM → Prop} (hK88 : ∀ (M : MM), K88  M → J 88 [(0, .ref (ad 0))] [] M) : ∀ (M : MM), w_X12_advance_b116  Q K88  M → J 116 [(0, .ref (ad 0))] [] M := by
  intro  M  hF
  unfold w_X12_advance_b116 at hF
  refine j_aload_n hJ dX12_advance_116 rfl 0 rfl ?_
  refine j_aload_n hJ dX12_advance_117 rfl 0 rfl ?_
  refine j_gi hJ kR_0 fR_15_78 rfl fl_X12_631 dX12_advance_118 (fun v1 ev1 gv1 => ?_)
  have hF := hF v1 ev1 gv1
  refine j_aload_n hJ dX12_advance_121 rfl 0 rfl ?_
  refine j_gi hJ kR_0 fR_15_79 rfl fl_X12_637 dX12_advance_122 (fun v2 ev2 gv2 => ?_)
  have hF := hF v2 ev2 gv2
  refine j_isub hJ dX12_advance_125 ?_
  have g3 := hF.1; have hF := hF.2
  refine j_bipush hJ dX12_advance_126 (by decide) ?_
  refine j_icmp_ge hJ 155 g3 rk_10 dX12_advance_128 (by decide) (fun z4 => ?_) (fun z4 => ?_)
  · have hF := hF.1 z4
    refine j_lconst (x := 0) hJ dX12_advance_155 rfl ?_
    exact j_sub hJ [0] rfl (k_X12_advance_b156 hin  hJ hK88 0 _ lkm_0 hF)
  · have hF := hF.2 z4
    refine j_ldc2 hJ 63 om_1042 (by decide) dX12_advance_131 ?_
    refine j_aload_n hJ dX12_advance_134 rfl 0 rfl ?_
    refine j_gl hJ kR_0 fR_15_85 rfl fl_X12_640 dX12_advance_135 (fun v5 ev5 gv5 => ?_)
    have hF := hF v5 ev5 gv5
    refine j_lmulw hJ dX12_advance_138 ?_
    refine j_aload_n hJ dX12_advance_139 rfl 0 rfl ?_
    refine j_aload_n hJ dX12_advance_140 rfl 0 rfl ?_
    refine j_gi hJ kR_0 fR_15_78 rfl fl_X12_631 dX12_advance_141 (fun v6 ev6 gv6 => ?_)
    have hF := hF v6 ev6 gv6
    refine j_callVi hJ (c_X12_byteAt (l := l) (D := D) (cy := cy) (ad := ad) hin) rfl om_1344 ⟨rfl, rfl, Nat.le_of_ble_eq_true rfl, Nat.le_of_ble_eq_true rfl⟩ [.int (Ii v6)] mv_X12_634 hd_X12_byteAtv kR_0 rfl rfl rfl (Nat.le_of_ble_eq_true rfl) dX12_advance_144 ⟨v6, rfl, gv6, hF⟩ (fun r7 M8 gr7 qM8 => ?_)
    have hF := qM8 gr7
    refine j_callSi hJ (c_X12_code (l := l) (D := D) (cy := cy) (ad := ad) hin) rfl om_1043 ⟨rfl, rfl, Nat.le_of_ble_eq_true rfl, Nat.le_of_ble_eq_true rfl⟩ [.int (Ii r7)] mv_X12_402 hd_X12_code rfl (Nat.le_of_ble_eq_true rfl) dX12_advance_147 ⟨r7, rfl, gr7, hF⟩ (fun r9 M10 gr9 qM10 => ?_)
    have hF := qM10 gr9
    refine j_i2l hJ gr9 dX12_advance_150 ?_
    refine j_laddw hJ dX12_advance_151 ?_
    refine j_goto hJ 156 dX12_advance_152 (by decide) ?_
    exact j_sub hJ [0] rfl (k_X12_advance_b156 hin  hJ hK88 (w64 ((w64 (63 * v5)) + r9)) _ (rl_w _) hF)
set_option maxHeartbeats 4000000 in
set_option maxRecDepth 100000 in
theorem k_X12_advance_b192 {l : Launch} {D : va_G} {cy : Nat → ClassId} {ad : Nat → Nat} {Q : Int → MM → Prop} {J : Nat → List (Nat × Value) → List Value → MM → Prop} (hin : jIn ad ksR.length)   (hJ : jOk l D vwCl (tyR cy) cy ad ftR ksR (XtR ad) Om RX12 cX12_advance 5 0 ({ frames := 2, cells := 0, slots := 0, locals := 40 } : Room) Q J)  : ∀ (s0 : Int) (M : MM), ri_ s0 → w_X12_advance_b192  Q  s0 M → J 192 [] [.int (Ii s0), .ref (ad 0)] M := by
  intro s0 M gs0 hF
  unfold w_X12_advance_b192 at hF
  refine j_pi hJ gs0 kR_0 fR_15_80 rfl fp_X12_644 dX12_advance_192 (fun M1 eM1 => ?_)
  have hF := hF M1 eM1
  refine j_goto hJ 504 dX12_advance_195 (by decide) ?_
  exact j_vret hJ rfl dX12_advance_504 hF
set_option maxHeartbeats 4000000 in
set_option maxRecDepth 100000 in
theorem k_X12_advance_b88 {l : Launch} {D : va_G} {cy : Nat → ClassId} {ad : Nat → Nat} {Q : Int → MM → Prop} {J : Nat → List (Nat × Value) → List Value → MM → Prop} (hin : jIn ad ksR.length)   (hJ : jOk l D vwCl (tyR cy) cy ad ftR ksR (XtR ad) Om RX12 cX12_advance 5 0 ({ frames := 2, cells := 0, slots := 0, locals := 40 } : Room) Q J)  : ∀ (M : MM), w_X12_advance_b88  Q   M → J 88 [(0, .ref (ad 0))] [] M := by
  have H9 : ∀ (n : Nat) (M : MM), jit (fun _ => False) (wb_X12_advance_b88  Q ) n  M → J 88 [(0, .ref (ad 0))] [] M := by
    intro n
    induction n with
    | zero => intro  M  hF; exact False.elim hF
    | succ n ih =>
    intro  M  hF
    have hF : wb_X12_advance_b88  Q  (jit (fun _ => False) (wb_X12_advance_b88  Q ) n)  M := hF
    unfold wb_X12_advance_b88 at hF
    refine j_aload_n hJ dX12_advance_88 rfl 0 rfl ?_
    refine j_aload_n hJ dX12_advance_89 rfl 0 rfl ?_
    refine j_gi hJ kR_0 fR_15_78 rfl fl_X12_631 dX12_advance_90 (fun v1 ev1 gv1 => ?_)
    have hF := hF v1 ev1 gv1
    refine j_callVi hJ (c_X12_byteAt (l := l) (D := D) (cy := cy) (ad := ad) hin) rfl om_1344 ⟨rfl, rfl, Nat.le_of_ble_eq_true rfl, Nat.le_of_ble_eq_true rfl⟩ [.int (Ii v1)] mv_X12_634 hd_X12_byteAtv kR_0 rfl rfl rfl (Nat.le_of_ble_eq_true rfl) dX12_advance_93 ⟨v1, rfl, gv1, hF⟩ (fun r2 M3 gr2 qM3 => ?_)
    have hF := qM3 gr2
    refine j_callSz hJ (c_X12_isLetter (l := l) (D := D) (cy := cy) (ad := ad) hin) rfl om_1050 ⟨rfl, rfl, Nat.le_of_ble_eq_true rfl, Nat.le_of_ble_eq_true rfl⟩ [.int (Ii r2)] mv_X12_406 hd_X12_isLetter rfl (Nat.le_of_ble_eq_true rfl) dX12_advance_96 ⟨r2, rfl, gr2, hF⟩ (fun r4 M5 gr4 qM5 => ?_)
    have hF := qM5 gr4
    refine j_if_ne hJ 116 (jz_ri gr4) dX12_advance_99 (by decide) (fun z6 => ?_) (fun z6 => ?_)
    · have hF := hF.1 z6
      exact j_sub hJ [0] rfl (k_X12_advance_b116 hin  hJ ih  _  hF)
    · have hF := hF.2 z6
      refine j_aload_n hJ dX12_advance_102 rfl 0 rfl ?_
      refine j_aload_n hJ dX12_advance_103 rfl 0 rfl ?_
      refine j_gi hJ kR_0 fR_15_78 rfl fl_X12_631 dX12_advance_104 (fun v7 ev7 gv7 => ?_)
      have hF := hF v7 ev7 gv7
      refine j_callVi hJ (c_X12_byteAt (l := l) (D := D) (cy := cy) (ad := ad) hin) rfl om_1344 ⟨rfl, rfl, Nat.le_of_ble_eq_true rfl, Nat.le_of_ble_eq_true rfl⟩ [.int (Ii v7)] mv_X12_634 hd_X12_byteAtv kR_0 rfl rfl rfl (Nat.le_of_ble_eq_true rfl) dX12_advance_107 ⟨v7, rfl, gv7, hF⟩ (fun r8 M9 gr8 qM9 => ?_)
      have hF := qM9 gr8
      refine j_callSz hJ (c_X12_isDigit (l := l) (D := D) (cy := cy) (ad := ad) hin) rfl om_1037 ⟨rfl, rfl, Nat.le_of_ble_eq_true rfl, Nat.le_of_ble_eq_true rfl⟩ [.int (Ii r8)] mv_X12_394 hd_X12_isDigit rfl (Nat.le_of_ble_eq_true rfl) dX12_advance_110 ⟨r8, rfl, gr8, hF⟩ (fun r10 M11 gr10 qM11 => ?_)
      have hF := qM11 gr10
      refine j_if_eq hJ 172 (jz_ri gr10) dX12_advance_113 (by decide) (fun z12 => ?_) (fun z12 => ?_)
      · have hF := hF.1 z12
        refine j_aload_n hJ dX12_advance_172 rfl 0 rfl ?_
        refine j_aload_n hJ dX12_advance_173 rfl 0 rfl ?_
        refine j_gi hJ kR_0 fR_15_78 rfl fl_X12_631 dX12_advance_174 (fun v13 ev13 gv13 => ?_)
        have hF := hF v13 ev13 gv13
        refine j_aload_n hJ dX12_advance_177 rfl 0 rfl ?_
        refine j_gi hJ kR_0 fR_15_79 rfl fl_X12_637 dX12_advance_178 (fun v14 ev14 gv14 => ?_)
        have hF := hF v14 ev14 gv14
        refine j_isub hJ dX12_advance_181 ?_
        have g15 := hF.1; have hF := hF.2
        refine j_bipush hJ dX12_advance_182 (by decide) ?_
        refine j_icmp_le hJ 191 g15 rk_10 dX12_advance_184 (by decide) (fun z16 => ?_) (fun z16 => ?_)
        · have hF := hF.1 z16
          refine j_iconst hJ dX12_advance_191 ?_
          exact j_sub hJ [] rfl (k_X12_advance_b192 hin  hJ  1 _ rk_1 hF)
        · have hF := hF.2 z16
          refine j_iconst hJ dX12_advance_187 ?_
          refine j_goto hJ 192 dX12_advance_188 (by decide) ?_
          exact j_sub hJ [] rfl (k_X12_advance_b192 hin  hJ  4 _ rk_4 hF)
      · have hF := hF.2 z12
        exact j_sub hJ [0] rfl (k_X12_advance_b116 hin  hJ ih  _  hF)
  intro  M  hF
  obtain ⟨n, hF⟩ := hF
  exact H9 n  M  hF
set_option maxHeartbeats 4000000 in
set_option maxRecDepth 100000 in
theorem k_X12_advance_b9 {l : Launch} {D : va_G} {cy : Nat → ClassId} {ad : Nat → Nat} {Q : Int → MM → Prop} {J : Nat → List (Nat × Value) → List Value → MM → Prop} (hin : jIn ad ksR.length)   (hJ : jOk l D vwCl (tyR cy) cy ad ftR ksR (XtR ad) Om RX12 cX12_advance 5 0 ({ frames := 2, cells := 0, slots := 0, locals := 40 } : Room) Q J)  : ∀ (x1 : Int) (M : MM), ri_ x1 → w_X12_advance_b9  Q  x1 M → J 9 [(0, .ref (ad 0)), (1, .int (Ii x1))] [] M := by
  have H9 : ∀ (n : Nat) (x1 : Int) (M : MM), ri_ x1 → jit (fun _ _ => False) (wb_X12_advance_b9  Q ) n x1 M → J 9 [(0, .ref (ad 0)), (1, .int (Ii x1))] [] M := by
    intro n
    induction n with
    | zero => intro x1 M gx1 hF; exact False.elim hF
    | succ n ih =>
    intro x1 M gx1 hF
    have hF : wb_X12_advance_b9  Q  (jit (fun _ _ => False) (wb_X12_advance_b9  Q ) n) x1 M := hF
    unfold wb_X12_advance_b9 at hF
    refine j_iload_n hJ dX12_advance_9 rfl 1 rfl ?_
    refine j_bipush hJ dX12_advance_10 (by decide) ?_
    refine j_icmp_eq hJ 33 gx1 rk_9 dX12_advance_12 (by decide) (fun z1 => ?_) (fun z1 => ?_)
    · have hF := hF.1 z1
      exact j_sub hJ [0] rfl (k_X12_advance_b33 hin  hJ ih  _  hF)
    · have hF := hF.2 z1
      refine j_iload_n hJ dX12_advance_15 rfl 1 rfl ?_
      refine j_bipush hJ dX12_advance_16 (by decide) ?_
      refine j_icmp_eq hJ 33 gx1 rk_10 dX12_advance_18 (by decide) (fun z2 => ?_) (fun z2 => ?_)
      · have hF := hF.1 z2
        exact j_sub hJ [0] rfl (k_X12_advance_b33 hin  hJ ih  _  hF)
      · have hF := hF.2 z2
        refine j_iload_n hJ dX12_advance_21 rfl 1 rfl ?_
        refine j_bipush hJ dX12_advance_22 (by decide) ?_
        refine j_icmp_eq hJ 33 gx1 rk_13 dX12_advance_24 (by decide) (fun z3 => ?_) (fun z3 => ?_)
        · have hF := hF.1 z3
          exact j_sub hJ [0] rfl (k_X12_advance_b33 hin  hJ ih  _  hF)
        · have hF := hF.2 z3
          refine j_iload_n hJ dX12_advance_27 rfl 1 rfl ?_
          refine j_bipush hJ dX12_advance_28 (by decide) ?_
          refine j_icmp_ne hJ 55 gx1 rk_32 dX12_advance_30 (by decide) (fun z4 => ?_) (fun z4 => ?_)
          · have hF := hF.1 z4
            refine j_aload_n hJ dX12_advance_55 rfl 0 rfl ?_
            refine j_aload_n hJ dX12_advance_56 rfl 0 rfl ?_
            refine j_gi hJ kR_0 fR_15_78 rfl fl_X12_631 dX12_advance_57 (fun v5 ev5 gv5 => ?_)
            have hF := hF v5 ev5 gv5
            refine j_pi hJ gv5 kR_0 fR_15_79 rfl fp_X12_637 dX12_advance_60 (fun M6 eM6 => ?_)
            have hF := hF M6 eM6
            refine j_aload_n hJ dX12_advance_63 rfl 0 rfl ?_
            refine j_lconst (x := 0) hJ dX12_advance_64 rfl ?_
            refine j_pl hJ lkm_0 kR_0 fR_15_85 rfl fp_X12_640 dX12_advance_65 (fun M7 eM7 => ?_)
            have hF := hF M7 eM7
            refine j_iload_n hJ dX12_advance_68 rfl 1 rfl ?_
            refine j_iconst hJ dX12_advance_69 ?_
            refine j_icmp_ne hJ 81 gx1 rk_m1 dX12_advance_70 (by decide) (fun z8 => ?_) (fun z8 => ?_)
            · have hF := hF.1 z8
              refine j_iload_n hJ dX12_advance_81 rfl 1 rfl ?_
              refine j_callSz hJ (c_X12_isLetter (l := l) (D := D) (cy := cy) (ad := ad) hin) rfl om_1050 ⟨rfl, rfl, Nat.le_of_ble_eq_true rfl, Nat.le_of_ble_eq_true rfl⟩ [.int (Ii x1)] mv_X12_406 hd_X12_isLetter rfl (Nat.le_of_ble_eq_true rfl) dX12_advance_82 ⟨x1, rfl, gx1, hF⟩ (fun r9 M10 gr9 qM10 => ?_)
              have hF := qM10 gr9
              refine j_if_eq hJ 198 (jz_ri gr9) dX12_advance_85 (by decide) (fun z11 => ?_) (fun z11 => ?_)
              · have hF := hF.1 z11
                refine j_iload_n hJ dX12_advance_198 rfl 1 rfl ?_
                refine j_callSz hJ (c_X12_isDigit (l := l) (D := D) (cy := cy) (ad := ad) hin) rfl om_1037 ⟨rfl, rfl, Nat.le_of_ble_eq_true rfl, Nat.le_of_ble_eq_true rfl⟩ [.int (Ii x1)] mv_X12_394 hd_X12_isDigit rfl (Nat.le_of_ble_eq_true rfl) dX12_advance_199 ⟨x1, rfl, gx1, hF⟩ (fun r12 M13 gr12 qM13 => ?_)
                have hF := qM13 gr12
                refine j_if_eq hJ 302 (jz_ri gr12) dX12_advance_202 (by decide) (fun z14 => ?_) (fun z14 => ?_)
                · have hF := hF.1 z14
                  refine j_aload_n hJ dX12_advance_302 rfl 0 rfl ?_
                  refine j_aload_n hJ dX12_advance_303 rfl 0 rfl ?_
                  refine j_gi hJ kR_0 fR_15_78 rfl fl_X12_631 dX12_advance_304 (fun v15 ev15 gv15 => ?_)
                  have hF := hF v15 ev15 gv15
                  refine j_iconst hJ dX12_advance_307 ?_
                  refine j_iadd hJ dX12_advance_308 ?_
                  have g16 := hF.1; have hF := hF.2
                  refine j_callVi hJ (c_X12_byteAt (l := l) (D := D) (cy := cy) (ad := ad) hin) rfl om_1344 ⟨rfl, rfl, Nat.le_of_ble_eq_true rfl, Nat.le_of_ble_eq_true rfl⟩ [.int (Ii (v15 + 1))] mv_X12_634 hd_X12_byteAtv kR_0 rfl rfl rfl (Nat.le_of_ble_eq_true rfl) dX12_advance_309 ⟨(v15 + 1), rfl, g16, hF⟩ (fun r17 M18 gr17 qM18 => ?_)
                  have hF := qM18 gr17
                  refine j_istore_n (lv' := [(2, .int (Ii r17)), (0, .ref (ad 0)), (1, .int (Ii x1))]) hJ dX12_advance_312 rfl (by decide) rfl ?_
                  refine j_iload_n hJ dX12_advance_313 rfl 2 rfl ?_
                  refine j_bipush hJ dX12_advance_314 (by decide) ?_
                  refine j_icmp_eq hJ 331 gx1 rk_33 dX12_advance_316 (by decide) (fun z19 => ?_) (fun z19 => ?_)
                  · have hF := hF.1 z19
                    exact j_sub hJ [1, 2, 0] rfl (k_X12_advance_b331 hin  hJ  x1 r17 _ gx1 gr17 hF)
                  · have hF := hF.2 z19
                    refine j_iload_n hJ dX12_advance_319 rfl 2 rfl ?_
                    refine j_bipush hJ dX12_advance_320 (by decide) ?_
                    refine j_icmp_eq hJ 331 gx1 rk_60 dX12_advance_322 (by decide) (fun z20 => ?_) (fun z20 => ?_)
                    · have hF := hF.1 z20
                      exact j_sub hJ [1, 2, 0] rfl (k_X12_advance_b331 hin  hJ  x1 r17 _ gx1 gr17 hF)
                    · have hF := hF.2 z20
                      refine j_iload_n hJ dX12_advance_325 rfl 2 rfl ?_
                      refine j_bipush hJ dX12_advance_326 (by decide) ?_
                      refine j_icmp_ne hJ 341 gx1 rk_62 dX12_advance_328 (by decide) (fun z21 => ?_) (fun z21 => ?_)
                      · have hF := hF.1 z21
                        exact j_sub hJ [1, 2, 0] rfl (k_X12_advance_b341 hin  hJ  x1 r17 _ gx1 gr17 hF)
                      · have hF := hF.2 z21
                        exact j_sub hJ [1, 2, 0] rfl (k_X12_advance_b331 hin  hJ  x1 r17 _ gx1 gr17 hF)
                · have hF := hF.2 z14
                  exact j_sub hJ [0] rfl (k_X12_advance_b205 hin  hJ   _  hF)
              · have hF := hF.2 z11
                exact j_sub hJ [0] rfl (k_X12_advance_b88 hin  hJ   _  hF)
            · have hF := hF.2 z8
              refine j_aload_n hJ dX12_advance_73 rfl 0 rfl ?_
              refine j_iconst hJ dX12_advance_74 ?_
              refine j_pi hJ rk_0 kR_0 fR_15_80 rfl fp_X12_644 dX12_advance_75 (fun M22 eM22 => ?_)
              have hF := hF M22 eM22
              refine j_goto hJ 504 dX12_advance_78 (by decide) ?_
              exact j_vret hJ rfl dX12_advance_504 hF
          · have hF := hF.2 z4
            exact j_sub hJ [0] rfl (k_X12_advance_b33 hin  hJ ih  _  hF)
  intro x1 M gx1 hF
  obtain ⟨n, hF⟩ := hF
  exact H9 n x1 M gx1 hF
set_option maxHeartbeats 4000000 in
set_option maxRecDepth 100000 in
theorem c_X12_advance {l : Launch} {D : va_G} {cy : Nat → ClassId} {ad : Nat → Nat} (hin : jIn ad ksR.length) : jCN l D vwCl (tyR cy) cy ad ftR ksR (XtR ad) yX12_advance (.code yX12_advance cX12_advance 5 none :: Om) ({ frames := 2, cells := 0, slots := 0, locals := 40 } : Room) 0 (W_X12_advance ad) := by
  refine jCN_of (y := yX12_advance) (cc := cX12_advance) (nL := 5) (rk := 0) (rm := ({ frames := 2, cells := 0, slots := 0, locals := 40 } : Room)) (own := RX12) (tyR_ok cy) hin (XtR_ok ad) Om_good (by decide) rfl ?_
  intro Q av M hF
  obtain ⟨rfl, hF⟩ := hF
  refine ⟨Nat.le_of_ble_eq_true rfl, fun J hJ => ?_⟩
  show J 0 [(0, .ref (ad 0))] [] M
  unfold w_X12_advance at hF
  refine j_aload_n hJ dX12_advance_0 rfl 0 rfl ?_
  refine j_aload_n hJ dX12_advance_1 rfl 0 rfl ?_
  refine j_gi hJ kR_0 fR_15_78 rfl fl_X12_631 dX12_advance_2 (fun v1 ev1 gv1 => ?_)
  have hF := hF v1 ev1 gv1
  refine j_callVi hJ (c_X12_byteAt (l := l) (D := D) (cy := cy) (ad := ad) hin) rfl om_1344 ⟨rfl, rfl, Nat.le_of_ble_eq_true rfl, Nat.le_of_ble_eq_true rfl⟩ [.int (Ii v1)] mv_X12_634 hd_X12_byteAtv kR_0 rfl rfl rfl (Nat.le_of_ble_eq_true rfl) dX12_advance_5 ⟨v1, rfl, gv1, hF⟩ (fun r2 M3 gr2 qM3 => ?_)
  have hF := qM3 gr2
  refine j_istore_n (lv' := [(1, .int (Ii r2)), (0, .ref (ad 0))]) hJ dX12_advance_8 rfl (by decide) rfl ?_
  exact j_sub hJ [1, 0] rfl (k_X12_advance_b9 hin  hJ  r2 _ gr2 hF)
