def W_X12_checkOrder (ad : Nat → Nat) (Q : Int → MM → Prop) (av : List Value) (M : MM) : Prop := av = [.ref (ad 0)] ∧ w_X12_checkOrder  Q  M
set_option maxHeartbeats 4000000 in
set_option maxRecDepth 100000 in
theorem k_X12_checkOrder_b156 {l : Launch} {D : va_G} {cy : Nat → ClassId} {ad : Nat → Nat} {Q : Int → MM → Prop} {J : Nat → List (Nat × Value) → List Value → MM → Prop} (hin : jIn ad ksR.length)   (hJ : jOk l D vwCl (tyR cy) cy ad ftR ksR (XtR ad) Om RX12 cX12_checkOrder 6 0 ({ frames := 3, cells := 0, slots := 0, locals := 70 } : Room) Q J)  : ∀ (x1 : Int) (M : MM), ri_ x1 → w_X12_checkOrder_b156  Q  x1 M → J 156 [(0, .ref (ad 0)), (1, .int (Ii x1))] [] M := by
  intro x1 M gx1 hF
  unfold w_X12_checkOrder_b156 at hF
  refine j_aload_n hJ dX12_checkOrder_156 rfl 0 rfl ?_
  refine j_gi hJ kR_0 fR_15_83 rfl fl_X12_625 dX12_checkOrder_157 (fun v1 ev1 gv1 => ?_)
  have hF := hF v1 ev1 gv1
  refine j_if_ne hJ 185 gv1 dX12_checkOrder_160 (by decide) (fun z2 => ?_) (fun z2 => ?_)
  · have hF := hF.1 z2
    exact j_vret hJ rfl dX12_checkOrder_185 hF
  · have hF := hF.2 z2
    refine j_iload_n hJ dX12_checkOrder_163 rfl 1 rfl ?_
    refine j_aload_n hJ dX12_checkOrder_164 rfl 0 rfl ?_
    refine j_gr (e := 38) hJ kR_0 fR_15_48 fl_X12_183 dX12_checkOrder_165 rfl ?_
    refine j_iconst hJ dX12_checkOrder_168 ?_
    refine j_iald hJ rk_4 kR_38 (by decide) (by decide) dX12_checkOrder_169 (fun v3 ev3 gv3 => ?_)
    have hF := hF v3 ev3 gv3
    refine j_icmp_ge hJ 185 gx1 gv3 dX12_checkOrder_170 (by decide) (fun z4 => ?_) (fun z4 => ?_)
    · have hF := hF.1 z4
      exact j_vret hJ rfl dX12_checkOrder_185 hF
    · have hF := hF.2 z4
      refine j_aload_n hJ dX12_checkOrder_173 rfl 0 rfl ?_
      refine j_bipush hJ dX12_checkOrder_174 (by decide) ?_
      refine j_aload_n hJ dX12_checkOrder_176 rfl 0 rfl ?_
      refine j_gr (e := 100) hJ kR_0 fR_15_144 fl_X12_375 dX12_checkOrder_177 rfl ?_
      refine j_iload_n hJ dX12_checkOrder_180 rfl 1 rfl ?_
      refine j_iald hJ gx1 kR_100 hF.1 hF.2.1 dX12_checkOrder_181 (fun v5 ev5 gv5 => ?_)
      have hF := hF.2.2 v5 ev5 gv5
      refine j_callVv hJ (c_X12_fail (l := l) (D := D) (cy := cy) (ad := ad) hin) rfl om_1351 ⟨rfl, rfl, Nat.le_of_ble_eq_true rfl, Nat.le_of_ble_eq_true rfl⟩ [.int (Ii 7), .int (Ii v5)] mv_X12_653 hd_X12_failv kR_0 rfl rfl rfl (Nat.le_of_ble_eq_true rfl) dX12_checkOrder_182 ⟨7, v5, rfl, rk_7, gv5, hF⟩ (fun M7 qM7 => ?_)
      have hF := qM7
      exact j_vret hJ rfl dX12_checkOrder_185 hF
set_option maxHeartbeats 4000000 in
set_option maxRecDepth 100000 in
theorem k_X12_checkOrder_b150 {l : Launch} {D : va_G} {cy : Nat → ClassId} {ad : Nat → Nat} {Q : Int → MM → Prop} {J : Nat → List (Nat × Value) → List Value → MM → Prop} (hin : jIn ad ksR.length)   (hJ : jOk l D vwCl (tyR cy) cy ad ftR ksR (XtR ad) Om RX12 cX12_checkOrder 6 0 ({ frames := 3, cells := 0, slots := 0, locals := 70 } : Room) Q J) {K70 : Int → Int → MM → Prop} (hK70 : ∀ (x1 x2 : Int) (M : MM), ri_ x1 → ri_ x2 → K70 x1 x2 M → J 70 [(0, .ref (ad 0)), (1, .int (Ii x1)), (2, .int (Ii x2))] [] M) : ∀ (x1 x2 : Int) (M : MM), ri_ x1 → ri_ x2 → w_X12_checkOrder_b150  Q K70 x1 x2 M → J 150 [(0, .ref (ad 0)), (1, .int (Ii x1)), (2, .int (Ii x2))] [] M := by
  intro x1 x2 M gx1 gx2 hF
  unfold w_X12_checkOrder_b150 at hF
  refine j_iinc (lv' := [(2, .int (Ii (x2 + 1))), (0, .ref (ad 0)), (1, .int (Ii x1))]) (k := 2) hJ dX12_checkOrder_150 rfl (by decide) rfl ?_
  have g1 := hF.1; have hF := hF.2
  refine j_goto hJ 70 dX12_checkOrder_153 (by decide) ?_
  exact j_sub hJ [1, 2, 0] rfl (hK70 x1 (x2 + 1) _ gx1 g1 hF)
set_option maxHeartbeats 4000000 in
set_option maxRecDepth 100000 in
theorem k_X12_checkOrder_b144 {l : Launch} {D : va_G} {cy : Nat → ClassId} {ad : Nat → Nat} {Q : Int → MM → Prop} {J : Nat → List (Nat × Value) → List Value → MM → Prop} (hin : jIn ad ksR.length)   (hJ : jOk l D vwCl (tyR cy) cy ad ftR ksR (XtR ad) Om RX12 cX12_checkOrder 6 0 ({ frames := 3, cells := 0, slots := 0, locals := 70 } : Room) Q J) {K70 : Int → Int → MM → Prop} (hK70 : ∀ (x1 x2 : Int) (M : MM), ri_ x1 → ri_ x2 → K70 x1 x2 M → J 70 [(0, .ref (ad 0)), (1, .int (Ii x1)), (2, .int (Ii x2))] [] M) {K84 : Int → Int → Int → MM → Prop} (hK84 : ∀ (x1 x2 x3 : Int) (M : MM), ri_ x1 → ri_ x2 → ri_ x3 → K84 x1 x2 x3 M → J 84 [(0, .ref (ad 0)), (1, .int (Ii x1)), (2, .int (Ii x2)), (3, .int (Ii x3))] [] M) : ∀ (x1 x2 x3 : Int) (M : MM), ri_ x1 → ri_ x2 → ri_ x3 → w_X12_checkOrder_b144  Q K70 K84 x1 x2 x3 M → J 144 [(0, .ref (ad 0)), (1, .int (Ii x1)), (2, .int (Ii x2)), (3, .int (Ii x3))] [] M := by
  intro x1 x2 x3 M gx1 gx2 gx3 hF
  unfold w_X12_checkOrder_b144 at hF
  refine j_iinc (lv' := [(3, .int (Ii (x3 + 1))), (0, .ref (ad 0)), (1, .int (Ii x1)), (2, .int (Ii x2))]) (k := 3) hJ dX12_checkOrder_144 rfl (by decide) rfl ?_
  have g1 := hF.1; have hF := hF.2
  refine j_goto hJ 84 dX12_checkOrder_147 (by decide) ?_
  exact j_sub hJ [1, 2, 3, 0] rfl (hK84 x1 x2 (x3 + 1) _ gx1 gx2 g1 hF)
set_option maxHeartbeats 4000000 in
set_option maxRecDepth 100000 in
theorem k_X12_checkOrder_b124 {l : Launch} {D : va_G} {cy : Nat → ClassId} {ad : Nat → Nat} {Q : Int → MM → Prop} {J : Nat → List (Nat × Value) → List Value → MM → Prop} (hin : jIn ad ksR.length)   (hJ : jOk l D vwCl (tyR cy) cy ad ftR ksR (XtR ad) Om RX12 cX12_checkOrder 6 0 ({ frames := 3, cells := 0, slots := 0, locals := 70 } : Room) Q J) {K70 : Int → Int → MM → Prop} (hK70 : ∀ (x1 x2 : Int) (M : MM), ri_ x1 → ri_ x2 → K70 x1 x2 M → J 70 [(0, .ref (ad 0)), (1, .int (Ii x1)), (2, .int (Ii x2))] [] M) {K84 : Int → Int → Int → MM → Prop} (hK84 : ∀ (x1 x2 x3 : Int) (M : MM), ri_ x1 → ri_ x2 → ri_ x3 → K84 x1 x2 x3 M → J 84 [(0, .ref (ad 0)), (1, .int (Ii x1)), (2, .int (Ii x2)), (3, .int (Ii x3))] [] M) : ∀ (x1 x2 x3 s0 : Int) (M : MM), ri_ x1 → ri_ x2 → ri_ x3 → rl_ s0 → w_X12_checkOrder_b124  Q K70 K84 x1 x2 x3 s0 M → J 124 [(0, .ref (ad 0)), (1, .int (Ii x1)), (2, .int (Ii x2)), (3, .int (Ii x3))] [.long (Ll s0)] M := by
  intro x1 x2 x3 s0 M gx1 gx2 gx3 gs0 hF
  unfold w_X12_checkOrder_b124 at hF
  refine j_lstore (lv' := [(4, .long (Ll s0)), (0, .ref (ad 0)), (1, .int (Ii x1)), (2, .int (Ii x2)), (3, .int (Ii x3))]) hJ dX12_checkOrder_124 (by decide) rfl ?_
  refine j_lload hJ dX12_checkOrder_126 0 rfl ?_
  refine j_ldc2 hJ (-1) om_1068 (by decide) dX12_checkOrder_128 ?_
  refine j_lcmp_eq hJ 144 gs0 lk_m1 dX12_checkOrder_131 dX12_checkOrder_132 (by decide) (fun z1 => ?_) (fun z1 => ?_)
  · have hF := hF.1 z1
    exact j_sub hJ [1, 2, 3, 4] rfl (k_X12_checkOrder_b144 hin  hJ hK70 hK84 x1 x2 x3 _ gx1 gx2 gx3 hF)
  · have hF := hF.2 z1
    refine j_aload_n hJ dX12_checkOrder_135 rfl 1 rfl ?_
    refine j_lload hJ dX12_checkOrder_136 0 rfl ?_
    refine j_l2i hJ dX12_checkOrder_138 ?_
    have g2 := hF.1; have hF := hF.2
    refine j_iload_n hJ dX12_checkOrder_139 rfl 2 rfl ?_
    refine j_callVi hJ (c_X12_meetNext (l := l) (D := D) (cy := cy) (ad := ad) hin) rfl om_1569 ⟨rfl, rfl, Nat.le_of_ble_eq_true rfl, Nat.le_of_ble_eq_true rfl⟩ [.int (Ii s0), .int (Ii x1)] mv_X12_1001 hd_X12_meetNextv kR_0 rfl rfl rfl (Nat.le_of_ble_eq_true rfl) dX12_checkOrder_140 ⟨s0, x1, rfl, g2, gx1, hF⟩ (fun r3 M4 gr3 qM4 => ?_)
    have hF := qM4 gr3
    refine j_istore_n (lv' := [(1, .int (Ii r3)), (4, .long (Ll s0)), (0, .ref (ad 0)), (2, .int (Ii x2)), (3, .int (Ii x3))]) hJ dX12_checkOrder_143 rfl (by decide) rfl ?_
    exact j_sub hJ [2, 0, 3, 4] rfl (k_X12_checkOrder_b144 hin  hJ hK70 hK84 r3 x2 x3 _ gr3 gx2 gx3 hF)
set_option maxHeartbeats 4000000 in
set_option maxRecDepth 100000 in
theorem k_X12_checkOrder_b84 {l : Launch} {D : va_G} {cy : Nat → ClassId} {ad : Nat → Nat} {Q : Int → MM → Prop} {J : Nat → List (Nat × Value) → List Value → MM → Prop} (hin : jIn ad ksR.length)   (hJ : jOk l D vwCl (tyR cy) cy ad ftR ksR (XtR ad) Om RX12 cX12_checkOrder 6 0 ({ frames := 3, cells := 0, slots := 0, locals := 70 } : Room) Q J) {K70 : Int → Int → MM → Prop} (hK70 : ∀ (x1 x2 : Int) (M : MM), ri_ x1 → ri_ x2 → K70 x1 x2 M → J 70 [(0, .ref (ad 0)), (1, .int (Ii x1)), (2, .int (Ii x2))] [] M) : ∀ (x1 x2 x3 : Int) (M : MM), ri_ x1 → ri_ x2 → ri_ x3 → w_X12_checkOrder_b84  Q K70 x1 x2 x3 M → J 84 [(0, .ref (ad 0)), (1, .int (Ii x1)), (2, .int (Ii x2)), (3, .int (Ii x3))] [] M := by
  have H9 : ∀ (n : Nat) (x1 x2 x3 : Int) (M : MM), ri_ x1 → ri_ x2 → ri_ x3 → jit (fun _ _ _ _ => False) (wb_X12_checkOrder_b84  Q K70) n x1 x2 x3 M → J 84 [(0, .ref (ad 0)), (1, .int (Ii x1)), (2, .int (Ii x2)), (3, .int (Ii x3))] [] M := by
    intro n
    induction n with
    | zero => intro x1 x2 x3 M gx1 gx2 gx3 hF; exact False.elim hF
    | succ n ih =>
    intro x1 x2 x3 M gx1 gx2 gx3 hF
    have hF : wb_X12_checkOrder_b84  Q K70 (jit (fun _ _ _ _ => False) (wb_X12_checkOrder_b84  Q K70) n) x1 x2 x3 M := hF
    unfold wb_X12_checkOrder_b84 at hF
    refine j_iload_n hJ dX12_checkOrder_84 rfl 3 rfl ?_
    refine j_aload_n hJ dX12_checkOrder_85 rfl 0 rfl ?_
    refine j_iconst hJ dX12_checkOrder_86 ?_
    refine j_iload_n hJ dX12_checkOrder_87 rfl 2 rfl ?_
    refine j_callVi hJ (c_X12_slotsIn (l := l) (D := D) (cy := cy) (ad := ad) hin) rfl om_1165 ⟨rfl, rfl, Nat.le_of_ble_eq_true rfl, Nat.le_of_ble_eq_true rfl⟩ [.int (Ii 4), .int (Ii x2)] mv_X12_570 hd_X12_slotsInv kR_0 rfl rfl rfl (Nat.le_of_ble_eq_true rfl) dX12_checkOrder_88 ⟨4, x2, rfl, rk_4, gx2, hF⟩ (fun r1 M2 gr1 qM2 => ?_)
    have hF := qM2 gr1
    refine j_icmp_ge hJ 150 gx3 gr1 dX12_checkOrder_91 (by decide) (fun z3 => ?_) (fun z3 => ?_)
    · have hF := hF.1 z3
      exact j_sub hJ [0, 1, 2] rfl (k_X12_checkOrder_b150 hin  hJ hK70 x1 x2 _ gx1 gx2 hF)
    · have hF := hF.2 z3
      refine j_aload_n hJ dX12_checkOrder_94 rfl 0 rfl ?_
      refine j_gi hJ kR_0 fR_15_83 rfl fl_X12_625 dX12_checkOrder_95 (fun v4 ev4 gv4 => ?_)
      have hF := hF v4 ev4 gv4
      refine j_if_ne hJ 150 gv4 dX12_checkOrder_98 (by decide) (fun z5 => ?_) (fun z5 => ?_)
      · have hF := hF.1 z5
        exact j_sub hJ [0, 1, 2] rfl (k_X12_checkOrder_b150 hin  hJ hK70 x1 x2 _ gx1 gx2 hF)
      · have hF := hF.2 z5
        refine j_aload_n hJ dX12_checkOrder_101 rfl 0 rfl ?_
        refine j_iconst hJ dX12_checkOrder_102 ?_
        refine j_iload_n hJ dX12_checkOrder_103 rfl 2 rfl ?_
        refine j_iload_n hJ dX12_checkOrder_104 rfl 3 rfl ?_
        refine j_callVz hJ (c_X12_linksIn (l := l) (D := D) (cy := cy) (ad := ad) hin) rfl om_1169 ⟨rfl, rfl, Nat.le_of_ble_eq_true rfl, Nat.le_of_ble_eq_true rfl⟩ [.int (Ii 4), .int (Ii x2), .int (Ii x3)] mv_X12_573 hd_X12_linksInv kR_0 rfl rfl rfl (Nat.le_of_ble_eq_true rfl) dX12_checkOrder_105 ⟨4, x2, x3, rfl, rk_4, gx2, gx3, hF⟩ (fun r6 M7 gr6 qM7 => ?_)
        have hF := qM7 gr6
        refine j_if_eq hJ 121 (jz_ri gr6) dX12_checkOrder_108 (by decide) (fun z8 => ?_) (fun z8 => ?_)
        · have hF := hF.1 z8
          refine j_ldc2 hJ (-1) om_1068 (by decide) dX12_checkOrder_121 ?_
          exact j_sub hJ [0, 1, 2, 3] rfl (k_X12_checkOrder_b124 hin  hJ hK70 ih x1 x2 x3 (-1) _ gx1 gx2 gx3 lk_m1 hF)
        · have hF := hF.2 z8
          refine j_aload_n hJ dX12_checkOrder_111 rfl 0 rfl ?_
          refine j_iconst hJ dX12_checkOrder_112 ?_
          refine j_iload_n hJ dX12_checkOrder_113 rfl 2 rfl ?_
          refine j_iload_n hJ dX12_checkOrder_114 rfl 3 rfl ?_
          refine j_callVl hJ (c_X12_valueIn (l := l) (D := D) (cy := cy) (ad := ad) hin) rfl om_1173 ⟨rfl, rfl, Nat.le_of_ble_eq_true rfl, Nat.le_of_ble_eq_true rfl⟩ [.int (Ii 4), .int (Ii x2), .int (Ii x3)] mv_X12_577 hd_X12_valueInv kR_0 rfl rfl rfl (Nat.le_of_ble_eq_true rfl) dX12_checkOrder_115 ⟨4, x2, x3, rfl, rk_4, gx2, gx3, hF⟩ (fun r9 M10 gr9 qM10 => ?_)
          have hF := qM10 gr9
          refine j_goto hJ 124 dX12_checkOrder_118 (by decide) ?_
          exact j_sub hJ [0, 1, 2, 3] rfl (k_X12_checkOrder_b124 hin  hJ hK70 ih x1 x2 x3 r9 _ gx1 gx2 gx3 gr9 hF)
  intro x1 x2 x3 M gx1 gx2 gx3 hF
  obtain ⟨n, hF⟩ := hF
  exact H9 n x1 x2 x3 M gx1 gx2 gx3 hF
set_option maxHeartbeats 4000000 in
set_option maxRecDepth 100000 in
theorem k_X12_checkOrder_b70 {l : Launch} {D : va_G} {cy : Nat → ClassId} {ad : Nat → Nat} {Q : Int → MM → Prop} {J : Nat → List (Nat × Value) → List Value → MM → Prop} (hin : jIn ad ksR.length)   (hJ : jOk l D vwCl (tyR cy) cy ad ftR ksR (XtR ad) Om RX12 cX12_checkOrder 6 0 ({ frames := 3, cells := 0, slots := 0, locals := 70 } : Room) Q J)  : ∀ (x1 x2 : Int) (M : MM), ri_ x1 → ri_ x2 → w_X12_checkOrder_b70  Q  x1 x2 M → J 70 [(0, .ref (ad 0)), (1, .int (Ii x1)), (2, .int (Ii x2))] [] M := by
  have H9 : ∀ (n : Nat) (x1 x2 : Int) (M : MM), ri_ x1 → ri_ x2 → jit (fun _ _ _ => False) (wb_X12_checkOrder_b70  Q ) n x1 x2 M → J 70 [(0, .ref (ad 0)), (1, .int (Ii x1)), (2, .int (Ii x2))] [] M := by
    intro n
    induction n with
    | zero => intro x1 x2 M gx1 gx2 hF; exact False.elim hF
    | succ n ih =>
    intro x1 x2 M gx1 gx2 hF
    have hF : wb_X12_checkOrder_b70  Q  (jit (fun _ _ _ => False) (wb_X12_checkOrder_b70  Q ) n) x1 x2 M := hF
    unfold wb_X12_checkOrder_b70 at hF
    refine j_iload_n hJ dX12_checkOrder_70 rfl 2 rfl ?_
    refine j_iload_n hJ dX12_checkOrder_71 rfl 1 rfl ?_
    refine j_icmp_ge hJ 156 gx2 gx1 dX12_checkOrder_72 (by decide) (fun z1 => ?_) (fun z1 => ?_)
    · have hF := hF.1 z1
      exact j_sub hJ [0, 1] rfl (k_X12_checkOrder_b156 hin  hJ  x1 _ gx1 hF)
    · have hF := hF.2 z1
      refine j_aload_n hJ dX12_checkOrder_75 rfl 0 rfl ?_
      refine j_gi hJ kR_0 fR_15_83 rfl fl_X12_625 dX12_checkOrder_76 (fun v2 ev2 gv2 => ?_)
      have hF := hF v2 ev2 gv2
      refine j_if_ne hJ 156 gv2 dX12_checkOrder_79 (by decide) (fun z3 => ?_) (fun z3 => ?_)
      · have hF := hF.1 z3
        exact j_sub hJ [0, 1] rfl (k_X12_checkOrder_b156 hin  hJ  x1 _ gx1 hF)
      · have hF := hF.2 z3
        refine j_iconst hJ dX12_checkOrder_82 ?_
        refine j_istore_n (lv' := [(3, .int (Ii 0)), (0, .ref (ad 0)), (1, .int (Ii x1)), (2, .int (Ii x2))]) hJ dX12_checkOrder_83 rfl (by decide) rfl ?_
        exact j_sub hJ [1, 2, 3, 0] rfl (k_X12_checkOrder_b84 hin  hJ ih x1 x2 0 _ gx1 gx2 rk_0 hF)
  intro x1 x2 M gx1 gx2 hF
  obtain ⟨n, hF⟩ := hF
  exact H9 n x1 x2 M gx1 gx2 hF
set_option maxHeartbeats 4000000 in
set_option maxRecDepth 100000 in
theorem k_X12_checkOrder_b68 {l : Launch} {D : va_G} {cy : Nat → ClassId} {ad : Nat → Nat} {Q : Int → MM → Prop} {J : Nat → List (Nat × Value) → List Value → MM → Prop} (hin : jIn ad ksR.length)   (hJ : jOk l D vwCl (tyR cy) cy ad ftR ksR (XtR ad) Om RX12 cX12_checkOrder 6 0 ({ frames := 3, cells := 0, slots := 0, locals := 70 } : Room) Q J)  : ∀ (x1 : Int) (M : MM), ri_ x1 → w_X12_checkOrder_b68  Q  x1 M → J 68 [(0, .ref (ad 0)), (1, .int (Ii x1))] [] M := by
  intro x1 M gx1 hF
  unfold w_X12_checkOrder_b68 at hF
  refine j_iconst hJ dX12_checkOrder_68 ?_
  refine j_istore_n (lv' := [(2, .int (Ii 0)), (0, .ref (ad 0)), (1, .int (Ii x1))]) hJ dX12_checkOrder_69 rfl (by decide) rfl ?_
  exact j_sub hJ [1, 2, 0] rfl (k_X12_checkOrder_b70 hin  hJ  x1 0 _ gx1 rk_0 hF)
set_option maxHeartbeats 4000000 in
set_option maxRecDepth 100000 in
theorem k_X12_checkOrder_b29 {l : Launch} {D : va_G} {cy : Nat → ClassId} {ad : Nat → Nat} {Q : Int → MM → Prop} {J : Nat → List (Nat × Value) → List Value → MM → Prop} (hin : jIn ad ksR.length)   (hJ : jOk l D vwCl (tyR cy) cy ad ftR ksR (XtR ad) Om RX12 cX12_checkOrder 6 0 ({ frames := 3, cells := 0, slots := 0, locals := 70 } : Room) Q J)  : ∀ (x1 x2 : Int) (M : MM), ri_ x1 → ri_ x2 → w_X12_checkOrder_b29  Q  x1 x2 M → J 29 [(0, .ref (ad 0)), (1, .int (Ii x1)), (2, .int (Ii x2))] [] M := by
  have H9 : ∀ (n : Nat) (x1 x2 : Int) (M : MM), ri_ x1 → ri_ x2 → jit (fun _ _ _ => False) (wb_X12_checkOrder_b29  Q ) n x1 x2 M → J 29 [(0, .ref (ad 0)), (1, .int (Ii x1)), (2, .int (Ii x2))] [] M := by
    intro n
    induction n with
    | zero => intro x1 x2 M gx1 gx2 hF; exact False.elim hF
    | succ n ih =>
    intro x1 x2 M gx1 gx2 hF
    have hF : wb_X12_checkOrder_b29  Q  (jit (fun _ _ _ => False) (wb_X12_checkOrder_b29  Q ) n) x1 x2 M := hF
    unfold wb_X12_checkOrder_b29 at hF
    refine j_iload_n hJ dX12_checkOrder_29 rfl 2 rfl ?_
    refine j_aload_n hJ dX12_checkOrder_30 rfl 0 rfl ?_
    refine j_gr (e := 55) hJ kR_0 fR_15_65 fl_X12_234 dX12_checkOrder_31 rfl ?_
    refine j_iconst hJ dX12_checkOrder_34 ?_
    refine j_iald hJ rk_4 kR_55 (by decide) (by decide) dX12_checkOrder_35 (fun v1 ev1 gv1 => ?_)
    have hF := hF v1 ev1 gv1
    refine j_icmp_ge hJ 68 gx2 gv1 dX12_checkOrder_36 (by decide) (fun z2 => ?_) (fun z2 => ?_)
    · have hF := hF.1 z2
      exact j_sub hJ [0, 1] rfl (k_X12_checkOrder_b68 hin  hJ  x1 _ gx1 hF)
    · have hF := hF.2 z2
      refine j_aload_n hJ dX12_checkOrder_39 rfl 0 rfl ?_
      refine j_gi hJ kR_0 fR_15_83 rfl fl_X12_625 dX12_checkOrder_40 (fun v3 ev3 gv3 => ?_)
      have hF := hF v3 ev3 gv3
      refine j_if_ne hJ 68 gv3 dX12_checkOrder_43 (by decide) (fun z4 => ?_) (fun z4 => ?_)
      · have hF := hF.1 z4
        exact j_sub hJ [0, 1] rfl (k_X12_checkOrder_b68 hin  hJ  x1 _ gx1 hF)
      · have hF := hF.2 z4
        refine j_aload_n hJ dX12_checkOrder_46 rfl 0 rfl ?_
        refine j_aload_n hJ dX12_checkOrder_47 rfl 0 rfl ?_
        refine j_gr (e := 57) hJ kR_0 fR_15_67 fl_X12_240 dX12_checkOrder_48 rfl ?_
        refine j_sipush hJ dX12_checkOrder_51 (by decide) ?_
        refine j_iload_n hJ dX12_checkOrder_54 rfl 2 rfl ?_
        refine j_iadd hJ dX12_checkOrder_55 ?_
        have g5 := hF.1; have hF := hF.2
        refine j_iald hJ g5 kR_57 hF.1 hF.2.1 dX12_checkOrder_56 (fun v6 ev6 gv6 => ?_)
        have hF := hF.2.2 v6 ev6 gv6
        refine j_iload_n hJ dX12_checkOrder_57 rfl 1 rfl ?_
        refine j_callVi hJ (c_X12_meetNext (l := l) (D := D) (cy := cy) (ad := ad) hin) rfl om_1569 ⟨rfl, rfl, Nat.le_of_ble_eq_true rfl, Nat.le_of_ble_eq_true rfl⟩ [.int (Ii v6), .int (Ii x1)] mv_X12_1001 hd_X12_meetNextv kR_0 rfl rfl rfl (Nat.le_of_ble_eq_true rfl) dX12_checkOrder_58 ⟨v6, x1, rfl, gv6, gx1, hF⟩ (fun r7 M8 gr7 qM8 => ?_)
        have hF := qM8 gr7
        refine j_istore_n (lv' := [(1, .int (Ii r7)), (0, .ref (ad 0)), (2, .int (Ii x2))]) hJ dX12_checkOrder_61 rfl (by decide) rfl ?_
        refine j_iinc (lv' := [(2, .int (Ii (x2 + 1))), (1, .int (Ii r7)), (0, .ref (ad 0))]) (k := 2) hJ dX12_checkOrder_62 rfl (by decide) rfl ?_
        have g9 := hF.1; have hF := hF.2
        refine j_goto hJ 29 dX12_checkOrder_65 (by decide) ?_
        exact j_sub hJ [2, 1, 0] rfl (ih r7 (x2 + 1) _ gr7 g9 hF)
  intro x1 x2 M gx1 gx2 hF
  obtain ⟨n, hF⟩ := hF
  exact H9 n x1 x2 M gx1 gx2 hF
set_option maxHeartbeats 4000000 in
set_option maxRecDepth 100000 in
theorem k_X12_checkOrder_b2 {l : Launch} {D : va_G} {cy : Nat → ClassId} {ad : Nat → Nat} {Q : Int → MM → Prop} {J : Nat → List (Nat × Value) → List Value → MM → Prop} (hin : jIn ad ksR.length)   (hJ : jOk l D vwCl (tyR cy) cy ad ftR ksR (XtR ad) Om RX12 cX12_checkOrder 6 0 ({ frames := 3, cells := 0, slots := 0, locals := 70 } : Room) Q J)  : ∀ (x1 : Int) (M : MM), ri_ x1 → w_X12_checkOrder_b2  Q  x1 M → J 2 [(0, .ref (ad 0)), (1, .int (Ii x1))] [] M := by
  have H9 : ∀ (n : Nat) (x1 : Int) (M : MM), ri_ x1 → jit (fun _ _ => False) (wb_X12_checkOrder_b2  Q ) n x1 M → J 2 [(0, .ref (ad 0)), (1, .int (Ii x1))] [] M := by
    intro n
    induction n with
    | zero => intro x1 M gx1 hF; exact False.elim hF
    | succ n ih =>
    intro x1 M gx1 hF
    have hF : wb_X12_checkOrder_b2  Q  (jit (fun _ _ => False) (wb_X12_checkOrder_b2  Q ) n) x1 M := hF
    unfold wb_X12_checkOrder_b2 at hF
    refine j_iload_n hJ dX12_checkOrder_2 rfl 1 rfl ?_
    refine j_aload_n hJ dX12_checkOrder_3 rfl 0 rfl ?_
    refine j_gr (e := 38) hJ kR_0 fR_15_48 fl_X12_183 dX12_checkOrder_4 rfl ?_
    refine j_iconst hJ dX12_checkOrder_7 ?_
    refine j_iald hJ rk_4 kR_38 (by decide) (by decide) dX12_checkOrder_8 (fun v1 ev1 gv1 => ?_)
    have hF := hF v1 ev1 gv1
    refine j_icmp_ge hJ 25 gx1 gv1 dX12_checkOrder_9 (by decide) (fun z2 => ?_) (fun z2 => ?_)
    · have hF := hF.1 z2
      refine j_iconst hJ dX12_checkOrder_25 ?_
      refine j_istore_n (lv' := [(1, .int (Ii 0)), (0, .ref (ad 0))]) hJ dX12_checkOrder_26 rfl (by decide) rfl ?_
      refine j_iconst hJ dX12_checkOrder_27 ?_
      refine j_istore_n (lv' := [(2, .int (Ii 0)), (1, .int (Ii 0)), (0, .ref (ad 0))]) hJ dX12_checkOrder_28 rfl (by decide) rfl ?_
      exact j_sub hJ [2, 1, 0] rfl (k_X12_checkOrder_b29 hin  hJ  0 0 _ rk_0 rk_0 hF)
    · have hF := hF.2 z2
      refine j_aload_n hJ dX12_checkOrder_12 rfl 0 rfl ?_
      refine j_gr (e := 60) hJ kR_0 fR_15_70 fl_X12_249 dX12_checkOrder_13 rfl ?_
      refine j_iload_n hJ dX12_checkOrder_16 rfl 1 rfl ?_
      refine j_iconst hJ dX12_checkOrder_17 ?_
      refine j_zast hJ gx1 (by decide) kR_60 hF.1 hF.2.1 dX12_checkOrder_18 (fun M3 eM3 => ?_)
      have hF := hF.2.2 M3 eM3
      refine j_iinc (lv' := [(1, .int (Ii (x1 + 1))), (0, .ref (ad 0))]) (k := 1) hJ dX12_checkOrder_19 rfl (by decide) rfl ?_
      have g4 := hF.1; have hF := hF.2
      refine j_goto hJ 2 dX12_checkOrder_22 (by decide) ?_
      exact j_sub hJ [1, 0] rfl (ih (x1 + 1) _ g4 hF)
  intro x1 M gx1 hF
  obtain ⟨n, hF⟩ := hF
  exact H9 n x1 M gx1 hF
set_option maxHeartbeats 4000000 in
set_option maxRecDepth 100000 in
theorem c_X12_checkOrder {l : Launch} {D : va_G} {cy : Nat → ClassId} {ad : Nat → Nat} (hin : jIn ad ksR.length) : jCN l D vwCl (tyR cy) cy ad ftR ksR (XtR ad) yX12_checkOrder (.code yX12_checkOrder cX12_checkOrder 6 none :: Om) ({ frames := 3, cells := 0, slots := 0, locals := 70 } : Room) 0 (W_X12_checkOrder ad) := by
  refine jCN_of (y := yX12_checkOrder) (cc := cX12_checkOrder) (nL := 6) (rk := 0) (rm := ({ frames := 3, cells := 0, slots := 0, locals := 70 } : Room)) (own := RX12) (tyR_ok cy) hin (XtR_ok ad) Om_good (by decide) rfl ?_
  intro Q av M hF
  obtain ⟨rfl, hF⟩ := hF
  refine ⟨Nat.le_of_ble_eq_true rfl, fun J hJ => ?_⟩
  show J 0 [(0, .ref (ad 0))] [] M
  unfold w_X12_checkOrder at hF
  refine j_iconst hJ dX12_checkOrder_0 ?_
  refine j_istore_n (lv' := [(1, .int (Ii 0)), (0, .ref (ad 0))]) hJ dX12_checkOrder_1 rfl (by decide) rfl ?_
  exact j_sub hJ [1, 0] rfl (k_X12_checkOrder_b2 hin  hJ  0 _ rk_0 hF)
def W_X12_takePicture (ad : Nat → Nat) (Q : Int → MM → Prop) (av : List Value) (M : MM) : Prop := av = [.ref (ad 0)] ∧ w_X12_takePicture  Q  M
set_option maxHeartbeats 4000000 in
set_option maxRecDepth 100000 in
theorem k_X12_takePicture_b327 {l : Launch} {D : va_G} {cy : Nat → ClassId} {ad : Nat → Nat} {Q : Int → MM → Prop} {J : Nat → List (Nat × Value) → List Value → MM → Prop} (hin : jIn ad ksR.length)   (hJ : jOk l D vwCl (tyR cy) cy ad ftR ksR (XtR ad) Om RX12 cX12_takePicture 6 0 ({ frames := 5, cells := 0, slots := 0, locals := 128 } : Room) Q J) {K295 : Int → MM → Prop} (hK295 : ∀ (x4 : Int) (M : MM), ri_ x4 → K295 x4 M → J 295 [(0, .ref (ad 0)), (4, .int (Ii x4))] [] M) : ∀ (x4 x5 : Int) (M : MM), ri_ x4 → ri_ x5 → w_X12_takePicture_b327  Q K295 x4 x5 M → J 327 [(0, .ref (ad 0)), (4, .int (Ii x4)), (5, .int (Ii x5))] [] M := by
  have H9 : ∀ (n : Nat) (x4 x5 : Int) (M : MM), ri_ x4 → ri_ x5 → jit (fun _ _ _ => False) (wb_X12_takePicture_b327  Q K295) n x4 x5 M → J 327 [(0, .ref (ad 0)), (4, .int (Ii x4)), (5, .int (Ii x5))] [] M := by
    intro n
    induction n with
    | zero => intro x4 x5 M gx4 gx5 hF; exact False.elim hF
    | succ n ih =>
    intro x4 x5 M gx4 gx5 hF
    have hF : wb_X12_takePicture_b327  Q K295 (jit (fun _ _ _ => False) (wb_X12_takePicture_b327  Q K295) n) x4 x5 M := hF
    unfold wb_X12_takePicture_b327 at hF
    refine j_aload_n hJ dX12_takePicture_327 rfl 0 rfl ?_
    refine j_iload hJ dX12_takePicture_328 2 rfl ?_
    refine j_callVz hJ (c_X12_isClass (l := l) (D := D) (cy := cy) (ad := ad) hin) rfl om_1064 ⟨rfl, rfl, Nat.le_of_ble_eq_true rfl, Nat.le_of_ble_eq_true rfl⟩ [.int (Ii x5)] mv_X12_416 hd_X12_isClassv kR_0 rfl rfl rfl (Nat.le_of_ble_eq_true rfl) dX12_takePicture_330 ⟨x5, rfl, gx5, hF⟩ (fun r1 M2 gr1 qM2 => ?_)
    have hF := qM2 gr1
    refine j_if_eq hJ 356 (jz_ri gr1) dX12_takePicture_333 (by decide) (fun z3 => ?_) (fun z3 => ?_)
    · have hF := hF.1 z3
      refine j_iinc (lv' := [(4, .int (Ii (x4 + 1))), (0, .ref (ad 0)), (5, .int (Ii x5))]) (k := 1) hJ dX12_takePicture_356 rfl (by decide) rfl ?_
      have g4 := hF.1; have hF := hF.2
      refine j_goto hJ 295 dX12_takePicture_359 (by decide) ?_
      exact j_sub hJ [1, 0] rfl (hK295 (x4 + 1) _ g4 hF)
    · have hF := hF.2 z3
      refine j_aload_n hJ dX12_takePicture_336 rfl 0 rfl ?_
      refine j_gr (e := 16) hJ kR_0 fR_15_17 fl_X12_115 dX12_takePicture_337 rfl ?_
      refine j_iload hJ dX12_takePicture_340 2 rfl ?_
      refine j_iconst hJ dX12_takePicture_342 ?_
      refine j_zast hJ gx5 (by decide) kR_16 hF.1 hF.2.1 dX12_takePicture_343 (fun M5 eM5 => ?_)
      have hF := hF.2.2 M5 eM5
      refine j_aload_n hJ dX12_takePicture_344 rfl 0 rfl ?_
      refine j_gr (e := 8) hJ kR_0 fR_15_9 fl_X12_91 dX12_takePicture_345 rfl ?_
      refine j_iload hJ dX12_takePicture_348 2 rfl ?_
      refine j_iald hJ gx5 kR_8 hF.1 hF.2.1 dX12_takePicture_350 (fun v6 ev6 gv6 => ?_)
      have hF := hF.2.2 v6 ev6 gv6
      refine j_istore (lv' := [(5, .int (Ii v6)), (0, .ref (ad 0)), (4, .int (Ii x4))]) hJ dX12_takePicture_351 (by decide) rfl ?_
      refine j_goto hJ 327 dX12_takePicture_353 (by decide) ?_
      exact j_sub hJ [1, 2, 0] rfl (ih x4 v6 _ gx4 gv6 hF)
  intro x4 x5 M gx4 gx5 hF
  obtain ⟨n, hF⟩ := hF
  exact H9 n x4 x5 M gx4 gx5 hF
set_option maxHeartbeats 4000000 in
set_option maxRecDepth 100000 in
theorem k_X12_takePicture_b295 {l : Launch} {D : va_G} {cy : Nat → ClassId} {ad : Nat → Nat} {Q : Int → MM → Prop} {J : Nat → List (Nat × Value) → List Value → MM → Prop} (hin : jIn ad ksR.length)   (hJ : jOk l D vwCl (tyR cy) cy ad ftR ksR (XtR ad) Om RX12 cX12_takePicture 6 0 ({ frames := 5, cells := 0, slots := 0, locals := 128 } : Room) Q J)  : ∀ (x4 : Int) (M : MM), ri_ x4 → w_X12_takePicture_b295  Q  x4 M → J 295 [(0, .ref (ad 0)), (4, .int (Ii x4))] [] M := by
  have H9 : ∀ (n : Nat) (x4 : Int) (M : MM), ri_ x4 → jit (fun _ _ => False) (wb_X12_takePicture_b295  Q ) n x4 M → J 295 [(0, .ref (ad 0)), (4, .int (Ii x4))] [] M := by
    intro n
    induction n with
    | zero => intro x4 M gx4 hF; exact False.elim hF
    | succ n ih =>
    intro x4 M gx4 hF
    have hF : wb_X12_takePicture_b295  Q  (jit (fun _ _ => False) (wb_X12_takePicture_b295  Q ) n) x4 M := hF
    unfold wb_X12_takePicture_b295 at hF
    refine j_iload hJ dX12_takePicture_295 1 rfl ?_
    refine j_aload_n hJ dX12_takePicture_297 rfl 0 rfl ?_
    refine j_gr (e := 38) hJ kR_0 fR_15_48 fl_X12_183 dX12_takePicture_298 rfl ?_
    refine j_iconst hJ dX12_takePicture_301 ?_
    refine j_iald hJ rk_4 kR_38 (by decide) (by decide) dX12_takePicture_302 (fun v1 ev1 gv1 => ?_)
    have hF := hF v1 ev1 gv1
    refine j_icmp_ge hJ 362 gx4 gv1 dX12_takePicture_303 (by decide) (fun z2 => ?_) (fun z2 => ?_)
    · have hF := hF.1 z2
      exact j_vret hJ rfl dX12_takePicture_362 hF
    · have hF := hF.2 z2
      refine j_aload_n hJ dX12_takePicture_306 rfl 0 rfl ?_
      refine j_gi hJ kR_0 fR_15_83 rfl fl_X12_625 dX12_takePicture_307 (fun v3 ev3 gv3 => ?_)
      have hF := hF v3 ev3 gv3
      refine j_if_ne hJ 362 gv3 dX12_takePicture_310 (by decide) (fun z4 => ?_) (fun z4 => ?_)
      · have hF := hF.1 z4
        exact j_vret hJ rfl dX12_takePicture_362 hF
      · have hF := hF.2 z4
        refine j_aload_n hJ dX12_takePicture_313 rfl 0 rfl ?_
        refine j_gr (e := 40) hJ kR_0 fR_15_50 fl_X12_189 dX12_takePicture_314 rfl ?_
        refine j_aload_n hJ dX12_takePicture_317 rfl 0 rfl ?_
        refine j_iconst hJ dX12_takePicture_318 ?_
        refine j_iload hJ dX12_takePicture_319 1 rfl ?_
        refine j_callVi hJ (c_X12_at (l := l) (D := D) (cy := cy) (ad := ad) hin) rfl om_1153 ⟨rfl, rfl, Nat.le_of_ble_eq_true rfl, Nat.le_of_ble_eq_true rfl⟩ [.int (Ii 4), .int (Ii x4)] mv_X12_545 hd_X12_atv kR_0 rfl rfl rfl (Nat.le_of_ble_eq_true rfl) dX12_takePicture_321 ⟨4, x4, rfl, rk_4, gx4, hF⟩ (fun r5 M6 gr5 qM6 => ?_)
        have hF := qM6 gr5
        refine j_iald hJ gr5 kR_40 hF.1 hF.2.1 dX12_takePicture_324 (fun v7 ev7 gv7 => ?_)
        have hF := hF.2.2 v7 ev7 gv7
        refine j_istore (lv' := [(5, .int (Ii v7)), (0, .ref (ad 0)), (4, .int (Ii x4))]) hJ dX12_takePicture_325 (by decide) rfl ?_
        exact j_sub hJ [1, 2, 0] rfl (k_X12_takePicture_b327 hin  hJ ih x4 v7 _ gx4 gv7 hF)
  intro x4 M gx4 hF
  obtain ⟨n, hF⟩ := hF
  exact H9 n x4 M gx4 hF
set_option maxHeartbeats 4000000 in
set_option maxRecDepth 100000 in
theorem k_X12_takePicture_b292 {l : Launch} {D : va_G} {cy : Nat → ClassId} {ad : Nat → Nat} {Q : Int → MM → Prop} {J : Nat → List (Nat × Value) → List Value → MM → Prop} (hin : jIn ad ksR.length)   (hJ : jOk l D vwCl (tyR cy) cy ad ftR ksR (XtR ad) Om RX12 cX12_takePicture 6 0 ({ frames := 5, cells := 0, slots := 0, locals := 128 } : Room) Q J)  : ∀ (M : MM), w_X12_takePicture_b292  Q   M → J 292 [(0, .ref (ad 0))] [] M := by
  intro  M  hF
  unfold w_X12_takePicture_b292 at hF
  refine j_iconst hJ dX12_takePicture_292 ?_
  refine j_istore (lv' := [(4, .int (Ii 0)), (0, .ref (ad 0))]) hJ dX12_takePicture_293 (by decide) rfl ?_
  exact j_sub hJ [1, 0] rfl (k_X12_takePicture_b295 hin  hJ  0 _ rk_0 hF)
set_option maxHeartbeats 4000000 in
set_option maxRecDepth 100000 in
theorem k_X12_takePicture_b281 {l : Launch} {D : va_G} {cy : Nat → ClassId} {ad : Nat → Nat} {Q : Int → MM → Prop} {J : Nat → List (Nat × Value) → List Value → MM → Prop} (hin : jIn ad ksR.length)   (hJ : jOk l D vwCl (tyR cy) cy ad ftR ksR (XtR ad) Om RX12 cX12_takePicture 6 0 ({ frames := 5, cells := 0, slots := 0, locals := 128 } : Room) Q J)  : ∀ (M : MM), w_X12_takePicture_b281  Q   M → J 281 [(0, .ref (ad 0))] [] M := by
  intro  M  hF
  unfold w_X12_takePicture_b281 at hF
  refine j_aload_n hJ dX12_takePicture_281 rfl 0 rfl ?_
  refine j_gi hJ kR_0 fR_15_83 rfl fl_X12_625 dX12_takePicture_282 (fun v1 ev1 gv1 => ?_)
  have hF := hF v1 ev1 gv1
  refine j_if_ne hJ 292 gv1 dX12_takePicture_285 (by decide) (fun z2 => ?_) (fun z2 => ?_)
  · have hF := hF.1 z2
    exact j_sub hJ [0] rfl (k_X12_takePicture_b292 hin  hJ   _  hF)
  · have hF := hF.2 z2
    refine j_aload_n hJ dX12_takePicture_288 rfl 0 rfl ?_
    refine j_callVv hJ (c_X12_checkOrder (l := l) (D := D) (cy := cy) (ad := ad) hin) rfl om_1577 ⟨rfl, rfl, Nat.le_of_ble_eq_true rfl, Nat.le_of_ble_eq_true rfl⟩ [] mv_X12_1018 hd_X12_checkOrderv kR_0 rfl rfl rfl (Nat.le_of_ble_eq_true rfl) dX12_takePicture_289 ⟨rfl, hF⟩ (fun M4 qM4 => ?_)
    have hF := qM4
    exact j_sub hJ [0] rfl (k_X12_takePicture_b292 hin  hJ   _  hF)
set_option maxHeartbeats 4000000 in
set_option maxRecDepth 100000 in
theorem k_X12_takePicture_b253 {l : Launch} {D : va_G} {cy : Nat → ClassId} {ad : Nat → Nat} {Q : Int → MM → Prop} {J : Nat → List (Nat × Value) → List Value → MM → Prop} (hin : jIn ad ksR.length)   (hJ : jOk l D vwCl (tyR cy) cy ad ftR ksR (XtR ad) Om RX12 cX12_takePicture 6 0 ({ frames := 5, cells := 0, slots := 0, locals := 128 } : Room) Q J)  : ∀ (M : MM), w_X12_takePicture_b253  Q   M → J 253 [(0, .ref (ad 0))] [] M := by
  intro  M  hF
  unfold w_X12_takePicture_b253 at hF
  refine j_aload_n hJ dX12_takePicture_253 rfl 0 rfl ?_
  refine j_gi hJ kR_0 fR_15_83 rfl fl_X12_625 dX12_takePicture_254 (fun v1 ev1 gv1 => ?_)
  have hF := hF v1 ev1 gv1
  refine j_if_ne hJ 281 gv1 dX12_takePicture_257 (by decide) (fun z2 => ?_) (fun z2 => ?_)
  · have hF := hF.1 z2
    exact j_sub hJ [0] rfl (k_X12_takePicture_b281 hin  hJ   _  hF)
  · have hF := hF.2 z2
    refine j_aload_n hJ dX12_takePicture_260 rfl 0 rfl ?_
    refine j_gi hJ kR_0 fR_15_142 rfl fl_X12_975 dX12_takePicture_261 (fun v3 ev3 gv3 => ?_)
    have hF := hF v3 ev3 gv3
    refine j_aload_n hJ dX12_takePicture_264 rfl 0 rfl ?_
    refine j_gi hJ kR_0 fR_15_141 rfl fl_X12_953 dX12_takePicture_265 (fun v4 ev4 gv4 => ?_)
    have hF := hF v4 ev4 gv4
    refine j_icmp_ge hJ 281 gv3 gv4 dX12_takePicture_268 (by decide) (fun z5 => ?_) (fun z5 => ?_)
    · have hF := hF.1 z5
      exact j_sub hJ [0] rfl (k_X12_takePicture_b281 hin  hJ   _  hF)
    · have hF := hF.2 z5
      refine j_aload_n hJ dX12_takePicture_271 rfl 0 rfl ?_
      refine j_bipush hJ dX12_takePicture_272 (by decide) ?_
      refine j_aload_n hJ dX12_takePicture_274 rfl 0 rfl ?_
      refine j_gi hJ kR_0 fR_15_142 rfl fl_X12_975 dX12_takePicture_275 (fun v6 ev6 gv6 => ?_)
      have hF := hF v6 ev6 gv6
      refine j_callVv hJ (c_X12_fail (l := l) (D := D) (cy := cy) (ad := ad) hin) rfl om_1351 ⟨rfl, rfl, Nat.le_of_ble_eq_true rfl, Nat.le_of_ble_eq_true rfl⟩ [.int (Ii 6), .int (Ii v6)] mv_X12_653 hd_X12_failv kR_0 rfl rfl rfl (Nat.le_of_ble_eq_true rfl) dX12_takePicture_278 ⟨6, v6, rfl, rk_6, gv6, hF⟩ (fun M8 qM8 => ?_)
      have hF := qM8
      exact j_sub hJ [0] rfl (k_X12_takePicture_b281 hin  hJ   _  hF)
set_option maxHeartbeats 4000000 in
set_option maxRecDepth 100000 in
theorem k_X12_takePicture_b237 {l : Launch} {D : va_G} {cy : Nat → ClassId} {ad : Nat → Nat} {Q : Int → MM → Prop} {J : Nat → List (Nat × Value) → List Value → MM → Prop} (hin : jIn ad ksR.length)   (hJ : jOk l D vwCl (tyR cy) cy ad ftR ksR (XtR ad) Om RX12 cX12_takePicture 6 0 ({ frames := 5, cells := 0, slots := 0, locals := 128 } : Room) Q J) {K204 : Int → Int → Int → MM → Prop} (hK204 : ∀ (x3 x4 x5 : Int) (M : MM), ri_ x3 → ri_ x4 → ri_ x5 → K204 x3 x4 x5 M → J 204 [(0, .ref (ad 0)), (3, .int (Ii x3)), (4, .int (Ii x4)), (5, .int (Ii x5))] [] M) : ∀ (x3 x4 x5 : Int) (M : MM), ri_ x3 → ri_ x4 → ri_ x5 → w_X12_takePicture_b237  Q K204 x3 x4 x5 M → J 237 [(0, .ref (ad 0)), (3, .int (Ii x3)), (4, .int (Ii x4)), (5, .int (Ii x5))] [] M := by
  intro x3 x4 x5 M gx3 gx4 gx5 hF
  unfold w_X12_takePicture_b237 at hF
  refine j_iinc (lv' := [(5, .int (Ii (x5 + 1))), (0, .ref (ad 0)), (3, .int (Ii x3)), (4, .int (Ii x4))]) (k := 3) hJ dX12_takePicture_237 rfl (by decide) rfl ?_
  have g1 := hF.1; have hF := hF.2
  refine j_goto hJ 204 dX12_takePicture_240 (by decide) ?_
  exact j_sub hJ [1, 2, 3, 0] rfl (hK204 x3 x4 (x5 + 1) _ gx3 gx4 g1 hF)
set_option maxHeartbeats 4000000 in
set_option maxRecDepth 100000 in
theorem k_X12_takePicture_b204 {l : Launch} {D : va_G} {cy : Nat → ClassId} {ad : Nat → Nat} {Q : Int → MM → Prop} {J : Nat → List (Nat × Value) → List Value → MM → Prop} (hin : jIn ad ksR.length)   (hJ : jOk l D vwCl (tyR cy) cy ad ftR ksR (XtR ad) Om RX12 cX12_takePicture 6 0 ({ frames := 5, cells := 0, slots := 0, locals := 128 } : Room) Q J)  : ∀ (x3 x4 x5 : Int) (M : MM), ri_ x3 → ri_ x4 → ri_ x5 → w_X12_takePicture_b204  Q  x3 x4 x5 M → J 204 [(0, .ref (ad 0)), (3, .int (Ii x3)), (4, .int (Ii x4)), (5, .int (Ii x5))] [] M := by
  have H9 : ∀ (n : Nat) (x3 x4 x5 : Int) (M : MM), ri_ x3 → ri_ x4 → ri_ x5 → jit (fun _ _ _ _ => False) (wb_X12_takePicture_b204  Q ) n x3 x4 x5 M → J 204 [(0, .ref (ad 0)), (3, .int (Ii x3)), (4, .int (Ii x4)), (5, .int (Ii x5))] [] M := by
    intro n
    induction n with
    | zero => intro x3 x4 x5 M gx3 gx4 gx5 hF; exact False.elim hF
    | succ n ih =>
    intro x3 x4 x5 M gx3 gx4 gx5 hF
    have hF : wb_X12_takePicture_b204  Q  (jit (fun _ _ _ _ => False) (wb_X12_takePicture_b204  Q ) n) x3 x4 x5 M := hF
    unfold wb_X12_takePicture_b204 at hF
    refine j_iload hJ dX12_takePicture_204 3 rfl ?_
    refine j_iconst hJ dX12_takePicture_206 ?_
    refine j_icmp_ge hJ 243 gx5 rk_4 dX12_takePicture_207 (by decide) (fun z1 => ?_) (fun z1 => ?_)
    · have hF := hF.1 z1
      refine j_aload_n hJ dX12_takePicture_243 rfl 0 rfl ?_
      refine j_dup hJ dX12_takePicture_244 rfl ?_
      refine j_gi hJ kR_0 fR_15_142 rfl fl_X12_975 dX12_takePicture_245 (fun v2 ev2 gv2 => ?_)
      have hF := hF v2 ev2 gv2
      refine j_iconst hJ dX12_takePicture_248 ?_
      refine j_iadd hJ dX12_takePicture_249 ?_
      have g3 := hF.1; have hF := hF.2
      refine j_pi hJ g3 kR_0 fR_15_142 rfl fp_X12_975 dX12_takePicture_250 (fun M4 eM4 => ?_)
      have hF := hF M4 eM4
      exact j_sub hJ [0] rfl (k_X12_takePicture_b253 hin  hJ   _  hF)
    · have hF := hF.2 z1
      refine j_iload hJ dX12_takePicture_210 2 rfl ?_
      refine j_bipush hJ dX12_takePicture_212 (by decide) ?_
      refine j_iload hJ dX12_takePicture_214 3 rfl ?_
      refine j_imul hJ dX12_takePicture_216 ?_
      have g5 := hF.1; have hF := hF.2
      refine j_ishr hJ dX12_takePicture_217 ?_
      refine j_i2b hJ dX12_takePicture_218 ?_
      refine j_aload_n hJ dX12_takePicture_219 rfl 0 rfl ?_
      refine j_gr (e := 98) hJ kR_0 fR_15_139 fl_X12_369 dX12_takePicture_220 rfl ?_
      refine j_iload_n hJ dX12_takePicture_223 rfl 1 rfl ?_
      refine j_iload hJ dX12_takePicture_224 3 rfl ?_
      refine j_iadd hJ dX12_takePicture_226 ?_
      have g6 := hF.1; have hF := hF.2
      refine j_bald hJ g6 kR_98 hF.1 hF.2.1 dX12_takePicture_227 (fun v7 ev7 gv7 => ?_)
      have hF := hF.2.2 v7 ev7 gv7
      refine j_icmp_eq hJ 237 (ri_of _) (jb_ri gv7) dX12_takePicture_228 (by decide) (fun z8 => ?_) (fun z8 => ?_)
      · have hF := hF.1 z8
        exact j_sub hJ [0, 1, 2, 3] rfl (k_X12_takePicture_b237 hin  hJ ih x3 x4 x5 _ gx3 gx4 gx5 hF)
      · have hF := hF.2 z8
        refine j_aload_n hJ dX12_takePicture_231 rfl 0 rfl ?_
        refine j_iconst hJ dX12_takePicture_232 ?_
        refine j_iload_n hJ dX12_takePicture_233 rfl 1 rfl ?_
        refine j_callVv hJ (c_X12_fail (l := l) (D := D) (cy := cy) (ad := ad) hin) rfl om_1351 ⟨rfl, rfl, Nat.le_of_ble_eq_true rfl, Nat.le_of_ble_eq_true rfl⟩ [.int (Ii 5), .int (Ii x3)] mv_X12_653 hd_X12_failv kR_0 rfl rfl rfl (Nat.le_of_ble_eq_true rfl) dX12_takePicture_234 ⟨5, x3, rfl, rk_5, gx3, hF⟩ (fun M10 qM10 => ?_)
        have hF := qM10
        exact j_sub hJ [0, 1, 2, 3] rfl (k_X12_takePicture_b237 hin  hJ ih x3 x4 x5 _ gx3 gx4 gx5 hF)
  intro x3 x4 x5 M gx3 gx4 gx5 hF
  obtain ⟨n, hF⟩ := hF
  exact H9 n x3 x4 x5 M gx3 gx4 gx5 hF
set_option maxHeartbeats 4000000 in
set_option maxRecDepth 100000 in
theorem k_X12_takePicture_b183 {l : Launch} {D : va_G} {cy : Nat → ClassId} {ad : Nat → Nat} {Q : Int → MM → Prop} {J : Nat → List (Nat × Value) → List Value → MM → Prop} (hin : jIn ad ksR.length)   (hJ : jOk l D vwCl (tyR cy) cy ad ftR ksR (XtR ad) Om RX12 cX12_takePicture 6 0 ({ frames := 5, cells := 0, slots := 0, locals := 128 } : Room) Q J)  : ∀ (x3 : Int) (M : MM), ri_ x3 → w_X12_takePicture_b183  Q  x3 M → J 183 [(0, .ref (ad 0)), (3, .int (Ii x3))] [] M := by
  intro x3 M gx3 hF
  unfold w_X12_takePicture_b183 at hF
  refine j_aload_n hJ dX12_takePicture_183 rfl 0 rfl ?_
  refine j_gi hJ kR_0 fR_15_83 rfl fl_X12_625 dX12_takePicture_184 (fun v1 ev1 gv1 => ?_)
  have hF := hF v1 ev1 gv1
  refine j_if_ne hJ 253 gv1 dX12_takePicture_187 (by decide) (fun z2 => ?_) (fun z2 => ?_)
  · have hF := hF.1 z2
    exact j_sub hJ [0] rfl (k_X12_takePicture_b253 hin  hJ   _  hF)
  · have hF := hF.2 z2
    refine j_aload_n hJ dX12_takePicture_190 rfl 0 rfl ?_
    refine j_gr (e := 98) hJ kR_0 fR_15_139 fl_X12_369 dX12_takePicture_191 rfl ?_
    refine j_iconst hJ dX12_takePicture_194 ?_
    refine j_iload_n hJ dX12_takePicture_195 rfl 1 rfl ?_
    refine j_callSi hJ (c_X12_check (l := l) (D := D) (cy := cy) (ad := ad) hin) rfl om_1544 ⟨rfl, rfl, Nat.le_of_ble_eq_true rfl, Nat.le_of_ble_eq_true rfl⟩ [.ref (ad 98), .int (Ii 0), .int (Ii x3)] mv_X12_968 hd_X12_check rfl (Nat.le_of_ble_eq_true rfl) dX12_takePicture_196 ⟨98, 9000, 0, x3, rfl, kR_98, (by decide), rk_0, gx3, hF⟩ (fun r3 M4 gr3 qM4 => ?_)
    have hF := qM4 gr3
    refine j_istore (lv' := [(4, .int (Ii r3)), (0, .ref (ad 0)), (3, .int (Ii x3))]) hJ dX12_takePicture_199 (by decide) rfl ?_
    refine j_iconst hJ dX12_takePicture_201 ?_
    refine j_istore (lv' := [(5, .int (Ii 0)), (4, .int (Ii r3)), (0, .ref (ad 0)), (3, .int (Ii x3))]) hJ dX12_takePicture_202 (by decide) rfl ?_
    exact j_sub hJ [2, 3, 1, 0] rfl (k_X12_takePicture_b204 hin  hJ  x3 r3 0 _ gx3 gr3 rk_0 hF)
set_option maxHeartbeats 4000000 in
set_option maxRecDepth 100000 in
theorem k_X12_takePicture_b149 {l : Launch} {D : va_G} {cy : Nat → ClassId} {ad : Nat → Nat} {Q : Int → MM → Prop} {J : Nat → List (Nat × Value) → List Value → MM → Prop} (hin : jIn ad ksR.length)   (hJ : jOk l D vwCl (tyR cy) cy ad ftR ksR (XtR ad) Om RX12 cX12_takePicture 6 0 ({ frames := 5, cells := 0, slots := 0, locals := 128 } : Room) Q J)  : ∀ (M : MM), w_X12_takePicture_b149  Q   M → J 149 [(0, .ref (ad 0))] [] M := by
  intro  M  hF
  unfold w_X12_takePicture_b149 at hF
  refine j_aload_n hJ dX12_takePicture_149 rfl 0 rfl ?_
  refine j_gi hJ kR_0 fR_15_142 rfl fl_X12_975 dX12_takePicture_150 (fun v1 ev1 gv1 => ?_)
  have hF := hF v1 ev1 gv1
  refine j_istore_n (lv' := [(3, .int (Ii v1)), (0, .ref (ad 0))]) hJ dX12_takePicture_153 rfl (by decide) rfl ?_
  refine j_aload_n hJ dX12_takePicture_154 rfl 1 rfl ?_
  refine j_gi hJ kR_0 fR_15_83 rfl fl_X12_625 dX12_takePicture_155 (fun v2 ev2 gv2 => ?_)
  have hF := hF v2 ev2 gv2
  refine j_if_ne hJ 183 gv2 dX12_takePicture_158 (by decide) (fun z3 => ?_) (fun z3 => ?_)
  · have hF := hF.1 z3
    exact j_sub hJ [1, 0] rfl (k_X12_takePicture_b183 hin  hJ  v1 _ gv1 hF)
  · have hF := hF.2 z3
    refine j_aload_n hJ dX12_takePicture_161 rfl 1 rfl ?_
    refine j_gi hJ kR_0 fR_15_142 rfl fl_X12_975 dX12_takePicture_162 (fun v4 ev4 gv4 => ?_)
    have hF := hF v4 ev4 gv4
    refine j_iconst hJ dX12_takePicture_165 ?_
    refine j_iadd hJ dX12_takePicture_166 ?_
    have g5 := hF.1; have hF := hF.2
    refine j_aload_n hJ dX12_takePicture_167 rfl 1 rfl ?_
    refine j_gi hJ kR_0 fR_15_141 rfl fl_X12_953 dX12_takePicture_168 (fun v6 ev6 gv6 => ?_)
    have hF := hF v6 ev6 gv6
    refine j_icmp_le hJ 183 g5 gv6 dX12_takePicture_171 (by decide) (fun z7 => ?_) (fun z7 => ?_)
    · have hF := hF.1 z7
      exact j_sub hJ [1, 0] rfl (k_X12_takePicture_b183 hin  hJ  v1 _ gv1 hF)
    · have hF := hF.2 z7
      refine j_aload_n hJ dX12_takePicture_174 rfl 1 rfl ?_
      refine j_iconst hJ dX12_takePicture_175 ?_
      refine j_aload_n hJ dX12_takePicture_176 rfl 1 rfl ?_
      refine j_gi hJ kR_0 fR_15_141 rfl fl_X12_953 dX12_takePicture_177 (fun v8 ev8 gv8 => ?_)
      have hF := hF v8 ev8 gv8
      refine j_callVv hJ (c_X12_fail (l := l) (D := D) (cy := cy) (ad := ad) hin) rfl om_1351 ⟨rfl, rfl, Nat.le_of_ble_eq_true rfl, Nat.le_of_ble_eq_true rfl⟩ [.int (Ii 1), .int (Ii v8)] mv_X12_653 hd_X12_failv kR_0 rfl rfl rfl (Nat.le_of_ble_eq_true rfl) dX12_takePicture_180 ⟨1, v8, rfl, rk_1, gv8, hF⟩ (fun M10 qM10 => ?_)
      have hF := qM10
      exact j_sub hJ [1, 0] rfl (k_X12_takePicture_b183 hin  hJ  v1 _ gv1 hF)
set_option maxHeartbeats 4000000 in
set_option maxRecDepth 100000 in
theorem k_X12_takePicture_b138 {l : Launch} {D : va_G} {cy : Nat → ClassId} {ad : Nat → Nat} {Q : Int → MM → Prop} {J : Nat → List (Nat × Value) → List Value → MM → Prop} (hin : jIn ad ksR.length)   (hJ : jOk l D vwCl (tyR cy) cy ad ftR ksR (XtR ad) Om RX12 cX12_takePicture 6 0 ({ frames := 5, cells := 0, slots := 0, locals := 128 } : Room) Q J)  : ∀ (M : MM), w_X12_takePicture_b138  Q   M → J 138 [(0, .ref (ad 0))] [] M := by
  intro  M  hF
  unfold w_X12_takePicture_b138 at hF
  refine j_aload_n hJ dX12_takePicture_138 rfl 0 rfl ?_
  refine j_gi hJ kR_0 fR_15_83 rfl fl_X12_625 dX12_takePicture_139 (fun v1 ev1 gv1 => ?_)
  have hF := hF v1 ev1 gv1
  refine j_if_ne hJ 149 gv1 dX12_takePicture_142 (by decide) (fun z2 => ?_) (fun z2 => ?_)
  · have hF := hF.1 z2
    exact j_sub hJ [0] rfl (k_X12_takePicture_b149 hin  hJ   _  hF)
  · have hF := hF.2 z2
    refine j_aload_n hJ dX12_takePicture_145 rfl 0 rfl ?_
    refine j_callVv hJ (c_X12_takeRoots (l := l) (D := D) (cy := cy) (ad := ad) hin) rfl om_1581 ⟨rfl, rfl, Nat.le_of_ble_eq_true rfl, Nat.le_of_ble_eq_true rfl⟩ [] mv_X12_1015 hd_X12_takeRootsv kR_0 rfl rfl rfl (Nat.le_of_ble_eq_true rfl) dX12_takePicture_146 ⟨rfl, hF⟩ (fun M4 qM4 => ?_)
    have hF := qM4
    exact j_sub hJ [0] rfl (k_X12_takePicture_b149 hin  hJ   _  hF)
set_option maxHeartbeats 4000000 in
set_option maxRecDepth 100000 in
theorem k_X12_takePicture_b127 {l : Launch} {D : va_G} {cy : Nat → ClassId} {ad : Nat → Nat} {Q : Int → MM → Prop} {J : Nat → List (Nat × Value) → List Value → MM → Prop} (hin : jIn ad ksR.length)   (hJ : jOk l D vwCl (tyR cy) cy ad ftR ksR (XtR ad) Om RX12 cX12_takePicture 6 0 ({ frames := 5, cells := 0, slots := 0, locals := 128 } : Room) Q J)  : ∀ (M : MM), w_X12_takePicture_b127  Q   M → J 127 [(0, .ref (ad 0))] [] M := by
  intro  M  hF
  unfold w_X12_takePicture_b127 at hF
  refine j_aload_n hJ dX12_takePicture_127 rfl 0 rfl ?_
  refine j_gi hJ kR_0 fR_15_83 rfl fl_X12_625 dX12_takePicture_128 (fun v1 ev1 gv1 => ?_)
  have hF := hF v1 ev1 gv1
  refine j_if_ne hJ 138 gv1 dX12_takePicture_131 (by decide) (fun z2 => ?_) (fun z2 => ?_)
  · have hF := hF.1 z2
    exact j_sub hJ [0] rfl (k_X12_takePicture_b138 hin  hJ   _  hF)
  · have hF := hF.2 z2
    refine j_aload_n hJ dX12_takePicture_134 rfl 0 rfl ?_
    refine j_callVv hJ (c_X12_checkLinks (l := l) (D := D) (cy := cy) (ad := ad) hin) rfl om_1585 ⟨rfl, rfl, Nat.le_of_ble_eq_true rfl, Nat.le_of_ble_eq_true rfl⟩ [] mv_X12_1012 hd_X12_checkLinksv kR_0 rfl rfl rfl (Nat.le_of_ble_eq_true rfl) dX12_takePicture_135 ⟨rfl, hF⟩ (fun M4 qM4 => ?_)
    have hF := qM4
    exact j_sub hJ [0] rfl (k_X12_takePicture_b138 hin  hJ   _  hF)
set_option maxHeartbeats 4000000 in
set_option maxRecDepth 100000 in
theorem k_X12_takePicture_b99 {l : Launch} {D : va_G} {cy : Nat → ClassId} {ad : Nat → Nat} {Q : Int → MM → Prop} {J : Nat → List (Nat × Value) → List Value → MM → Prop} (hin : jIn ad ksR.length)   (hJ : jOk l D vwCl (tyR cy) cy ad ftR ksR (XtR ad) Om RX12 cX12_takePicture 6 0 ({ frames := 5, cells := 0, slots := 0, locals := 128 } : Room) Q J)  : ∀ (x3 : Int) (M : MM), ri_ x3 → w_X12_takePicture_b99  Q  x3 M → J 99 [(0, .ref (ad 0)), (3, .int (Ii x3))] [] M := by
  have H9 : ∀ (n : Nat) (x3 : Int) (M : MM), ri_ x3 → jit (fun _ _ => False) (wb_X12_takePicture_b99  Q ) n x3 M → J 99 [(0, .ref (ad 0)), (3, .int (Ii x3))] [] M := by
    intro n
    induction n with
    | zero => intro x3 M gx3 hF; exact False.elim hF
    | succ n ih =>
    intro x3 M gx3 hF
    have hF : wb_X12_takePicture_b99  Q  (jit (fun _ _ => False) (wb_X12_takePicture_b99  Q ) n) x3 M := hF
    unfold wb_X12_takePicture_b99 at hF
    refine j_iload_n hJ dX12_takePicture_99 rfl 1 rfl ?_
    refine j_aload_n hJ dX12_takePicture_100 rfl 0 rfl ?_
    refine j_gr (e := 38) hJ kR_0 fR_15_48 fl_X12_183 dX12_takePicture_101 rfl ?_
    refine j_iconst hJ dX12_takePicture_104 ?_
    refine j_iald hJ rk_4 kR_38 (by decide) (by decide) dX12_takePicture_105 (fun v1 ev1 gv1 => ?_)
    have hF := hF v1 ev1 gv1
    refine j_icmp_ge hJ 127 gx3 gv1 dX12_takePicture_106 (by decide) (fun z2 => ?_) (fun z2 => ?_)
    · have hF := hF.1 z2
      exact j_sub hJ [0] rfl (k_X12_takePicture_b127 hin  hJ   _  hF)
    · have hF := hF.2 z2
      refine j_aload_n hJ dX12_takePicture_109 rfl 0 rfl ?_
      refine j_gi hJ kR_0 fR_15_83 rfl fl_X12_625 dX12_takePicture_110 (fun v3 ev3 gv3 => ?_)
      have hF := hF v3 ev3 gv3
      refine j_if_ne hJ 127 gv3 dX12_takePicture_113 (by decide) (fun z4 => ?_) (fun z4 => ?_)
      · have hF := hF.1 z4
        exact j_sub hJ [0] rfl (k_X12_takePicture_b127 hin  hJ   _  hF)
      · have hF := hF.2 z4
        refine j_aload_n hJ dX12_takePicture_116 rfl 0 rfl ?_
        refine j_iload_n hJ dX12_takePicture_117 rfl 1 rfl ?_
        refine j_callVv hJ (c_X12_takeThing (l := l) (D := D) (cy := cy) (ad := ad) hin) rfl om_1589 ⟨rfl, rfl, Nat.le_of_ble_eq_true rfl, Nat.le_of_ble_eq_true rfl⟩ [.int (Ii x3)] mv_X12_1009 hd_X12_takeThingv kR_0 rfl rfl rfl (Nat.le_of_ble_eq_true rfl) dX12_takePicture_118 ⟨x3, rfl, gx3, hF⟩ (fun M6 qM6 => ?_)
        have hF := qM6
        refine j_iinc (lv' := [(3, .int (Ii (x3 + 1))), (0, .ref (ad 0))]) (k := 1) hJ dX12_takePicture_121 rfl (by decide) rfl ?_
        have g7 := hF.1; have hF := hF.2
        refine j_goto hJ 99 dX12_takePicture_124 (by decide) ?_
        exact j_sub hJ [1, 0] rfl (ih (x3 + 1) _ g7 hF)
  intro x3 M gx3 hF
  obtain ⟨n, hF⟩ := hF
  exact H9 n x3 M gx3 hF
set_option maxHeartbeats 4000000 in
set_option maxRecDepth 100000 in
theorem k_X12_takePicture_b96 {l : Launch} {D : va_G} {cy : Nat → ClassId} {ad : Nat → Nat} {Q : Int → MM → Prop} {J : Nat → List (Nat × Value) → List Value → MM → Prop} (hin : jIn ad ksR.length)   (hJ : jOk l D vwCl (tyR cy) cy ad ftR ksR (XtR ad) Om RX12 cX12_takePicture 6 0 ({ frames := 5, cells := 0, slots := 0, locals := 128 } : Room) Q J)  : ∀ (s0 s1 : Int) (M : MM), ri_ s0 → ri_ s1 → w_X12_takePicture_b96  Q  s0 s1 M → J 96 [(0, .ref (ad 0))] [.int (Ii s0), .int (Ii s1), .ref (ad 38)] M := by
  intro s0 s1 M gs0 gs1 hF
  unfold w_X12_takePicture_b96 at hF
  refine j_iast hJ gs1 gs0 kR_38 hF.1 hF.2.1 dX12_takePicture_96 (fun M1 eM1 => ?_)
  have hF := hF.2.2 M1 eM1
  refine j_iconst hJ dX12_takePicture_97 ?_
  refine j_istore_n (lv' := [(3, .int (Ii 0)), (0, .ref (ad 0))]) hJ dX12_takePicture_98 rfl (by decide) rfl ?_
  exact j_sub hJ [1, 0] rfl (k_X12_takePicture_b99 hin  hJ  0 _ rk_0 hF)
set_option maxHeartbeats 4000000 in
set_option maxRecDepth 100000 in
theorem k_X12_takePicture_b78 {l : Launch} {D : va_G} {cy : Nat → ClassId} {ad : Nat → Nat} {Q : Int → MM → Prop} {J : Nat → List (Nat × Value) → List Value → MM → Prop} (hin : jIn ad ksR.length)   (hJ : jOk l D vwCl (tyR cy) cy ad ftR ksR (XtR ad) Om RX12 cX12_takePicture 6 0 ({ frames := 5, cells := 0, slots := 0, locals := 128 } : Room) Q J)  : ∀ (x1 : Int) (M : MM), rl_ x1 → w_X12_takePicture_b78  Q  x1 M → J 78 [(0, .ref (ad 0)), (1, .long (Ll x1))] [] M := by
  intro x1 M gx1 hF
  unfold w_X12_takePicture_b78 at hF
  refine j_aload_n hJ dX12_takePicture_78 rfl 0 rfl ?_
  refine j_gr (e := 38) hJ kR_0 fR_15_48 fl_X12_183 dX12_takePicture_79 rfl ?_
  refine j_iconst hJ dX12_takePicture_82 ?_
  refine j_aload_n hJ dX12_takePicture_83 rfl 0 rfl ?_
  refine j_gi hJ kR_0 fR_15_83 rfl fl_X12_625 dX12_takePicture_84 (fun v1 ev1 gv1 => ?_)
  have hF := hF v1 ev1 gv1
  refine j_if_ne hJ 95 gv1 dX12_takePicture_87 (by decide) (fun z2 => ?_) (fun z2 => ?_)
  · have hF := hF.1 z2
    refine j_iconst hJ dX12_takePicture_95 ?_
    exact j_sub hJ [0] rfl (k_X12_takePicture_b96 hin  hJ  0 4 _ rk_0 rk_4 hF)
  · have hF := hF.2 z2
    refine j_lload_n hJ dX12_takePicture_90 rfl 1 rfl ?_
    refine j_l2i hJ dX12_takePicture_91 ?_
    have g3 := hF.1; have hF := hF.2
    refine j_goto hJ 96 dX12_takePicture_92 (by decide) ?_
    exact j_sub hJ [0] rfl (k_X12_takePicture_b96 hin  hJ  x1 4 _ g3 rk_4 hF)
set_option maxHeartbeats 4000000 in
set_option maxRecDepth 100000 in
theorem k_X12_takePicture_b69 {l : Launch} {D : va_G} {cy : Nat → ClassId} {ad : Nat → Nat} {Q : Int → MM → Prop} {J : Nat → List (Nat × Value) → List Value → MM → Prop} (hin : jIn ad ksR.length)   (hJ : jOk l D vwCl (tyR cy) cy ad ftR ksR (XtR ad) Om RX12 cX12_takePicture 6 0 ({ frames := 5, cells := 0, slots := 0, locals := 128 } : Room) Q J)  : ∀ (x1 : Int) (M : MM), rl_ x1 → w_X12_takePicture_b69  Q  x1 M → J 69 [(0, .ref (ad 0)), (1, .long (Ll x1))] [] M := by
  intro x1 M gx1 hF
  unfold w_X12_takePicture_b69 at hF
  refine j_aload_n hJ dX12_takePicture_69 rfl 0 rfl ?_
  refine j_iconst hJ dX12_takePicture_70 ?_
  refine j_aload_n hJ dX12_takePicture_71 rfl 0 rfl ?_
  refine j_gi hJ kR_0 fR_15_143 rfl fl_X12_978 dX12_takePicture_72 (fun v1 ev1 gv1 => ?_)
  have hF := hF v1 ev1 gv1
  refine j_callVv hJ (c_X12_fail (l := l) (D := D) (cy := cy) (ad := ad) hin) rfl om_1351 ⟨rfl, rfl, Nat.le_of_ble_eq_true rfl, Nat.le_of_ble_eq_true rfl⟩ [.int (Ii 4), .int (Ii v1)] mv_X12_653 hd_X12_failv kR_0 rfl rfl rfl (Nat.le_of_ble_eq_true rfl) dX12_takePicture_75 ⟨4, v1, rfl, rk_4, gv1, hF⟩ (fun M3 qM3 => ?_)
  have hF := qM3
  exact j_sub hJ [0, 1] rfl (k_X12_takePicture_b78 hin  hJ  x1 _ gx1 hF)
set_option maxHeartbeats 4000000 in
set_option maxRecDepth 100000 in
theorem k_X12_takePicture_b47 {l : Launch} {D : va_G} {cy : Nat → ClassId} {ad : Nat → Nat} {Q : Int → MM → Prop} {J : Nat → List (Nat × Value) → List Value → MM → Prop} (hin : jIn ad ksR.length)   (hJ : jOk l D vwCl (tyR cy) cy ad ftR ksR (XtR ad) Om RX12 cX12_takePicture 6 0 ({ frames := 5, cells := 0, slots := 0, locals := 128 } : Room) Q J)  : ∀ (s0 : Int) (M : MM), rl_ s0 → w_X12_takePicture_b47  Q  s0 M → J 47 [(0, .ref (ad 0))] [.long (Ll s0)] M := by
  intro s0 M gs0 hF
  unfold w_X12_takePicture_b47 at hF
  refine j_lstore_n (lv' := [(1, .long (Ll s0)), (0, .ref (ad 0))]) hJ dX12_takePicture_47 rfl (by decide) rfl ?_
  refine j_aload_n hJ dX12_takePicture_48 rfl 1 rfl ?_
  refine j_gi hJ kR_0 fR_15_83 rfl fl_X12_625 dX12_takePicture_49 (fun v1 ev1 gv1 => ?_)
  have hF := hF v1 ev1 gv1
  refine j_if_ne hJ 78 gv1 dX12_takePicture_52 (by decide) (fun z2 => ?_) (fun z2 => ?_)
  · have hF := hF.1 z2
    exact j_sub hJ [1, 0] rfl (k_X12_takePicture_b78 hin  hJ  s0 _ gs0 hF)
  · have hF := hF.2 z2
    refine j_lload_n hJ dX12_takePicture_55 rfl 0 rfl ?_
    refine j_lconst (x := 0) hJ dX12_takePicture_56 rfl ?_
    refine j_lcmp_lt hJ 69 gs0 lkm_0 dX12_takePicture_57 dX12_takePicture_58 (by decide) (fun z3 => ?_) (fun z3 => ?_)
    · have hF := hF.1 z3
      exact j_sub hJ [1, 0] rfl (k_X12_takePicture_b69 hin  hJ  s0 _ gs0 hF)
    · have hF := hF.2 z3
      refine j_lload_n hJ dX12_takePicture_61 rfl 0 rfl ?_
      refine j_ldc2 hJ 400 om_1593 (by decide) dX12_takePicture_62 ?_
      refine j_lcmp_le hJ 78 gs0 lk_400 dX12_takePicture_65 dX12_takePicture_66 (by decide) (fun z4 => ?_) (fun z4 => ?_)
      · have hF := hF.1 z4
        exact j_sub hJ [1, 0] rfl (k_X12_takePicture_b78 hin  hJ  s0 _ gs0 hF)
      · have hF := hF.2 z4
        exact j_sub hJ [1, 0] rfl (k_X12_takePicture_b69 hin  hJ  s0 _ gs0 hF)
set_option maxHeartbeats 4000000 in
set_option maxRecDepth 100000 in
theorem c_X12_takePicture {l : Launch} {D : va_G} {cy : Nat → ClassId} {ad : Nat → Nat} (hin : jIn ad ksR.length) : jCN l D vwCl (tyR cy) cy ad ftR ksR (XtR ad) yX12_takePicture (.code yX12_takePicture cX12_takePicture 6 none :: Om) ({ frames := 5, cells := 0, slots := 0, locals := 128 } : Room) 0 (W_X12_takePicture ad) := by
  refine jCN_of (y := yX12_takePicture) (cc := cX12_takePicture) (nL := 6) (rk := 0) (rm := ({ frames := 5, cells := 0, slots := 0, locals := 128 } : Room)) (own := RX12) (tyR_ok cy) hin (XtR_ok ad) Om_good (by decide) rfl ?_
  intro Q av M hF
  obtain ⟨rfl, hF⟩ := hF
  refine ⟨Nat.le_of_ble_eq_true rfl, fun J hJ => ?_⟩
  show J 0 [(0, .ref (ad 0))] [] M
  unfold w_X12_takePicture at hF
  refine j_aload_n hJ dX12_takePicture_0 rfl 0 rfl ?_
  refine j_iconst hJ dX12_takePicture_1 ?_
  refine j_pi hJ rk_0 kR_0 fR_15_83 rfl fp_X12_625 dX12_takePicture_2 (fun M1 eM1 => ?_)
  have hF := hF M1 eM1
  refine j_aload_n hJ dX12_takePicture_5 rfl 0 rfl ?_
  refine j_iconst hJ dX12_takePicture_6 ?_
  refine j_pi hJ rk_m1 kR_0 fR_15_84 rfl fp_X12_628 dX12_takePicture_7 (fun M2 eM2 => ?_)
  have hF := hF M2 eM2
  refine j_aload_n hJ dX12_takePicture_10 rfl 0 rfl ?_
  refine j_iconst hJ dX12_takePicture_11 ?_
  refine j_pi hJ rk_0 kR_0 fR_15_142 rfl fp_X12_975 dX12_takePicture_12 (fun M3 eM3 => ?_)
  have hF := hF M3 eM3
  refine j_aload_n hJ dX12_takePicture_15 rfl 0 rfl ?_
  refine j_iconst hJ dX12_takePicture_16 ?_
  refine j_pi hJ rk_0 kR_0 fR_15_146 rfl fp_X12_991 dX12_takePicture_17 (fun M4 eM4 => ?_)
  have hF := hF M4 eM4
  refine j_aload_n hJ dX12_takePicture_20 rfl 0 rfl ?_
  refine j_bipush hJ dX12_takePicture_21 (by decide) ?_
  refine j_callVv hJ (c_X12_takeByte (l := l) (D := D) (cy := cy) (ad := ad) hin) rfl om_1573 ⟨rfl, rfl, Nat.le_of_ble_eq_true rfl, Nat.le_of_ble_eq_true rfl⟩ [.int (Ii 72)] mv_X12_1004 hd_X12_takeBytev kR_0 rfl rfl rfl (Nat.le_of_ble_eq_true rfl) dX12_takePicture_23 ⟨72, rfl, rk_72, hF⟩ (fun M6 qM6 => ?_)
  have hF := qM6
  refine j_aload_n hJ dX12_takePicture_26 rfl 0 rfl ?_
  refine j_bipush hJ dX12_takePicture_27 (by decide) ?_
  refine j_callVv hJ (c_X12_takeByte (l := l) (D := D) (cy := cy) (ad := ad) hin) rfl om_1573 ⟨rfl, rfl, Nat.le_of_ble_eq_true rfl, Nat.le_of_ble_eq_true rfl⟩ [.int (Ii 80)] mv_X12_1004 hd_X12_takeBytev kR_0 rfl rfl rfl (Nat.le_of_ble_eq_true rfl) dX12_takePicture_29 ⟨80, rfl, rk_80, hF⟩ (fun M8 qM8 => ?_)
  have hF := qM8
  refine j_aload_n hJ dX12_takePicture_32 rfl 0 rfl ?_
  refine j_gi hJ kR_0 fR_15_83 rfl fl_X12_625 dX12_takePicture_33 (fun v9 ev9 gv9 => ?_)
  have hF := hF v9 ev9 gv9
  refine j_if_ne hJ 46 gv9 dX12_takePicture_36 (by decide) (fun z10 => ?_) (fun z10 => ?_)
  · have hF := hF.1 z10
    refine j_lconst (x := 0) hJ dX12_takePicture_46 rfl ?_
    exact j_sub hJ [0] rfl (k_X12_takePicture_b47 hin  hJ  0 _ lkm_0 hF)
  · have hF := hF.2 z10
    refine j_aload_n hJ dX12_takePicture_39 rfl 0 rfl ?_
    refine j_callVl hJ (c_X12_takeNumber (l := l) (D := D) (cy := cy) (ad := ad) hin) rfl om_1554 ⟨rfl, rfl, Nat.le_of_ble_eq_true rfl, Nat.le_of_ble_eq_true rfl⟩ [] mv_X12_983 hd_X12_takeNumberv kR_0 rfl rfl rfl (Nat.le_of_ble_eq_true rfl) dX12_takePicture_40 ⟨rfl, hF⟩ (fun r11 M12 gr11 qM12 => ?_)
    have hF := qM12 gr11
    refine j_goto hJ 47 dX12_takePicture_43 (by decide) ?_
    exact j_sub hJ [0] rfl (k_X12_takePicture_b47 hin  hJ  r11 _ gr11 hF)
def W_X12_copyNow (ad : Nat → Nat) (Q : Int → MM → Prop) (av : List Value) (M : MM) : Prop := ∃ (p1 : Int), av = [.ref (ad 0), .int (Ii p1)] ∧ ri_ p1 ∧ w_X12_copyNow  Q p1 M
set_option maxHeartbeats 4000000 in
set_option maxRecDepth 100000 in
theorem k_X12_copyNow_b164 {l : Launch} {D : va_G} {cy : Nat → ClassId} {ad : Nat → Nat} {Q : Int → MM → Prop} {J : Nat → List (Nat × Value) → List Value → MM → Prop} (hin : jIn ad ksR.length)   (hJ : jOk l D vwCl (tyR cy) cy ad ftR ksR (XtR ad) Om RX12 cX12_copyNow 3 0 ({ frames := 7, cells := 0, slots := 0, locals := 169 } : Room) Q J)  : ∀ (x1 x2 : Int) (M : MM), ri_ x1 → ri_ x2 → w_X12_copyNow_b164  Q  x1 x2 M → J 164 [(0, .ref (ad 0)), (1, .int (Ii x1)), (2, .int (Ii x2))] [] M := by
  have H9 : ∀ (n : Nat) (x1 x2 : Int) (M : MM), ri_ x1 → ri_ x2 → jit (fun _ _ _ => False) (wb_X12_copyNow_b164  Q ) n x1 x2 M → J 164 [(0, .ref (ad 0)), (1, .int (Ii x1)), (2, .int (Ii x2))] [] M := by
    intro n
    induction n with
    | zero => intro x1 x2 M gx1 gx2 hF; exact False.elim hF
    | succ n ih =>
    intro x1 x2 M gx1 gx2 hF
    have hF : wb_X12_copyNow_b164  Q  (jit (fun _ _ _ => False) (wb_X12_copyNow_b164  Q ) n) x1 x2 M := hF
    unfold wb_X12_copyNow_b164 at hF
    refine j_iload_n hJ dX12_copyNow_164 rfl 2 rfl ?_
    refine j_aload_n hJ dX12_copyNow_165 rfl 0 rfl ?_
    refine j_gr (e := 55) hJ kR_0 fR_15_65 fl_X12_234 dX12_copyNow_166 rfl ?_
    refine j_iconst hJ dX12_copyNow_169 ?_
    refine j_iald hJ rk_4 kR_55 (by decide) (by decide) dX12_copyNow_170 (fun v1 ev1 gv1 => ?_)
    have hF := hF v1 ev1 gv1
    refine j_icmp_ge hJ 205 gx2 gv1 dX12_copyNow_171 (by decide) (fun z2 => ?_) (fun z2 => ?_)
    · have hF := hF.1 z2
      refine j_aload_n hJ dX12_copyNow_205 rfl 0 rfl ?_
      refine j_iload_n hJ dX12_copyNow_206 rfl 1 rfl ?_
      refine j_callVv hJ (c_X12_study (l := l) (D := D) (cy := cy) (ad := ad) hin) rfl om_1312 ⟨rfl, rfl, Nat.le_of_ble_eq_true rfl, Nat.le_of_ble_eq_true rfl⟩ [.int (Ii x1)] mv_X12_555 hd_X12_studyv kR_0 rfl rfl rfl (Nat.le_of_ble_eq_true rfl) dX12_copyNow_207 ⟨x1, rfl, gx1, hF⟩ (fun M4 qM4 => ?_)
      have hF := qM4
      exact j_vret hJ rfl dX12_copyNow_210 hF
    · have hF := hF.2 z2
      refine j_aload_n hJ dX12_copyNow_174 rfl 0 rfl ?_
      refine j_iload_n hJ dX12_copyNow_175 rfl 1 rfl ?_
      refine j_aload_n hJ dX12_copyNow_176 rfl 0 rfl ?_
      refine j_gr (e := 56) hJ kR_0 fR_15_66 fl_X12_237 dX12_copyNow_177 rfl ?_
      refine j_sipush hJ dX12_copyNow_180 (by decide) ?_
      refine j_iload_n hJ dX12_copyNow_183 rfl 2 rfl ?_
      refine j_iadd hJ dX12_copyNow_184 ?_
      have g5 := hF.1; have hF := hF.2
      refine j_iald hJ g5 kR_56 hF.1 hF.2.1 dX12_copyNow_185 (fun v6 ev6 gv6 => ?_)
      have hF := hF.2.2 v6 ev6 gv6
      refine j_aload_n hJ dX12_copyNow_186 rfl 0 rfl ?_
      refine j_gr (e := 57) hJ kR_0 fR_15_67 fl_X12_240 dX12_copyNow_187 rfl ?_
      refine j_sipush hJ dX12_copyNow_190 (by decide) ?_
      refine j_iload_n hJ dX12_copyNow_193 rfl 2 rfl ?_
      refine j_iadd hJ dX12_copyNow_194 ?_
      have g7 := hF.1; have hF := hF.2
      refine j_iald hJ g7 kR_57 hF.1 hF.2.1 dX12_copyNow_195 (fun v8 ev8 gv8 => ?_)
      have hF := hF.2.2 v8 ev8 gv8
      refine j_callVv hJ (c_X12_addRoot (l := l) (D := D) (cy := cy) (ad := ad) hin) rfl om_1157 ⟨rfl, rfl, Nat.le_of_ble_eq_true rfl, Nat.le_of_ble_eq_true rfl⟩ [.int (Ii x1), .int (Ii v6), .int (Ii v8)] mv_X12_548 hd_X12_addRootv kR_0 rfl rfl rfl (Nat.le_of_ble_eq_true rfl) dX12_copyNow_196 ⟨x1, v6, v8, rfl, gx1, gv6, gv8, hF⟩ (fun M10 qM10 => ?_)
      have hF := qM10
      refine j_iinc (lv' := [(2, .int (Ii (x2 + 1))), (0, .ref (ad 0)), (1, .int (Ii x1))]) (k := 2) hJ dX12_copyNow_199 rfl (by decide) rfl ?_
      have g11 := hF.1; have hF := hF.2
      refine j_goto hJ 164 dX12_copyNow_202 (by decide) ?_
      exact j_sub hJ [1, 2, 0] rfl (ih x1 (x2 + 1) _ gx1 g11 hF)
  intro x1 x2 M gx1 gx2 hF
  obtain ⟨n, hF⟩ := hF
  exact H9 n x1 x2 M gx1 gx2 hF
set_option maxHeartbeats 4000000 in
set_option maxRecDepth 100000 in
theorem k_X12_copyNow_b120 {l : Launch} {D : va_G} {cy : Nat → ClassId} {ad : Nat → Nat} {Q : Int → MM → Prop} {J : Nat → List (Nat × Value) → List Value → MM → Prop} (hin : jIn ad ksR.length)   (hJ : jOk l D vwCl (tyR cy) cy ad ftR ksR (XtR ad) Om RX12 cX12_copyNow 3 0 ({ frames := 7, cells := 0, slots := 0, locals := 169 } : Room) Q J)  : ∀ (x1 x2 : Int) (M : MM), ri_ x1 → ri_ x2 → w_X12_copyNow_b120  Q  x1 x2 M → J 120 [(0, .ref (ad 0)), (1, .int (Ii x1)), (2, .int (Ii x2))] [] M := by
  have H9 : ∀ (n : Nat) (x1 x2 : Int) (M : MM), ri_ x1 → ri_ x2 → jit (fun _ _ _ => False) (wb_X12_copyNow_b120  Q ) n x1 x2 M → J 120 [(0, .ref (ad 0)), (1, .int (Ii x1)), (2, .int (Ii x2))] [] M := by
    intro n
    induction n with
    | zero => intro x1 x2 M gx1 gx2 hF; exact False.elim hF
    | succ n ih =>
    intro x1 x2 M gx1 gx2 hF
    have hF : wb_X12_copyNow_b120  Q  (jit (fun _ _ _ => False) (wb_X12_copyNow_b120  Q ) n) x1 x2 M := hF
    unfold wb_X12_copyNow_b120 at hF
    refine j_iload_n hJ dX12_copyNow_120 rfl 2 rfl ?_
    refine j_sipush hJ dX12_copyNow_121 (by decide) ?_
    refine j_icmp_ge hJ 155 gx2 rk_4000 dX12_copyNow_124 (by decide) (fun z1 => ?_) (fun z1 => ?_)
    · have hF := hF.1 z1
      refine j_aload_n hJ dX12_copyNow_155 rfl 0 rfl ?_
      refine j_gr (e := 55) hJ kR_0 fR_15_65 fl_X12_234 dX12_copyNow_156 rfl ?_
      refine j_iload_n hJ dX12_copyNow_159 rfl 1 rfl ?_
      refine j_iconst hJ dX12_copyNow_160 ?_
      refine j_iast hJ gx1 rk_0 kR_55 hF.1 hF.2.1 dX12_copyNow_161 (fun M2 eM2 => ?_)
      have hF := hF.2.2 M2 eM2
      refine j_iconst hJ dX12_copyNow_162 ?_
      refine j_istore_n (lv' := [(2, .int (Ii 0)), (0, .ref (ad 0)), (1, .int (Ii x1))]) hJ dX12_copyNow_163 rfl (by decide) rfl ?_
      exact j_sub hJ [1, 2, 0] rfl (k_X12_copyNow_b164 hin  hJ  x1 0 _ gx1 rk_0 hF)
    · have hF := hF.2 z1
      refine j_aload_n hJ dX12_copyNow_127 rfl 0 rfl ?_
      refine j_gr (e := 58) hJ kR_0 fR_15_68 fl_X12_243 dX12_copyNow_128 rfl ?_
      refine j_sipush hJ dX12_copyNow_131 (by decide) ?_
      refine j_iload_n hJ dX12_copyNow_134 rfl 1 rfl ?_
      refine j_imul hJ dX12_copyNow_135 ?_
      have g3 := hF.1; have hF := hF.2
      refine j_iload_n hJ dX12_copyNow_136 rfl 2 rfl ?_
      refine j_iadd hJ dX12_copyNow_137 ?_
      have g4 := hF.1; have hF := hF.2
      refine j_aload_n hJ dX12_copyNow_138 rfl 0 rfl ?_
      refine j_gr (e := 58) hJ kR_0 fR_15_68 fl_X12_243 dX12_copyNow_139 rfl ?_
      refine j_sipush hJ dX12_copyNow_142 (by decide) ?_
      refine j_iload_n hJ dX12_copyNow_145 rfl 2 rfl ?_
      refine j_iadd hJ dX12_copyNow_146 ?_
      have g5 := hF.1; have hF := hF.2
      refine j_lald hJ g5 kR_58 hF.1 hF.2.1 dX12_copyNow_147 (fun v6 ev6 gv6 => ?_)
      have hF := hF.2.2 v6 ev6 gv6
      refine j_last hJ g4 gv6 kR_58 hF.1 hF.2.1 dX12_copyNow_148 (fun M7 eM7 => ?_)
      have hF := hF.2.2 M7 eM7
      refine j_iinc (lv' := [(2, .int (Ii (x2 + 1))), (0, .ref (ad 0)), (1, .int (Ii x1))]) (k := 2) hJ dX12_copyNow_149 rfl (by decide) rfl ?_
      have g8 := hF.1; have hF := hF.2
      refine j_goto hJ 120 dX12_copyNow_152 (by decide) ?_
      exact j_sub hJ [1, 2, 0] rfl (ih x1 (x2 + 1) _ gx1 g8 hF)
  intro x1 x2 M gx1 gx2 hF
  obtain ⟨n, hF⟩ := hF
  exact H9 n x1 x2 M gx1 gx2 hF
set_option maxHeartbeats 4000000 in
set_option maxRecDepth 100000 in
theorem k_X12_copyNow_b14 {l : Launch} {D : va_G} {cy : Nat → ClassId} {ad : Nat → Nat} {Q : Int → MM → Prop} {J : Nat → List (Nat × Value) → List Value → MM → Prop} (hin : jIn ad ksR.length)   (hJ : jOk l D vwCl (tyR cy) cy ad ftR ksR (XtR ad) Om RX12 cX12_copyNow 3 0 ({ frames := 7, cells := 0, slots := 0, locals := 169 } : Room) Q J)  : ∀ (x1 x2 : Int) (M : MM), ri_ x1 → ri_ x2 → w_X12_copyNow_b14  Q  x1 x2 M → J 14 [(0, .ref (ad 0)), (1, .int (Ii x1)), (2, .int (Ii x2))] [] M := by
  have H9 : ∀ (n : Nat) (x1 x2 : Int) (M : MM), ri_ x1 → ri_ x2 → jit (fun _ _ _ => False) (wb_X12_copyNow_b14  Q ) n x1 x2 M → J 14 [(0, .ref (ad 0)), (1, .int (Ii x1)), (2, .int (Ii x2))] [] M := by
    intro n
    induction n with
    | zero => intro x1 x2 M gx1 gx2 hF; exact False.elim hF
    | succ n ih =>
    intro x1 x2 M gx1 gx2 hF
    have hF : wb_X12_copyNow_b14  Q  (jit (fun _ _ _ => False) (wb_X12_copyNow_b14  Q ) n) x1 x2 M := hF
    unfold wb_X12_copyNow_b14 at hF
    refine j_iload_n hJ dX12_copyNow_14 rfl 2 rfl ?_
    refine j_aload_n hJ dX12_copyNow_15 rfl 0 rfl ?_
    refine j_gr (e := 38) hJ kR_0 fR_15_48 fl_X12_183 dX12_copyNow_16 rfl ?_
    refine j_iconst hJ dX12_copyNow_19 ?_
    refine j_iald hJ rk_4 kR_38 (by decide) (by decide) dX12_copyNow_20 (fun v1 ev1 gv1 => ?_)
    have hF := hF v1 ev1 gv1
    refine j_icmp_ge hJ 118 gx2 gv1 dX12_copyNow_21 (by decide) (fun z2 => ?_) (fun z2 => ?_)
    · have hF := hF.1 z2
      refine j_iconst hJ dX12_copyNow_118 ?_
      refine j_istore_n (lv' := [(2, .int (Ii 0)), (0, .ref (ad 0)), (1, .int (Ii x1))]) hJ dX12_copyNow_119 rfl (by decide) rfl ?_
      exact j_sub hJ [1, 2, 0] rfl (k_X12_copyNow_b120 hin  hJ  x1 0 _ gx1 rk_0 hF)
    · have hF := hF.2 z2
      refine j_aload_n hJ dX12_copyNow_24 rfl 0 rfl ?_
      refine j_gr (e := 39) hJ kR_0 fR_15_49 fl_X12_186 dX12_copyNow_25 rfl ?_
      refine j_aload_n hJ dX12_copyNow_28 rfl 0 rfl ?_
      refine j_iload_n hJ dX12_copyNow_29 rfl 1 rfl ?_
      refine j_iload_n hJ dX12_copyNow_30 rfl 2 rfl ?_
      refine j_callVi hJ (c_X12_at (l := l) (D := D) (cy := cy) (ad := ad) hin) rfl om_1153 ⟨rfl, rfl, Nat.le_of_ble_eq_true rfl, Nat.le_of_ble_eq_true rfl⟩ [.int (Ii x1), .int (Ii x2)] mv_X12_545 hd_X12_atv kR_0 rfl rfl rfl (Nat.le_of_ble_eq_true rfl) dX12_copyNow_31 ⟨x1, x2, rfl, gx1, gx2, hF⟩ (fun r3 M4 gr3 qM4 => ?_)
      have hF := qM4 gr3
      refine j_aload_n hJ dX12_copyNow_34 rfl 0 rfl ?_
      refine j_gr (e := 39) hJ kR_0 fR_15_49 fl_X12_186 dX12_copyNow_35 rfl ?_
      refine j_aload_n hJ dX12_copyNow_38 rfl 0 rfl ?_
      refine j_iconst hJ dX12_copyNow_39 ?_
      refine j_iload_n hJ dX12_copyNow_40 rfl 2 rfl ?_
      refine j_callVi hJ (c_X12_at (l := l) (D := D) (cy := cy) (ad := ad) hin) rfl om_1153 ⟨rfl, rfl, Nat.le_of_ble_eq_true rfl, Nat.le_of_ble_eq_true rfl⟩ [.int (Ii 4), .int (Ii x2)] mv_X12_545 hd_X12_atv kR_0 rfl rfl rfl (Nat.le_of_ble_eq_true rfl) dX12_copyNow_41 ⟨4, x2, rfl, rk_4, gx2, hF⟩ (fun r5 M6 gr5 qM6 => ?_)
      have hF := qM6 gr5
      refine j_iald hJ gr5 kR_39 hF.1 hF.2.1 dX12_copyNow_44 (fun v7 ev7 gv7 => ?_)
      have hF := hF.2.2 v7 ev7 gv7
      refine j_iast hJ gr3 gv7 kR_39 hF.1 hF.2.1 dX12_copyNow_45 (fun M8 eM8 => ?_)
      have hF := hF.2.2 M8 eM8
      refine j_aload_n hJ dX12_copyNow_46 rfl 0 rfl ?_
      refine j_gr (e := 40) hJ kR_0 fR_15_50 fl_X12_189 dX12_copyNow_47 rfl ?_
      refine j_aload_n hJ dX12_copyNow_50 rfl 0 rfl ?_
      refine j_iload_n hJ dX12_copyNow_51 rfl 1 rfl ?_
      refine j_iload_n hJ dX12_copyNow_52 rfl 2 rfl ?_
      refine j_callVi hJ (c_X12_at (l := l) (D := D) (cy := cy) (ad := ad) hin) rfl om_1153 ⟨rfl, rfl, Nat.le_of_ble_eq_true rfl, Nat.le_of_ble_eq_true rfl⟩ [.int (Ii x1), .int (Ii x2)] mv_X12_545 hd_X12_atv kR_0 rfl rfl rfl (Nat.le_of_ble_eq_true rfl) dX12_copyNow_53 ⟨x1, x2, rfl, gx1, gx2, hF⟩ (fun r9 M10 gr9 qM10 => ?_)
      have hF := qM10 gr9
      refine j_aload_n hJ dX12_copyNow_56 rfl 0 rfl ?_
      refine j_gr (e := 40) hJ kR_0 fR_15_50 fl_X12_189 dX12_copyNow_57 rfl ?_
      refine j_aload_n hJ dX12_copyNow_60 rfl 0 rfl ?_
      refine j_iconst hJ dX12_copyNow_61 ?_
      refine j_iload_n hJ dX12_copyNow_62 rfl 2 rfl ?_
      refine j_callVi hJ (c_X12_at (l := l) (D := D) (cy := cy) (ad := ad) hin) rfl om_1153 ⟨rfl, rfl, Nat.le_of_ble_eq_true rfl, Nat.le_of_ble_eq_true rfl⟩ [.int (Ii 4), .int (Ii x2)] mv_X12_545 hd_X12_atv kR_0 rfl rfl rfl (Nat.le_of_ble_eq_true rfl) dX12_copyNow_63 ⟨4, x2, rfl, rk_4, gx2, hF⟩ (fun r11 M12 gr11 qM12 => ?_)
      have hF := qM12 gr11
      refine j_iald hJ gr11 kR_40 hF.1 hF.2.1 dX12_copyNow_66 (fun v13 ev13 gv13 => ?_)
      have hF := hF.2.2 v13 ev13 gv13
      refine j_iast hJ gr9 gv13 kR_40 hF.1 hF.2.1 dX12_copyNow_67 (fun M14 eM14 => ?_)
      have hF := hF.2.2 M14 eM14
      refine j_aload_n hJ dX12_copyNow_68 rfl 0 rfl ?_
      refine j_gr (e := 41) hJ kR_0 fR_15_51 fl_X12_192 dX12_copyNow_69 rfl ?_
      refine j_aload_n hJ dX12_copyNow_72 rfl 0 rfl ?_
      refine j_iload_n hJ dX12_copyNow_73 rfl 1 rfl ?_
      refine j_iload_n hJ dX12_copyNow_74 rfl 2 rfl ?_
      refine j_callVi hJ (c_X12_at (l := l) (D := D) (cy := cy) (ad := ad) hin) rfl om_1153 ⟨rfl, rfl, Nat.le_of_ble_eq_true rfl, Nat.le_of_ble_eq_true rfl⟩ [.int (Ii x1), .int (Ii x2)] mv_X12_545 hd_X12_atv kR_0 rfl rfl rfl (Nat.le_of_ble_eq_true rfl) dX12_copyNow_75 ⟨x1, x2, rfl, gx1, gx2, hF⟩ (fun r15 M16 gr15 qM16 => ?_)
      have hF := qM16 gr15
      refine j_aload_n hJ dX12_copyNow_78 rfl 0 rfl ?_
      refine j_gr (e := 41) hJ kR_0 fR_15_51 fl_X12_192 dX12_copyNow_79 rfl ?_
      refine j_aload_n hJ dX12_copyNow_82 rfl 0 rfl ?_
      refine j_iconst hJ dX12_copyNow_83 ?_
      refine j_iload_n hJ dX12_copyNow_84 rfl 2 rfl ?_
      refine j_callVi hJ (c_X12_at (l := l) (D := D) (cy := cy) (ad := ad) hin) rfl om_1153 ⟨rfl, rfl, Nat.le_of_ble_eq_true rfl, Nat.le_of_ble_eq_true rfl⟩ [.int (Ii 4), .int (Ii x2)] mv_X12_545 hd_X12_atv kR_0 rfl rfl rfl (Nat.le_of_ble_eq_true rfl) dX12_copyNow_85 ⟨4, x2, rfl, rk_4, gx2, hF⟩ (fun r17 M18 gr17 qM18 => ?_)
      have hF := qM18 gr17
      refine j_iald hJ gr17 kR_41 hF.1 hF.2.1 dX12_copyNow_88 (fun v19 ev19 gv19 => ?_)
      have hF := hF.2.2 v19 ev19 gv19
      refine j_iast hJ gr15 gv19 kR_41 hF.1 hF.2.1 dX12_copyNow_89 (fun M20 eM20 => ?_)
      have hF := hF.2.2 M20 eM20
      refine j_aload_n hJ dX12_copyNow_90 rfl 0 rfl ?_
      refine j_gr (e := 42) hJ kR_0 fR_15_52 fl_X12_195 dX12_copyNow_91 rfl ?_
      refine j_aload_n hJ dX12_copyNow_94 rfl 0 rfl ?_
      refine j_iload_n hJ dX12_copyNow_95 rfl 1 rfl ?_
      refine j_iload_n hJ dX12_copyNow_96 rfl 2 rfl ?_
      refine j_callVi hJ (c_X12_at (l := l) (D := D) (cy := cy) (ad := ad) hin) rfl om_1153 ⟨rfl, rfl, Nat.le_of_ble_eq_true rfl, Nat.le_of_ble_eq_true rfl⟩ [.int (Ii x1), .int (Ii x2)] mv_X12_545 hd_X12_atv kR_0 rfl rfl rfl (Nat.le_of_ble_eq_true rfl) dX12_copyNow_97 ⟨x1, x2, rfl, gx1, gx2, hF⟩ (fun r21 M22 gr21 qM22 => ?_)
      have hF := qM22 gr21
      refine j_aload_n hJ dX12_copyNow_100 rfl 0 rfl ?_
      refine j_gr (e := 42) hJ kR_0 fR_15_52 fl_X12_195 dX12_copyNow_101 rfl ?_
      refine j_aload_n hJ dX12_copyNow_104 rfl 0 rfl ?_
      refine j_iconst hJ dX12_copyNow_105 ?_
      refine j_iload_n hJ dX12_copyNow_106 rfl 2 rfl ?_
      refine j_callVi hJ (c_X12_at (l := l) (D := D) (cy := cy) (ad := ad) hin) rfl om_1153 ⟨rfl, rfl, Nat.le_of_ble_eq_true rfl, Nat.le_of_ble_eq_true rfl⟩ [.int (Ii 4), .int (Ii x2)] mv_X12_545 hd_X12_atv kR_0 rfl rfl rfl (Nat.le_of_ble_eq_true rfl) dX12_copyNow_107 ⟨4, x2, rfl, rk_4, gx2, hF⟩ (fun r23 M24 gr23 qM24 => ?_)
      have hF := qM24 gr23
      refine j_iald hJ gr23 kR_42 hF.1 hF.2.1 dX12_copyNow_110 (fun v25 ev25 gv25 => ?_)
      have hF := hF.2.2 v25 ev25 gv25
      refine j_iast hJ gr21 gv25 kR_42 hF.1 hF.2.1 dX12_copyNow_111 (fun M26 eM26 => ?_)
      have hF := hF.2.2 M26 eM26
      refine j_iinc (lv' := [(2, .int (Ii (x2 + 1))), (0, .ref (ad 0)), (1, .int (Ii x1))]) (k := 2) hJ dX12_copyNow_112 rfl (by decide) rfl ?_
      have g27 := hF.1; have hF := hF.2
      refine j_goto hJ 14 dX12_copyNow_115 (by decide) ?_
      exact j_sub hJ [1, 2, 0] rfl (ih x1 (x2 + 1) _ gx1 g27 hF)
  intro x1 x2 M gx1 gx2 hF
  obtain ⟨n, hF⟩ := hF
  exact H9 n x1 x2 M gx1 gx2 hF
set_option maxHeartbeats 4000000 in
set_option maxRecDepth 100000 in
theorem c_X12_copyNow {l : Launch} {D : va_G} {cy : Nat → ClassId} {ad : Nat → Nat} (hin : jIn ad ksR.length) : jCN l D vwCl (tyR cy) cy ad ftR ksR (XtR ad) yX12_copyNow (.code yX12_copyNow cX12_copyNow 3 none :: Om) ({ frames := 7, cells := 0, slots := 0, locals := 169 } : Room) 0 (W_X12_copyNow ad) := by
  refine jCN_of (y := yX12_copyNow) (cc := cX12_copyNow) (nL := 3) (rk := 0) (rm := ({ frames := 7, cells := 0, slots := 0, locals := 169 } : Room)) (own := RX12) (tyR_ok cy) hin (XtR_ok ad) Om_good (by decide) rfl ?_
  intro Q av M hF
  obtain ⟨p1, rfl, gp1, hF⟩ := hF
  refine ⟨Nat.le_of_ble_eq_true rfl, fun J hJ => ?_⟩
  show J 0 [(0, .ref (ad 0)), (1, .int (Ii p1))] [] M
  unfold w_X12_copyNow at hF
  refine j_aload_n hJ dX12_copyNow_0 rfl 0 rfl ?_
  refine j_gr (e := 38) hJ kR_0 fR_15_48 fl_X12_183 dX12_copyNow_1 rfl ?_
  refine j_iload_n hJ dX12_copyNow_4 rfl 1 rfl ?_
  refine j_aload_n hJ dX12_copyNow_5 rfl 0 rfl ?_
  refine j_gr (e := 38) hJ kR_0 fR_15_48 fl_X12_183 dX12_copyNow_6 rfl ?_
  refine j_iconst hJ dX12_copyNow_9 ?_
  refine j_iald hJ rk_4 kR_38 (by decide) (by decide) dX12_copyNow_10 (fun v1 ev1 gv1 => ?_)
  have hF := hF v1 ev1 gv1
  refine j_iast hJ gp1 gv1 kR_38 hF.1 hF.2.1 dX12_copyNow_11 (fun M2 eM2 => ?_)
  have hF := hF.2.2 M2 eM2
  refine j_iconst hJ dX12_copyNow_12 ?_
  refine j_istore_n (lv' := [(2, .int (Ii 0)), (0, .ref (ad 0)), (1, .int (Ii p1))]) hJ dX12_copyNow_13 rfl (by decide) rfl ?_
  exact j_sub hJ [1, 2, 0] rfl (k_X12_copyNow_b14 hin  hJ  p1 0 _ gp1 rk_0 hF)
def W_X12_load (ad : Nat → Nat) (Q : Int → MM → Prop) (av : List Value) (M : MM) : Prop := ∃ (p1 : Int), av = [.ref (ad 0), .int (Ii p1)] ∧ ri_ p1 ∧ w_X12_load  Q p1 M
set_option maxHeartbeats 4000000 in
set_option maxRecDepth 100000 in
theorem k_X12_load_b106 {l : Launch} {D : va_G} {cy : Nat → ClassId} {ad : Nat → Nat} {Q : Int → MM → Prop} {J : Nat → List (Nat × Value) → List Value → MM → Prop} (hin : jIn ad ksR.length)   (hJ : jOk l D vwCl (tyR cy) cy ad ftR ksR (XtR ad) Om RX12 cX12_load 3 1 ({ frames := 8, cells := 0, slots := 0, locals := 191 } : Room) Q J)  : ∀ (x1 s0 : Int) (M : MM), ri_ x1 → ri_ s0 → w_X12_load_b106  Q  x1 s0 M → J 106 [(0, .ref (ad 0)), (1, .int (Ii x1))] [.int (Ii s0), .ref (ad 0)] M := by
  intro x1 s0 M gx1 gs0 hF
  unfold w_X12_load_b106 at hF
  refine j_pi hJ gs0 kR_0 fR_15_0 rfl fp_X12_388 dX12_load_106 (fun M1 eM1 => ?_)
  have hF := hF M1 eM1
  refine j_aload_n hJ dX12_load_109 rfl 0 rfl ?_
  refine j_gi hJ kR_0 fR_15_0 rfl fl_X12_388 dX12_load_110 (fun v2 ev2 gv2 => ?_)
  have hF := hF v2 ev2 gv2
  refine j_if_le hJ 118 gv2 dX12_load_113 (by decide) (fun z3 => ?_) (fun z3 => ?_)
  · have hF := hF.1 z3
    refine j_aload_n hJ dX12_load_118 rfl 0 rfl ?_
    refine j_iload_n hJ dX12_load_119 rfl 1 rfl ?_
    refine j_callVv hJ (c_X12_copyNow (l := l) (D := D) (cy := cy) (ad := ad) hin) rfl om_1598 ⟨rfl, rfl, Nat.le_of_ble_eq_true rfl, Nat.le_of_ble_eq_true rfl⟩ [.int (Ii x1)] mv_X12_1024 hd_X12_copyNowv kR_0 rfl rfl rfl (Nat.le_of_ble_eq_true rfl) dX12_load_120 ⟨x1, rfl, gx1, hF⟩ (fun M5 qM5 => ?_)
    have hF := qM5
    refine j_aload_n hJ dX12_load_123 rfl 0 rfl ?_
    refine j_gr (e := 38) hJ kR_0 fR_15_48 fl_X12_183 dX12_load_124 rfl ?_
    refine j_iload_n hJ dX12_load_127 rfl 1 rfl ?_
    refine j_iald hJ gx1 kR_38 hF.1 hF.2.1 dX12_load_128 (fun v6 ev6 gv6 => ?_)
    have hF := hF.2.2 v6 ev6 gv6
    exact j_iret hJ rfl gv6 dX12_load_129 hF
  · have hF := hF.2 z3
    refine j_iconst hJ dX12_load_116 ?_
    exact j_iret hJ rfl rk_0 dX12_load_117 hF
set_option maxHeartbeats 4000000 in
set_option maxRecDepth 100000 in
theorem k_X12_load_b90 {l : Launch} {D : va_G} {cy : Nat → ClassId} {ad : Nat → Nat} {Q : Int → MM → Prop} {J : Nat → List (Nat × Value) → List Value → MM → Prop} (hin : jIn ad ksR.length)   (hJ : jOk l D vwCl (tyR cy) cy ad ftR ksR (XtR ad) Om RX12 cX12_load 3 1 ({ frames := 8, cells := 0, slots := 0, locals := 191 } : Room) Q J)  : ∀ (x1 s0 : Int) (M : MM), ri_ x1 → ri_ s0 → w_X12_load_b90  Q  x1 s0 M → J 90 [(0, .ref (ad 0)), (1, .int (Ii x1))] [.int (Ii s0), .ref (ad 0)] M := by
  intro x1 s0 M gx1 gs0 hF
  unfold w_X12_load_b90 at hF
  refine j_pi hJ gs0 kR_0 fR_15_82 rfl fp_X12_268 dX12_load_90 (fun M1 eM1 => ?_)
  have hF := hF M1 eM1
  refine j_aload_n hJ dX12_load_93 rfl 0 rfl ?_
  refine j_aload_n hJ dX12_load_94 rfl 0 rfl ?_
  refine j_gi hJ kR_0 fR_15_83 rfl fl_X12_625 dX12_load_95 (fun v2 ev2 gv2 => ?_)
  have hF := hF v2 ev2 gv2
  refine j_if_le hJ 105 gv2 dX12_load_98 (by decide) (fun z3 => ?_) (fun z3 => ?_)
  · have hF := hF.1 z3
    refine j_iconst hJ dX12_load_105 ?_
    exact j_sub hJ [0, 1] rfl (k_X12_load_b106 hin  hJ  x1 0 _ gx1 rk_0 hF)
  · have hF := hF.2 z3
    refine j_iconst hJ dX12_load_101 ?_
    refine j_goto hJ 106 dX12_load_102 (by decide) ?_
    exact j_sub hJ [0, 1] rfl (k_X12_load_b106 hin  hJ  x1 2 _ gx1 rk_2 hF)
set_option maxHeartbeats 4000000 in
set_option maxRecDepth 100000 in
theorem k_X12_load_b36 {l : Launch} {D : va_G} {cy : Nat → ClassId} {ad : Nat → Nat} {Q : Int → MM → Prop} {J : Nat → List (Nat × Value) → List Value → MM → Prop} (hin : jIn ad ksR.length)   (hJ : jOk l D vwCl (tyR cy) cy ad ftR ksR (XtR ad) Om RX12 cX12_load 3 1 ({ frames := 8, cells := 0, slots := 0, locals := 191 } : Room) Q J)  : ∀ (x1 x2 : Int) (M : MM), ri_ x1 → ri_ x2 → w_X12_load_b36  Q  x1 x2 M → J 36 [(0, .ref (ad 0)), (1, .int (Ii x1)), (2, .int (Ii x2))] [] M := by
  have H9 : ∀ (n : Nat) (x1 x2 : Int) (M : MM), ri_ x1 → ri_ x2 → jit (fun _ _ _ => False) (wb_X12_load_b36  Q ) n x1 x2 M → J 36 [(0, .ref (ad 0)), (1, .int (Ii x1)), (2, .int (Ii x2))] [] M := by
    intro n
    induction n with
    | zero => intro x1 x2 M gx1 gx2 hF; exact False.elim hF
    | succ n ih =>
    intro x1 x2 M gx1 gx2 hF
    have hF : wb_X12_load_b36  Q  (jit (fun _ _ _ => False) (wb_X12_load_b36  Q ) n) x1 x2 M := hF
    unfold wb_X12_load_b36 at hF
    refine j_iload_n hJ dX12_load_36 rfl 2 rfl ?_
    refine j_aload_n hJ dX12_load_37 rfl 0 rfl ?_
    refine j_gi hJ kR_0 fR_15_3 rfl fl_X12_391 dX12_load_38 (fun v1 ev1 gv1 => ?_)
    have hF := hF v1 ev1 gv1
    refine j_icmp_ge hJ 62 gx2 gv1 dX12_load_41 (by decide) (fun z2 => ?_) (fun z2 => ?_)
    · have hF := hF.1 z2
      refine j_aload_n hJ dX12_load_62 rfl 0 rfl ?_
      refine j_callVv hJ (c_X12_takePicture (l := l) (D := D) (cy := cy) (ad := ad) hin) rfl om_1594 ⟨rfl, rfl, Nat.le_of_ble_eq_true rfl, Nat.le_of_ble_eq_true rfl⟩ [] mv_X12_1021 hd_X12_takePicturev kR_0 rfl rfl rfl (Nat.le_of_ble_eq_true rfl) dX12_load_63 ⟨rfl, hF⟩ (fun M4 qM4 => ?_)
      have hF := qM4
      refine j_aload_n hJ dX12_load_66 rfl 0 rfl ?_
      refine j_aload_n hJ dX12_load_67 rfl 0 rfl ?_
      refine j_gi hJ kR_0 fR_15_83 rfl fl_X12_625 dX12_load_68 (fun v5 ev5 gv5 => ?_)
      have hF := hF v5 ev5 gv5
      refine j_pi hJ gv5 kR_0 fR_15_81 rfl fp_X12_776 dX12_load_71 (fun M6 eM6 => ?_)
      have hF := hF M6 eM6
      refine j_aload_n hJ dX12_load_74 rfl 0 rfl ?_
      refine j_aload_n hJ dX12_load_75 rfl 0 rfl ?_
      refine j_gi hJ kR_0 fR_15_83 rfl fl_X12_625 dX12_load_76 (fun v7 ev7 gv7 => ?_)
      have hF := hF v7 ev7 gv7
      refine j_if_le hJ 89 gv7 dX12_load_79 (by decide) (fun z8 => ?_) (fun z8 => ?_)
      · have hF := hF.1 z8
        refine j_iconst hJ dX12_load_89 ?_
        exact j_sub hJ [0, 1] rfl (k_X12_load_b90 hin  hJ  x1 (-1) _ gx1 rk_m1 hF)
      · have hF := hF.2 z8
        refine j_aload_n hJ dX12_load_82 rfl 0 rfl ?_
        refine j_gi hJ kR_0 fR_15_84 rfl fl_X12_628 dX12_load_83 (fun v9 ev9 gv9 => ?_)
        have hF := hF v9 ev9 gv9
        refine j_goto hJ 90 dX12_load_86 (by decide) ?_
        exact j_sub hJ [0, 1] rfl (k_X12_load_b90 hin  hJ  x1 v9 _ gx1 gv9 hF)
    · have hF := hF.2 z2
      refine j_aload_n hJ dX12_load_44 rfl 0 rfl ?_
      refine j_gr (e := 98) hJ kR_0 fR_15_139 fl_X12_369 dX12_load_45 rfl ?_
      refine j_iload_n hJ dX12_load_48 rfl 2 rfl ?_
      refine j_aload_n hJ dX12_load_49 rfl 0 rfl ?_
      refine j_gr (e := 1) hJ kR_0 fR_15_1 fl_X12_7 dX12_load_50 rfl ?_
      refine j_iload_n hJ dX12_load_53 rfl 2 rfl ?_
      refine j_bald hJ gx2 kR_1 hF.1 hF.2.1 dX12_load_54 (fun v10 ev10 gv10 => ?_)
      have hF := hF.2.2 v10 ev10 gv10
      refine j_bast hJ gx2 gv10 kR_98 hF.1 hF.2.1 dX12_load_55 (fun M11 eM11 => ?_)
      have hF := hF.2.2 M11 eM11
      refine j_iinc (lv' := [(2, .int (Ii (x2 + 1))), (0, .ref (ad 0)), (1, .int (Ii x1))]) (k := 2) hJ dX12_load_56 rfl (by decide) rfl ?_
      have g12 := hF.1; have hF := hF.2
      refine j_goto hJ 36 dX12_load_59 (by decide) ?_
      exact j_sub hJ [1, 2, 0] rfl (ih x1 (x2 + 1) _ gx1 g12 hF)
  intro x1 x2 M gx1 gx2 hF
  obtain ⟨n, hF⟩ := hF
  exact H9 n x1 x2 M gx1 gx2 hF
set_option maxHeartbeats 4000000 in
set_option maxRecDepth 100000 in
theorem k_X12_load_b14 {l : Launch} {D : va_G} {cy : Nat → ClassId} {ad : Nat → Nat} {Q : Int → MM → Prop} {J : Nat → List (Nat × Value) → List Value → MM → Prop} (hin : jIn ad ksR.length)   (hJ : jOk l D vwCl (tyR cy) cy ad ftR ksR (XtR ad) Om RX12 cX12_load 3 1 ({ frames := 8, cells := 0, slots := 0, locals := 191 } : Room) Q J)  : ∀ (x1 s0 : Int) (M : MM), ri_ x1 → ri_ s0 → w_X12_load_b14  Q  x1 s0 M → J 14 [(0, .ref (ad 0)), (1, .int (Ii x1))] [.int (Ii s0), .ref (ad 0)] M := by
  intro x1 s0 M gx1 gs0 hF
  unfold w_X12_load_b14 at hF
  refine j_pi hJ gs0 kR_0 fR_15_0 rfl fp_X12_388 dX12_load_14 (fun M1 eM1 => ?_)
  have hF := hF M1 eM1
  refine j_aload_n hJ dX12_load_17 rfl 0 rfl ?_
  refine j_gi hJ kR_0 fR_15_0 rfl fl_X12_388 dX12_load_18 (fun v2 ev2 gv2 => ?_)
  have hF := hF v2 ev2 gv2
  refine j_if_le hJ 26 gv2 dX12_load_21 (by decide) (fun z3 => ?_) (fun z3 => ?_)
  · have hF := hF.1 z3
    refine j_aload_n hJ dX12_load_26 rfl 0 rfl ?_
    refine j_aload_n hJ dX12_load_27 rfl 0 rfl ?_
    refine j_gi hJ kR_0 fR_15_3 rfl fl_X12_391 dX12_load_28 (fun v4 ev4 gv4 => ?_)
    have hF := hF v4 ev4 gv4
    refine j_pi hJ gv4 kR_0 fR_15_141 rfl fp_X12_953 dX12_load_31 (fun M5 eM5 => ?_)
    have hF := hF M5 eM5
    refine j_iconst hJ dX12_load_34 ?_
    refine j_istore_n (lv' := [(2, .int (Ii 0)), (0, .ref (ad 0)), (1, .int (Ii x1))]) hJ dX12_load_35 rfl (by decide) rfl ?_
    exact j_sub hJ [1, 2, 0] rfl (k_X12_load_b36 hin  hJ  x1 0 _ gx1 rk_0 hF)
  · have hF := hF.2 z3
    refine j_iconst hJ dX12_load_24 ?_
    exact j_iret hJ rfl rk_0 dX12_load_25 hF
set_option maxHeartbeats 4000000 in
set_option maxRecDepth 100000 in
theorem c_X12_load {l : Launch} {D : va_G} {cy : Nat → ClassId} {ad : Nat → Nat} (hin : jIn ad ksR.length) : jCN l D vwCl (tyR cy) cy ad ftR ksR (XtR ad) yX12_load (.code yX12_load cX12_load 3 (some .int) :: Om) ({ frames := 8, cells := 0, slots := 0, locals := 191 } : Room) 1 (W_X12_load ad) := by
  refine jCN_of (y := yX12_load) (cc := cX12_load) (nL := 3) (rk := 1) (rm := ({ frames := 8, cells := 0, slots := 0, locals := 191 } : Room)) (own := RX12) (tyR_ok cy) hin (XtR_ok ad) Om_good (by decide) rfl ?_
  intro Q av M hF
  obtain ⟨p1, rfl, gp1, hF⟩ := hF
  refine ⟨Nat.le_of_ble_eq_true rfl, fun J hJ => ?_⟩
  show J 0 [(0, .ref (ad 0)), (1, .int (Ii p1))] [] M
  unfold w_X12_load at hF
  refine j_aload_n hJ dX12_load_0 rfl 0 rfl ?_
  refine j_aload_n hJ dX12_load_1 rfl 0 rfl ?_
  refine j_iload_n hJ dX12_load_2 rfl 1 rfl ?_
  refine j_callVz hJ (c_X12_isPicture (l := l) (D := D) (cy := cy) (ad := ad) hin) rfl om_1296 ⟨rfl, rfl, Nat.le_of_ble_eq_true rfl, Nat.le_of_ble_eq_true rfl⟩ [.int (Ii p1)] mv_X12_542 hd_X12_isPicturev kR_0 rfl rfl rfl (Nat.le_of_ble_eq_true rfl) dX12_load_3 ⟨p1, rfl, gp1, hF⟩ (fun r1 M2 gr1 qM2 => ?_)
  have hF := qM2 gr1
  refine j_if_eq hJ 13 (jz_ri gr1) dX12_load_6 (by decide) (fun z3 => ?_) (fun z3 => ?_)
  · have hF := hF.1 z3
    refine j_iconst hJ dX12_load_13 ?_
    exact j_sub hJ [0, 1] rfl (k_X12_load_b14 hin  hJ  p1 1 _ gp1 rk_1 hF)
  · have hF := hF.2 z3
    refine j_iconst hJ dX12_load_9 ?_
    refine j_goto hJ 14 dX12_load_10 (by decide) ?_
    exact j_sub hJ [0, 1] rfl (k_X12_load_b14 hin  hJ  p1 0 _ gp1 rk_0 hF)
def W_X12_keep (ad : Nat → Nat) (Q : Int → MM → Prop) (av : List Value) (M : MM) : Prop := ∃ (p1 : Int), av = [.ref (ad 0), .int (Ii p1)] ∧ ri_ p1 ∧ w_X12_keep  Q p1 M
set_option maxHeartbeats 4000000 in
set_option maxRecDepth 100000 in
theorem k_X12_keep_b127 {l : Launch} {D : va_G} {cy : Nat → ClassId} {ad : Nat → Nat} {Q : Int → MM → Prop} {J : Nat → List (Nat × Value) → List Value → MM → Prop} (hin : jIn ad ksR.length)   (hJ : jOk l D vwCl (tyR cy) cy ad ftR ksR (XtR ad) Om RX12 cX12_keep 3 1 ({ frames := 4, cells := 0, slots := 0, locals := 95 } : Room) Q J)  : ∀ (x2 : Int) (M : MM), ri_ x2 → w_X12_keep_b127  Q  x2 M → J 127 [(0, .ref (ad 0)), (2, .int (Ii x2))] [] M := by
  have H9 : ∀ (n : Nat) (x2 : Int) (M : MM), ri_ x2 → jit (fun _ _ => False) (wb_X12_keep_b127  Q ) n x2 M → J 127 [(0, .ref (ad 0)), (2, .int (Ii x2))] [] M := by
    intro n
    induction n with
    | zero => intro x2 M gx2 hF; exact False.elim hF
    | succ n ih =>
    intro x2 M gx2 hF
    have hF : wb_X12_keep_b127  Q  (jit (fun _ _ => False) (wb_X12_keep_b127  Q ) n) x2 M := hF
    unfold wb_X12_keep_b127 at hF
    refine j_iload_n hJ dX12_keep_127 rfl 1 rfl ?_
    refine j_aload_n hJ dX12_keep_128 rfl 0 rfl ?_
    refine j_gi hJ kR_0 fR_15_141 rfl fl_X12_953 dX12_keep_129 (fun v1 ev1 gv1 => ?_)
    have hF := hF v1 ev1 gv1
    refine j_icmp_ge hJ 160 gx2 gv1 dX12_keep_132 (by decide) (fun z2 => ?_) (fun z2 => ?_)
    · have hF := hF.1 z2
      refine j_aload_n hJ dX12_keep_160 rfl 0 rfl ?_
      refine j_dup hJ dX12_keep_161 rfl ?_
      refine j_gi hJ kR_0 fR_15_148 rfl fl_X12_1027 dX12_keep_162 (fun v3 ev3 gv3 => ?_)
      have hF := hF v3 ev3 gv3
      refine j_iconst hJ dX12_keep_165 ?_
      refine j_aload_n hJ dX12_keep_166 rfl 0 rfl ?_
      refine j_gi hJ kR_0 fR_15_141 rfl fl_X12_953 dX12_keep_167 (fun v4 ev4 gv4 => ?_)
      have hF := hF v4 ev4 gv4
      refine j_iadd hJ dX12_keep_170 ?_
      have g5 := hF.1; have hF := hF.2
      refine j_iadd hJ dX12_keep_171 ?_
      have g6 := hF.1; have hF := hF.2
      refine j_pi hJ g6 kR_0 fR_15_148 rfl fp_X12_1027 dX12_keep_172 (fun M7 eM7 => ?_)
      have hF := hF M7 eM7
      refine j_aload_n hJ dX12_keep_175 rfl 0 rfl ?_
      refine j_gi hJ kR_0 fR_15_149 rfl fl_X12_1030 dX12_keep_176 (fun v8 ev8 gv8 => ?_)
      have hF := hF v8 ev8 gv8
      exact j_iret hJ rfl gv8 dX12_keep_179 hF
    · have hF := hF.2 z2
      refine j_aload_n hJ dX12_keep_135 rfl 0 rfl ?_
      refine j_gr (e := 99) hJ kR_0 fR_15_140 fl_X12_372 dX12_keep_136 rfl ?_
      refine j_aload_n hJ dX12_keep_139 rfl 0 rfl ?_
      refine j_gi hJ kR_0 fR_15_148 rfl fl_X12_1027 dX12_keep_140 (fun v9 ev9 gv9 => ?_)
      have hF := hF v9 ev9 gv9
      refine j_iconst hJ dX12_keep_143 ?_
      refine j_iadd hJ dX12_keep_144 ?_
      have g10 := hF.1; have hF := hF.2
      refine j_iload_n hJ dX12_keep_145 rfl 1 rfl ?_
      refine j_iadd hJ dX12_keep_146 ?_
      have g11 := hF.1; have hF := hF.2
      refine j_aload_n hJ dX12_keep_147 rfl 0 rfl ?_
      refine j_gr (e := 98) hJ kR_0 fR_15_139 fl_X12_369 dX12_keep_148 rfl ?_
      refine j_iload_n hJ dX12_keep_151 rfl 1 rfl ?_
      refine j_bald hJ gx2 kR_98 hF.1 hF.2.1 dX12_keep_152 (fun v12 ev12 gv12 => ?_)
      have hF := hF.2.2 v12 ev12 gv12
      refine j_bast hJ g11 gv12 kR_99 hF.1 hF.2.1 dX12_keep_153 (fun M13 eM13 => ?_)
      have hF := hF.2.2 M13 eM13
      refine j_iinc (lv' := [(2, .int (Ii (x2 + 1))), (0, .ref (ad 0))]) (k := 1) hJ dX12_keep_154 rfl (by decide) rfl ?_
      have g14 := hF.1; have hF := hF.2
      refine j_goto hJ 127 dX12_keep_157 (by decide) ?_
      exact j_sub hJ [1, 0] rfl (ih (x2 + 1) _ g14 hF)
  intro x2 M gx2 hF
  obtain ⟨n, hF⟩ := hF
  exact H9 n x2 M gx2 hF
set_option maxHeartbeats 4000000 in
set_option maxRecDepth 100000 in
theorem k_X12_keep_b57 {l : Launch} {D : va_G} {cy : Nat → ClassId} {ad : Nat → Nat} {Q : Int → MM → Prop} {J : Nat → List (Nat × Value) → List Value → MM → Prop} (hin : jIn ad ksR.length)   (hJ : jOk l D vwCl (tyR cy) cy ad ftR ksR (XtR ad) Om RX12 cX12_keep 3 1 ({ frames := 4, cells := 0, slots := 0, locals := 95 } : Room) Q J)  : ∀ (s0 : Int) (M : MM), ri_ s0 → w_X12_keep_b57  Q  s0 M → J 57 [(0, .ref (ad 0))] [.int (Ii s0), .ref (ad 0)] M := by
  intro s0 M gs0 hF
  unfold w_X12_keep_b57 at hF
  refine j_pi hJ gs0 kR_0 fR_15_0 rfl fp_X12_388 dX12_keep_57 (fun M1 eM1 => ?_)
  have hF := hF M1 eM1
  refine j_aload_n hJ dX12_keep_60 rfl 0 rfl ?_
  refine j_gi hJ kR_0 fR_15_0 rfl fl_X12_388 dX12_keep_61 (fun v2 ev2 gv2 => ?_)
  have hF := hF v2 ev2 gv2
  refine j_if_le hJ 69 gv2 dX12_keep_64 (by decide) (fun z3 => ?_) (fun z3 => ?_)
  · have hF := hF.1 z3
    refine j_aload_n hJ dX12_keep_69 rfl 0 rfl ?_
    refine j_gr (e := 102) hJ kR_0 fR_15_147 fl_X12_381 dX12_keep_70 rfl ?_
    refine j_aload_n hJ dX12_keep_73 rfl 0 rfl ?_
    refine j_gi hJ kR_0 fR_15_149 rfl fl_X12_1030 dX12_keep_74 (fun v4 ev4 gv4 => ?_)
    have hF := hF v4 ev4 gv4
    refine j_aload_n hJ dX12_keep_77 rfl 0 rfl ?_
    refine j_gi hJ kR_0 fR_15_148 rfl fl_X12_1027 dX12_keep_78 (fun v5 ev5 gv5 => ?_)
    have hF := hF v5 ev5 gv5
    refine j_iast hJ gv4 gv5 kR_102 hF.1 hF.2.1 dX12_keep_81 (fun M6 eM6 => ?_)
    have hF := hF.2.2 M6 eM6
    refine j_aload_n hJ dX12_keep_82 rfl 0 rfl ?_
    refine j_dup hJ dX12_keep_83 rfl ?_
    refine j_gi hJ kR_0 fR_15_149 rfl fl_X12_1030 dX12_keep_84 (fun v7 ev7 gv7 => ?_)
    have hF := hF v7 ev7 gv7
    refine j_iconst hJ dX12_keep_87 ?_
    refine j_iadd hJ dX12_keep_88 ?_
    have g8 := hF.1; have hF := hF.2
    refine j_pi hJ g8 kR_0 fR_15_149 rfl fp_X12_1030 dX12_keep_89 (fun M9 eM9 => ?_)
    have hF := hF M9 eM9
    refine j_aload_n hJ dX12_keep_92 rfl 0 rfl ?_
    refine j_gr (e := 99) hJ kR_0 fR_15_140 fl_X12_372 dX12_keep_93 rfl ?_
    refine j_aload_n hJ dX12_keep_96 rfl 0 rfl ?_
    refine j_gi hJ kR_0 fR_15_148 rfl fl_X12_1027 dX12_keep_97 (fun v10 ev10 gv10 => ?_)
    have hF := hF v10 ev10 gv10
    refine j_aload_n hJ dX12_keep_100 rfl 0 rfl ?_
    refine j_gi hJ kR_0 fR_15_141 rfl fl_X12_953 dX12_keep_101 (fun v11 ev11 gv11 => ?_)
    have hF := hF v11 ev11 gv11
    refine j_i2b hJ dX12_keep_104 ?_
    refine j_bast hJ gv10 (ji2b_b _) kR_99 hF.1 hF.2.1 dX12_keep_105 (fun M12 eM12 => ?_)
    have hF := hF.2.2 M12 eM12
    refine j_aload_n hJ dX12_keep_106 rfl 0 rfl ?_
    refine j_gr (e := 99) hJ kR_0 fR_15_140 fl_X12_372 dX12_keep_107 rfl ?_
    refine j_aload_n hJ dX12_keep_110 rfl 0 rfl ?_
    refine j_gi hJ kR_0 fR_15_148 rfl fl_X12_1027 dX12_keep_111 (fun v13 ev13 gv13 => ?_)
    have hF := hF v13 ev13 gv13
    refine j_iconst hJ dX12_keep_114 ?_
    refine j_iadd hJ dX12_keep_115 ?_
    have g14 := hF.1; have hF := hF.2
    refine j_aload_n hJ dX12_keep_116 rfl 0 rfl ?_
    refine j_gi hJ kR_0 fR_15_141 rfl fl_X12_953 dX12_keep_117 (fun v15 ev15 gv15 => ?_)
    have hF := hF v15 ev15 gv15
    refine j_bipush hJ dX12_keep_120 (by decide) ?_
    refine j_ishr hJ dX12_keep_122 ?_
    refine j_i2b hJ dX12_keep_123 ?_
    refine j_bast hJ g14 (ji2b_b _) kR_99 hF.1 hF.2.1 dX12_keep_124 (fun M16 eM16 => ?_)
    have hF := hF.2.2 M16 eM16
    refine j_iconst hJ dX12_keep_125 ?_
    refine j_istore_n (lv' := [(2, .int (Ii 0)), (0, .ref (ad 0))]) hJ dX12_keep_126 rfl (by decide) rfl ?_
    exact j_sub hJ [1, 0] rfl (k_X12_keep_b127 hin  hJ  0 _ rk_0 hF)
  · have hF := hF.2 z3
    refine j_iconst hJ dX12_keep_67 ?_
    exact j_iret hJ rfl rk_0 dX12_keep_68 hF
set_option maxHeartbeats 4000000 in
set_option maxRecDepth 100000 in
theorem k_X12_keep_b52 {l : Launch} {D : va_G} {cy : Nat → ClassId} {ad : Nat → Nat} {Q : Int → MM → Prop} {J : Nat → List (Nat × Value) → List Value → MM → Prop} (hin : jIn ad ksR.length)   (hJ : jOk l D vwCl (tyR cy) cy ad ftR ksR (XtR ad) Om RX12 cX12_keep 3 1 ({ frames := 4, cells := 0, slots := 0, locals := 95 } : Room) Q J)  : ∀ (M : MM), w_X12_keep_b52  Q   M → J 52 [(0, .ref (ad 0))] [.ref (ad 0)] M := by
  intro  M  hF
  unfold w_X12_keep_b52 at hF
  refine j_iconst hJ dX12_keep_52 ?_
  refine j_goto hJ 57 dX12_keep_53 (by decide) ?_
  exact j_sub hJ [0] rfl (k_X12_keep_b57 hin  hJ  2 _ rk_2 hF)
set_option maxHeartbeats 4000000 in
set_option maxRecDepth 100000 in
theorem k_X12_keep_b14 {l : Launch} {D : va_G} {cy : Nat → ClassId} {ad : Nat → Nat} {Q : Int → MM → Prop} {J : Nat → List (Nat × Value) → List Value → MM → Prop} (hin : jIn ad ksR.length)   (hJ : jOk l D vwCl (tyR cy) cy ad ftR ksR (XtR ad) Om RX12 cX12_keep 3 1 ({ frames := 4, cells := 0, slots := 0, locals := 95 } : Room) Q J)  : ∀ (x1 s0 : Int) (M : MM), ri_ x1 → ri_ s0 → w_X12_keep_b14  Q  x1 s0 M → J 14 [(0, .ref (ad 0)), (1, .int (Ii x1))] [.int (Ii s0), .ref (ad 0)] M := by
  intro x1 s0 M gx1 gs0 hF
  unfold w_X12_keep_b14 at hF
  refine j_pi hJ gs0 kR_0 fR_15_0 rfl fp_X12_388 dX12_keep_14 (fun M1 eM1 => ?_)
  have hF := hF M1 eM1
  refine j_aload_n hJ dX12_keep_17 rfl 0 rfl ?_
  refine j_gi hJ kR_0 fR_15_0 rfl fl_X12_388 dX12_keep_18 (fun v2 ev2 gv2 => ?_)
  have hF := hF v2 ev2 gv2
  refine j_if_le hJ 26 gv2 dX12_keep_21 (by decide) (fun z3 => ?_) (fun z3 => ?_)
  · have hF := hF.1 z3
    refine j_aload_n hJ dX12_keep_26 rfl 0 rfl ?_
    refine j_aload_n hJ dX12_keep_27 rfl 0 rfl ?_
    refine j_iload_n hJ dX12_keep_28 rfl 1 rfl ?_
    refine j_callVz hJ (c_X12_putPicture (l := l) (D := D) (cy := cy) (ad := ad) hin) rfl om_1549 ⟨rfl, rfl, Nat.le_of_ble_eq_true rfl, Nat.le_of_ble_eq_true rfl⟩ [.int (Ii x1)] mv_X12_972 hd_X12_putPicturev kR_0 rfl rfl rfl (Nat.le_of_ble_eq_true rfl) dX12_keep_29 ⟨x1, rfl, gx1, hF⟩ (fun r4 M5 gr4 qM5 => ?_)
    have hF := qM5 gr4
    refine j_if_eq hJ 52 (jz_ri gr4) dX12_keep_32 (by decide) (fun z6 => ?_) (fun z6 => ?_)
    · have hF := hF.1 z6
      exact j_sub hJ [0] rfl (k_X12_keep_b52 hin  hJ   _  hF)
    · have hF := hF.2 z6
      refine j_aload_n hJ dX12_keep_35 rfl 0 rfl ?_
      refine j_gi hJ kR_0 fR_15_148 rfl fl_X12_1027 dX12_keep_36 (fun v7 ev7 gv7 => ?_)
      have hF := hF v7 ev7 gv7
      refine j_iconst hJ dX12_keep_39 ?_
      refine j_iadd hJ dX12_keep_40 ?_
      have g8 := hF.1; have hF := hF.2
      refine j_aload_n hJ dX12_keep_41 rfl 0 rfl ?_
      refine j_gi hJ kR_0 fR_15_141 rfl fl_X12_953 dX12_keep_42 (fun v9 ev9 gv9 => ?_)
      have hF := hF v9 ev9 gv9
      refine j_iadd hJ dX12_keep_45 ?_
      have g10 := hF.1; have hF := hF.2
      refine j_sipush hJ dX12_keep_46 (by decide) ?_
      refine j_icmp_le hJ 56 g10 rk_8000 dX12_keep_49 (by decide) (fun z11 => ?_) (fun z11 => ?_)
      · have hF := hF.1 z11
        refine j_iconst hJ dX12_keep_56 ?_
        exact j_sub hJ [0] rfl (k_X12_keep_b57 hin  hJ  0 _ rk_0 hF)
      · have hF := hF.2 z11
        exact j_sub hJ [0] rfl (k_X12_keep_b52 hin  hJ   _  hF)
  · have hF := hF.2 z3
    refine j_iconst hJ dX12_keep_24 ?_
    exact j_iret hJ rfl rk_0 dX12_keep_25 hF
set_option maxHeartbeats 4000000 in
set_option maxRecDepth 100000 in
theorem c_X12_keep {l : Launch} {D : va_G} {cy : Nat → ClassId} {ad : Nat → Nat} (hin : jIn ad ksR.length) : jCN l D vwCl (tyR cy) cy ad ftR ksR (XtR ad) yX12_keep (.code yX12_keep cX12_keep 3 (some .int) :: Om) ({ frames := 4, cells := 0, slots := 0, locals := 95 } : Room) 1 (W_X12_keep ad) := by
  refine jCN_of (y := yX12_keep) (cc := cX12_keep) (nL := 3) (rk := 1) (rm := ({ frames := 4, cells := 0, slots := 0, locals := 95 } : Room)) (own := RX12) (tyR_ok cy) hin (XtR_ok ad) Om_good (by decide) rfl ?_
  intro Q av M hF
  obtain ⟨p1, rfl, gp1, hF⟩ := hF
  refine ⟨Nat.le_of_ble_eq_true rfl, fun J hJ => ?_⟩
  show J 0 [(0, .ref (ad 0)), (1, .int (Ii p1))] [] M
  unfold w_X12_keep at hF
  refine j_aload_n hJ dX12_keep_0 rfl 0 rfl ?_
  refine j_aload_n hJ dX12_keep_1 rfl 0 rfl ?_
  refine j_iload_n hJ dX12_keep_2 rfl 1 rfl ?_
  refine j_callVz hJ (c_X12_isPicture (l := l) (D := D) (cy := cy) (ad := ad) hin) rfl om_1296 ⟨rfl, rfl, Nat.le_of_ble_eq_true rfl, Nat.le_of_ble_eq_true rfl⟩ [.int (Ii p1)] mv_X12_542 hd_X12_isPicturev kR_0 rfl rfl rfl (Nat.le_of_ble_eq_true rfl) dX12_keep_3 ⟨p1, rfl, gp1, hF⟩ (fun r1 M2 gr1 qM2 => ?_)
  have hF := qM2 gr1
  refine j_if_eq hJ 13 (jz_ri gr1) dX12_keep_6 (by decide) (fun z3 => ?_) (fun z3 => ?_)
  · have hF := hF.1 z3
    refine j_iconst hJ dX12_keep_13 ?_
    exact j_sub hJ [0, 1] rfl (k_X12_keep_b14 hin  hJ  p1 1 _ gp1 rk_1 hF)
  · have hF := hF.2 z3
    refine j_iconst hJ dX12_keep_9 ?_
    refine j_goto hJ 14 dX12_keep_10 (by decide) ?_
    exact j_sub hJ [0, 1] rfl (k_X12_keep_b14 hin  hJ  p1 0 _ gp1 rk_0 hF)
def W_X12_takeRecord (ad : Nat → Nat) (Q : Int → MM → Prop) (av : List Value) (M : MM) : Prop := ∃ (p1 : Int), av = [.ref (ad 0), .int (Ii p1)] ∧ ri_ p1 ∧ w_X12_takeRecord  Q p1 M
set_option maxHeartbeats 4000000 in
set_option maxRecDepth 100000 in
theorem k_X12_takeRecord_b33 {l : Launch} {D : va_G} {cy : Nat → ClassId} {ad : Nat → Nat} {Q : Int → MM → Prop} {J : Nat → List (Nat × Value) → List Value → MM → Prop} (hin : jIn ad ksR.length)   (hJ : jOk l D vwCl (tyR cy) cy ad ftR ksR (XtR ad) Om RX12 cX12_takeRecord 3 0 ({ frames := 0, cells := 0, slots := 0, locals := 0 } : Room) Q J)  : ∀ (x1 x2 : Int) (M : MM), ri_ x1 → ri_ x2 → w_X12_takeRecord_b33  Q  x1 x2 M → J 33 [(0, .ref (ad 0)), (1, .int (Ii x1)), (2, .int (Ii x2))] [] M := by
  have H9 : ∀ (n : Nat) (x1 x2 : Int) (M : MM), ri_ x1 → ri_ x2 → jit (fun _ _ _ => False) (wb_X12_takeRecord_b33  Q ) n x1 x2 M → J 33 [(0, .ref (ad 0)), (1, .int (Ii x1)), (2, .int (Ii x2))] [] M := by
    intro n
    induction n with
    | zero => intro x1 x2 M gx1 gx2 hF; exact False.elim hF
    | succ n ih =>
    intro x1 x2 M gx1 gx2 hF
    have hF : wb_X12_takeRecord_b33  Q  (jit (fun _ _ _ => False) (wb_X12_takeRecord_b33  Q ) n) x1 x2 M := hF
    unfold wb_X12_takeRecord_b33 at hF
    refine j_iload_n hJ dX12_takeRecord_33 rfl 2 rfl ?_
    refine j_aload_n hJ dX12_takeRecord_34 rfl 0 rfl ?_
    refine j_gi hJ kR_0 fR_15_141 rfl fl_X12_953 dX12_takeRecord_35 (fun v1 ev1 gv1 => ?_)
    have hF := hF v1 ev1 gv1
    refine j_icmp_ge hJ 63 gx2 gv1 dX12_takeRecord_38 (by decide) (fun z2 => ?_) (fun z2 => ?_)
    · have hF := hF.1 z2
      exact j_vret hJ rfl dX12_takeRecord_63 hF
    · have hF := hF.2 z2
      refine j_aload_n hJ dX12_takeRecord_41 rfl 0 rfl ?_
      refine j_gr (e := 98) hJ kR_0 fR_15_139 fl_X12_369 dX12_takeRecord_42 rfl ?_
      refine j_iload_n hJ dX12_takeRecord_45 rfl 2 rfl ?_
      refine j_aload_n hJ dX12_takeRecord_46 rfl 0 rfl ?_
      refine j_gr (e := 99) hJ kR_0 fR_15_140 fl_X12_372 dX12_takeRecord_47 rfl ?_
      refine j_iload_n hJ dX12_takeRecord_50 rfl 1 rfl ?_
      refine j_iconst hJ dX12_takeRecord_51 ?_
      refine j_iadd hJ dX12_takeRecord_52 ?_
      have g3 := hF.1; have hF := hF.2
      refine j_iload_n hJ dX12_takeRecord_53 rfl 2 rfl ?_
      refine j_iadd hJ dX12_takeRecord_54 ?_
      have g4 := hF.1; have hF := hF.2
      refine j_bald hJ g4 kR_99 hF.1 hF.2.1 dX12_takeRecord_55 (fun v5 ev5 gv5 => ?_)
      have hF := hF.2.2 v5 ev5 gv5
      refine j_bast hJ gx2 gv5 kR_98 hF.1 hF.2.1 dX12_takeRecord_56 (fun M6 eM6 => ?_)
      have hF := hF.2.2 M6 eM6
      refine j_iinc (lv' := [(2, .int (Ii (x2 + 1))), (0, .ref (ad 0)), (1, .int (Ii x1))]) (k := 2) hJ dX12_takeRecord_57 rfl (by decide) rfl ?_
      have g7 := hF.1; have hF := hF.2
      refine j_goto hJ 33 dX12_takeRecord_60 (by decide) ?_
      exact j_sub hJ [1, 2, 0] rfl (ih x1 (x2 + 1) _ gx1 g7 hF)
  intro x1 x2 M gx1 gx2 hF
  obtain ⟨n, hF⟩ := hF
  exact H9 n x1 x2 M gx1 gx2 hF
set_option maxHeartbeats 4000000 in
set_option maxRecDepth 100000 in
theorem c_X12_takeRecord {l : Launch} {D : va_G} {cy : Nat → ClassId} {ad : Nat → Nat} (hin : jIn ad ksR.length) : jCN l D vwCl (tyR cy) cy ad ftR ksR (XtR ad) yX12_takeRecord (.code yX12_takeRecord cX12_takeRecord 3 none :: Om) ({ frames := 0, cells := 0, slots := 0, locals := 0 } : Room) 0 (W_X12_takeRecord ad) := by
  refine jCN_of (y := yX12_takeRecord) (cc := cX12_takeRecord) (nL := 3) (rk := 0) (rm := ({ frames := 0, cells := 0, slots := 0, locals := 0 } : Room)) (own := RX12) (tyR_ok cy) hin (XtR_ok ad) Om_good (by decide) rfl ?_
  intro Q av M hF
  obtain ⟨p1, rfl, gp1, hF⟩ := hF
  refine ⟨Nat.le_of_ble_eq_true rfl, fun J hJ => ?_⟩
  show J 0 [(0, .ref (ad 0)), (1, .int (Ii p1))] [] M
  unfold w_X12_takeRecord at hF
  refine j_aload_n hJ dX12_takeRecord_0 rfl 0 rfl ?_
  refine j_aload_n hJ dX12_takeRecord_1 rfl 0 rfl ?_
  refine j_gr (e := 99) hJ kR_0 fR_15_140 fl_X12_372 dX12_takeRecord_2 rfl ?_
  refine j_iload_n hJ dX12_takeRecord_5 rfl 1 rfl ?_
  refine j_bald hJ gp1 kR_99 hF.1 hF.2.1 dX12_takeRecord_6 (fun v1 ev1 gv1 => ?_)
  have hF := hF.2.2 v1 ev1 gv1
  refine j_sipush hJ dX12_takeRecord_7 (by decide) ?_
  refine j_iand hJ dX12_takeRecord_10 ?_
  refine j_sipush hJ dX12_takeRecord_11 (by decide) ?_
  refine j_aload_n hJ dX12_takeRecord_14 rfl 0 rfl ?_
  refine j_gr (e := 99) hJ kR_0 fR_15_140 fl_X12_372 dX12_takeRecord_15 rfl ?_
  refine j_iload_n hJ dX12_takeRecord_18 rfl 1 rfl ?_
  refine j_iconst hJ dX12_takeRecord_19 ?_
  refine j_iadd hJ dX12_takeRecord_20 ?_
  have g2 := hF.1; have hF := hF.2
  refine j_bald hJ g2 kR_99 hF.1 hF.2.1 dX12_takeRecord_21 (fun v3 ev3 gv3 => ?_)
  have hF := hF.2.2 v3 ev3 gv3
  refine j_sipush hJ dX12_takeRecord_22 (by decide) ?_
  refine j_iand hJ dX12_takeRecord_25 ?_
  refine j_imul hJ dX12_takeRecord_26 ?_
  have g4 := hF.1; have hF := hF.2
  refine j_iadd hJ dX12_takeRecord_27 ?_
  have g5 := hF.1; have hF := hF.2
  refine j_pi hJ g5 kR_0 fR_15_141 rfl fp_X12_953 dX12_takeRecord_28 (fun M6 eM6 => ?_)
  have hF := hF M6 eM6
  refine j_iconst hJ dX12_takeRecord_31 ?_
  refine j_istore_n (lv' := [(2, .int (Ii 0)), (0, .ref (ad 0)), (1, .int (Ii p1))]) hJ dX12_takeRecord_32 rfl (by decide) rfl ?_
  exact j_sub hJ [1, 2, 0] rfl (k_X12_takeRecord_b33 hin  hJ  p1 0 _ gp1 rk_0 hF)
def W_X12_reopen (ad : Nat → Nat) (Q : Int → MM → Prop) (av : List Value) (M : MM) : Prop := ∃ (p1 : Int), av = [.ref (ad 0), .int (Ii p1)] ∧ ri_ p1 ∧ w_X12_reopen  Q p1 M
set_option maxHeartbeats 4000000 in
set_option maxRecDepth 100000 in
theorem k_X12_reopen_b147 {l : Launch} {D : va_G} {cy : Nat → ClassId} {ad : Nat → Nat} {Q : Int → MM → Prop} {J : Nat → List (Nat × Value) → List Value → MM → Prop} (hin : jIn ad ksR.length)   (hJ : jOk l D vwCl (tyR cy) cy ad ftR ksR (XtR ad) Om RX12 cX12_reopen 5 1 ({ frames := 6, cells := 0, slots := 0, locals := 153 } : Room) Q J) {K42 : Int → Int → MM → Prop} (hK42 : ∀ (x2 x3 : Int) (M : MM), ri_ x2 → ri_ x3 → K42 x2 x3 M → J 42 [(0, .ref (ad 0)), (2, .int (Ii x2)), (3, .int (Ii x3))] [] M) : ∀ (x2 x4 s0 : Int) (M : MM), ri_ x2 → ri_ x4 → ri_ s0 → w_X12_reopen_b147  Q K42 x2 x4 s0 M → J 147 [(0, .ref (ad 0)), (2, .int (Ii x2)), (4, .int (Ii x4))] [.int (Ii s0)] M := by
  intro x2 x4 s0 M gx2 gx4 gs0 hF
  unfold w_X12_reopen_b147 at hF
  refine j_istore_n (lv' := [(3, .int (Ii s0)), (0, .ref (ad 0)), (2, .int (Ii x2)), (4, .int (Ii x4))]) hJ dX12_reopen_147 rfl (by decide) rfl ?_
  refine j_iload_n hJ dX12_reopen_148 rfl 0 rfl ?_
  refine j_if_ne hJ 155 gs0 dX12_reopen_149 (by decide) (fun z1 => ?_) (fun z1 => ?_)
  · have hF := hF.1 z1
    refine j_aload_n hJ dX12_reopen_155 rfl 1 rfl ?_
    refine j_gr (e := 102) hJ kR_0 fR_15_147 fl_X12_381 dX12_reopen_156 rfl ?_
    refine j_aload_n hJ dX12_reopen_159 rfl 1 rfl ?_
    refine j_gi hJ kR_0 fR_15_149 rfl fl_X12_1030 dX12_reopen_160 (fun v2 ev2 gv2 => ?_)
    have hF := hF v2 ev2 gv2
    refine j_aload_n hJ dX12_reopen_163 rfl 1 rfl ?_
    refine j_gi hJ kR_0 fR_15_148 rfl fl_X12_1027 dX12_reopen_164 (fun v3 ev3 gv3 => ?_)
    have hF := hF v3 ev3 gv3
    refine j_iast hJ gv2 gv3 kR_102 hF.1 hF.2.1 dX12_reopen_167 (fun M4 eM4 => ?_)
    have hF := hF.2.2 M4 eM4
    refine j_aload_n hJ dX12_reopen_168 rfl 1 rfl ?_
    refine j_dup hJ dX12_reopen_169 rfl ?_
    refine j_gi hJ kR_0 fR_15_149 rfl fl_X12_1030 dX12_reopen_170 (fun v5 ev5 gv5 => ?_)
    have hF := hF v5 ev5 gv5
    refine j_iconst hJ dX12_reopen_173 ?_
    refine j_iadd hJ dX12_reopen_174 ?_
    have g6 := hF.1; have hF := hF.2
    refine j_pi hJ g6 kR_0 fR_15_149 rfl fp_X12_1030 dX12_reopen_175 (fun M7 eM7 => ?_)
    have hF := hF M7 eM7
    refine j_aload_n hJ dX12_reopen_178 rfl 1 rfl ?_
    refine j_dup hJ dX12_reopen_179 rfl ?_
    refine j_gi hJ kR_0 fR_15_148 rfl fl_X12_1027 dX12_reopen_180 (fun v8 ev8 gv8 => ?_)
    have hF := hF v8 ev8 gv8
    refine j_iconst hJ dX12_reopen_183 ?_
    refine j_iload hJ dX12_reopen_184 3 rfl ?_
    refine j_iadd hJ dX12_reopen_186 ?_
    have g9 := hF.1; have hF := hF.2
    refine j_iadd hJ dX12_reopen_187 ?_
    have g10 := hF.1; have hF := hF.2
    refine j_pi hJ g10 kR_0 fR_15_148 rfl fp_X12_1027 dX12_reopen_188 (fun M11 eM11 => ?_)
    have hF := hF M11 eM11
    refine j_goto hJ 42 dX12_reopen_191 (by decide) ?_
    exact j_sub hJ [1, 2, 0] rfl (hK42 x2 s0 _ gx2 gs0 hF)
  · have hF := hF.2 z1
    refine j_goto hJ 42 dX12_reopen_152 (by decide) ?_
    exact j_sub hJ [1, 2, 0] rfl (hK42 x2 s0 _ gx2 gs0 hF)
set_option maxHeartbeats 4000000 in
set_option maxRecDepth 100000 in
theorem k_X12_reopen_b115 {l : Launch} {D : va_G} {cy : Nat → ClassId} {ad : Nat → Nat} {Q : Int → MM → Prop} {J : Nat → List (Nat × Value) → List Value → MM → Prop} (hin : jIn ad ksR.length)   (hJ : jOk l D vwCl (tyR cy) cy ad ftR ksR (XtR ad) Om RX12 cX12_reopen 5 1 ({ frames := 6, cells := 0, slots := 0, locals := 153 } : Room) Q J) {K42 : Int → Int → MM → Prop} (hK42 : ∀ (x2 x3 : Int) (M : MM), ri_ x2 → ri_ x3 → K42 x2 x3 M → J 42 [(0, .ref (ad 0)), (2, .int (Ii x2)), (3, .int (Ii x3))] [] M) : ∀ (x2 x4 s0 : Int) (M : MM), ri_ x2 → ri_ x4 → ri_ s0 → w_X12_reopen_b115  Q K42 x2 x4 s0 M → J 115 [(0, .ref (ad 0)), (2, .int (Ii x2)), (4, .int (Ii x4))] [.int (Ii s0)] M := by
  intro x2 x4 s0 M gx2 gx4 gs0 hF
  unfold w_X12_reopen_b115 at hF
  refine j_istore_n (lv' := [(3, .int (Ii s0)), (0, .ref (ad 0)), (2, .int (Ii x2)), (4, .int (Ii x4))]) hJ dX12_reopen_115 rfl (by decide) rfl ?_
  refine j_iload_n hJ dX12_reopen_116 rfl 0 rfl ?_
  refine j_if_ne hJ 123 gs0 dX12_reopen_117 (by decide) (fun z1 => ?_) (fun z1 => ?_)
  · have hF := hF.1 z1
    refine j_aload_n hJ dX12_reopen_123 rfl 1 rfl ?_
    refine j_aload_n hJ dX12_reopen_124 rfl 1 rfl ?_
    refine j_gi hJ kR_0 fR_15_148 rfl fl_X12_1027 dX12_reopen_125 (fun v2 ev2 gv2 => ?_)
    have hF := hF v2 ev2 gv2
    refine j_callVv hJ (c_X12_takeRecord (l := l) (D := D) (cy := cy) (ad := ad) hin) rfl om_1602 ⟨rfl, rfl, Nat.le_of_ble_eq_true rfl, Nat.le_of_ble_eq_true rfl⟩ [.int (Ii v2)] mv_X12_1033 hd_X12_takeRecordv kR_0 rfl rfl rfl (Nat.le_of_ble_eq_true rfl) dX12_reopen_128 ⟨v2, rfl, gv2, hF⟩ (fun M4 qM4 => ?_)
    have hF := qM4
    refine j_aload_n hJ dX12_reopen_131 rfl 1 rfl ?_
    refine j_callVv hJ (c_X12_takePicture (l := l) (D := D) (cy := cy) (ad := ad) hin) rfl om_1594 ⟨rfl, rfl, Nat.le_of_ble_eq_true rfl, Nat.le_of_ble_eq_true rfl⟩ [] mv_X12_1021 hd_X12_takePicturev kR_0 rfl rfl rfl (Nat.le_of_ble_eq_true rfl) dX12_reopen_132 ⟨rfl, hF⟩ (fun M6 qM6 => ?_)
    have hF := qM6
    refine j_aload_n hJ dX12_reopen_135 rfl 1 rfl ?_
    refine j_gi hJ kR_0 fR_15_83 rfl fl_X12_625 dX12_reopen_136 (fun v7 ev7 gv7 => ?_)
    have hF := hF v7 ev7 gv7
    refine j_if_ne hJ 146 gv7 dX12_reopen_139 (by decide) (fun z8 => ?_) (fun z8 => ?_)
    · have hF := hF.1 z8
      refine j_iconst hJ dX12_reopen_146 ?_
      exact j_sub hJ [1, 2, 3] rfl (k_X12_reopen_b147 hin  hJ hK42 x2 x4 0 _ gx2 gx4 rk_0 hF)
    · have hF := hF.2 z8
      refine j_iconst hJ dX12_reopen_142 ?_
      refine j_goto hJ 147 dX12_reopen_143 (by decide) ?_
      exact j_sub hJ [1, 2, 3] rfl (k_X12_reopen_b147 hin  hJ hK42 x2 x4 1 _ gx2 gx4 rk_1 hF)
  · have hF := hF.2 z1
    refine j_goto hJ 42 dX12_reopen_120 (by decide) ?_
    exact j_sub hJ [1, 2, 0] rfl (hK42 x2 s0 _ gx2 gs0 hF)
set_option maxHeartbeats 4000000 in
set_option maxRecDepth 100000 in
theorem k_X12_reopen_b95 {l : Launch} {D : va_G} {cy : Nat → ClassId} {ad : Nat → Nat} {Q : Int → MM → Prop} {J : Nat → List (Nat × Value) → List Value → MM → Prop} (hin : jIn ad ksR.length)   (hJ : jOk l D vwCl (tyR cy) cy ad ftR ksR (XtR ad) Om RX12 cX12_reopen 5 1 ({ frames := 6, cells := 0, slots := 0, locals := 153 } : Room) Q J) {K42 : Int → Int → MM → Prop} (hK42 : ∀ (x2 x3 : Int) (M : MM), ri_ x2 → ri_ x3 → K42 x2 x3 M → J 42 [(0, .ref (ad 0)), (2, .int (Ii x2)), (3, .int (Ii x3))] [] M) : ∀ (x2 s0 : Int) (M : MM), ri_ x2 → ri_ s0 → w_X12_reopen_b95  Q K42 x2 s0 M → J 95 [(0, .ref (ad 0)), (2, .int (Ii x2))] [.int (Ii s0)] M := by
  intro x2 s0 M gx2 gs0 hF
  unfold w_X12_reopen_b95 at hF
  refine j_istore (lv' := [(4, .int (Ii s0)), (0, .ref (ad 0)), (2, .int (Ii x2))]) hJ dX12_reopen_95 (by decide) rfl ?_
  refine j_aload_n hJ dX12_reopen_97 rfl 1 rfl ?_
  refine j_gi hJ kR_0 fR_15_148 rfl fl_X12_1027 dX12_reopen_98 (fun v1 ev1 gv1 => ?_)
  have hF := hF v1 ev1 gv1
  refine j_iconst hJ dX12_reopen_101 ?_
  refine j_iadd hJ dX12_reopen_102 ?_
  have g2 := hF.1; have hF := hF.2
  refine j_iload hJ dX12_reopen_103 0 rfl ?_
  refine j_iadd hJ dX12_reopen_105 ?_
  have g3 := hF.1; have hF := hF.2
  refine j_iload_n hJ dX12_reopen_106 rfl 2 rfl ?_
  refine j_icmp_gt hJ 114 g3 gx2 dX12_reopen_107 (by decide) (fun z4 => ?_) (fun z4 => ?_)
  · have hF := hF.1 z4
    refine j_iconst hJ dX12_reopen_114 ?_
    exact j_sub hJ [1, 2, 0] rfl (k_X12_reopen_b115 hin  hJ hK42 x2 s0 0 _ gx2 gs0 rk_0 hF)
  · have hF := hF.2 z4
    refine j_iconst hJ dX12_reopen_110 ?_
    refine j_goto hJ 115 dX12_reopen_111 (by decide) ?_
    exact j_sub hJ [1, 2, 0] rfl (k_X12_reopen_b115 hin  hJ hK42 x2 s0 1 _ gx2 gs0 rk_1 hF)
set_option maxHeartbeats 4000000 in
set_option maxRecDepth 100000 in
theorem k_X12_reopen_b42 {l : Launch} {D : va_G} {cy : Nat → ClassId} {ad : Nat → Nat} {Q : Int → MM → Prop} {J : Nat → List (Nat × Value) → List Value → MM → Prop} (hin : jIn ad ksR.length)   (hJ : jOk l D vwCl (tyR cy) cy ad ftR ksR (XtR ad) Om RX12 cX12_reopen 5 1 ({ frames := 6, cells := 0, slots := 0, locals := 153 } : Room) Q J)  : ∀ (x2 x3 : Int) (M : MM), ri_ x2 → ri_ x3 → w_X12_reopen_b42  Q  x2 x3 M → J 42 [(0, .ref (ad 0)), (2, .int (Ii x2)), (3, .int (Ii x3))] [] M := by
  have H9 : ∀ (n : Nat) (x2 x3 : Int) (M : MM), ri_ x2 → ri_ x3 → jit (fun _ _ _ => False) (wb_X12_reopen_b42  Q ) n x2 x3 M → J 42 [(0, .ref (ad 0)), (2, .int (Ii x2)), (3, .int (Ii x3))] [] M := by
    intro n
    induction n with
    | zero => intro x2 x3 M gx2 gx3 hF; exact False.elim hF
    | succ n ih =>
    intro x2 x3 M gx2 gx3 hF
    have hF : wb_X12_reopen_b42  Q  (jit (fun _ _ _ => False) (wb_X12_reopen_b42  Q ) n) x2 x3 M := hF
    unfold wb_X12_reopen_b42 at hF
    refine j_iload_n hJ dX12_reopen_42 rfl 2 rfl ?_
    refine j_if_eq hJ 194 gx3 dX12_reopen_43 (by decide) (fun z1 => ?_) (fun z1 => ?_)
    · have hF := hF.1 z1
      refine j_aload_n hJ dX12_reopen_194 rfl 0 rfl ?_
      refine j_gi hJ kR_0 fR_15_149 rfl fl_X12_1030 dX12_reopen_195 (fun v2 ev2 gv2 => ?_)
      have hF := hF v2 ev2 gv2
      exact j_iret hJ rfl gv2 dX12_reopen_198 hF
    · have hF := hF.2 z1
      refine j_aload_n hJ dX12_reopen_46 rfl 0 rfl ?_
      refine j_gi hJ kR_0 fR_15_148 rfl fl_X12_1027 dX12_reopen_47 (fun v3 ev3 gv3 => ?_)
      have hF := hF v3 ev3 gv3
      refine j_iconst hJ dX12_reopen_50 ?_
      refine j_iadd hJ dX12_reopen_51 ?_
      have g4 := hF.1; have hF := hF.2
      refine j_iload_n hJ dX12_reopen_52 rfl 1 rfl ?_
      refine j_icmp_gt hJ 92 g4 gx2 dX12_reopen_53 (by decide) (fun z5 => ?_) (fun z5 => ?_)
      · have hF := hF.1 z5
        refine j_sipush hJ dX12_reopen_92 (by decide) ?_
        exact j_sub hJ [0, 1] rfl (k_X12_reopen_b95 hin  hJ ih x2 9999 _ gx2 rk_9999 hF)
      · have hF := hF.2 z5
        refine j_aload_n hJ dX12_reopen_56 rfl 0 rfl ?_
        refine j_gr (e := 99) hJ kR_0 fR_15_140 fl_X12_372 dX12_reopen_57 rfl ?_
        refine j_aload_n hJ dX12_reopen_60 rfl 0 rfl ?_
        refine j_gi hJ kR_0 fR_15_148 rfl fl_X12_1027 dX12_reopen_61 (fun v6 ev6 gv6 => ?_)
        have hF := hF v6 ev6 gv6
        refine j_bald hJ gv6 kR_99 hF.1 hF.2.1 dX12_reopen_64 (fun v7 ev7 gv7 => ?_)
        have hF := hF.2.2 v7 ev7 gv7
        refine j_sipush hJ dX12_reopen_65 (by decide) ?_
        refine j_iand hJ dX12_reopen_68 ?_
        refine j_sipush hJ dX12_reopen_69 (by decide) ?_
        refine j_aload_n hJ dX12_reopen_72 rfl 0 rfl ?_
        refine j_gr (e := 99) hJ kR_0 fR_15_140 fl_X12_372 dX12_reopen_73 rfl ?_
        refine j_aload_n hJ dX12_reopen_76 rfl 0 rfl ?_
        refine j_gi hJ kR_0 fR_15_148 rfl fl_X12_1027 dX12_reopen_77 (fun v8 ev8 gv8 => ?_)
        have hF := hF v8 ev8 gv8
        refine j_iconst hJ dX12_reopen_80 ?_
        refine j_iadd hJ dX12_reopen_81 ?_
        have g9 := hF.1; have hF := hF.2
        refine j_bald hJ g9 kR_99 hF.1 hF.2.1 dX12_reopen_82 (fun v10 ev10 gv10 => ?_)
        have hF := hF.2.2 v10 ev10 gv10
        refine j_sipush hJ dX12_reopen_83 (by decide) ?_
        refine j_iand hJ dX12_reopen_86 ?_
        refine j_imul hJ dX12_reopen_87 ?_
        have g11 := hF.1; have hF := hF.2
        refine j_iadd hJ dX12_reopen_88 ?_
        have g12 := hF.1; have hF := hF.2
        refine j_goto hJ 95 dX12_reopen_89 (by decide) ?_
        exact j_sub hJ [0, 1] rfl (k_X12_reopen_b95 hin  hJ ih x2 ((jand v7 255) + (256 * (jand v10 255))) _ gx2 g12 hF)
  intro x2 x3 M gx2 gx3 hF
  obtain ⟨n, hF⟩ := hF
  exact H9 n x2 x3 M gx2 gx3 hF
set_option maxHeartbeats 4000000 in
set_option maxRecDepth 100000 in
theorem k_X12_reopen_b29 {l : Launch} {D : va_G} {cy : Nat → ClassId} {ad : Nat → Nat} {Q : Int → MM → Prop} {J : Nat → List (Nat × Value) → List Value → MM → Prop} (hin : jIn ad ksR.length)   (hJ : jOk l D vwCl (tyR cy) cy ad ftR ksR (XtR ad) Om RX12 cX12_reopen 5 1 ({ frames := 6, cells := 0, slots := 0, locals := 153 } : Room) Q J)  : ∀ (s0 : Int) (M : MM), ri_ s0 → w_X12_reopen_b29  Q  s0 M → J 29 [(0, .ref (ad 0))] [.int (Ii s0)] M := by
  intro s0 M gs0 hF
  unfold w_X12_reopen_b29 at hF
  refine j_istore_n (lv' := [(2, .int (Ii s0)), (0, .ref (ad 0))]) hJ dX12_reopen_29 rfl (by decide) rfl ?_
  refine j_aload_n hJ dX12_reopen_30 rfl 1 rfl ?_
  refine j_iconst hJ dX12_reopen_31 ?_
  refine j_pi hJ rk_0 kR_0 fR_15_149 rfl fp_X12_1030 dX12_reopen_32 (fun M1 eM1 => ?_)
  have hF := hF M1 eM1
  refine j_aload_n hJ dX12_reopen_35 rfl 1 rfl ?_
  refine j_iconst hJ dX12_reopen_36 ?_
  refine j_pi hJ rk_0 kR_0 fR_15_148 rfl fp_X12_1027 dX12_reopen_37 (fun M2 eM2 => ?_)
  have hF := hF M2 eM2
  refine j_iconst hJ dX12_reopen_40 ?_
  refine j_istore_n (lv' := [(3, .int (Ii 1)), (2, .int (Ii s0)), (0, .ref (ad 0))]) hJ dX12_reopen_41 rfl (by decide) rfl ?_
  exact j_sub hJ [2, 1, 0] rfl (k_X12_reopen_b42 hin  hJ  s0 1 _ gs0 rk_1 hF)
set_option maxHeartbeats 4000000 in
set_option maxRecDepth 100000 in
theorem c_X12_reopen {l : Launch} {D : va_G} {cy : Nat → ClassId} {ad : Nat → Nat} (hin : jIn ad ksR.length) : jCN l D vwCl (tyR cy) cy ad ftR ksR (XtR ad) yX12_reopen (.code yX12_reopen cX12_reopen 5 (some .int) :: Om) ({ frames := 6, cells := 0, slots := 0, locals := 153 } : Room) 1 (W_X12_reopen ad) := by
  refine jCN_of (y := yX12_reopen) (cc := cX12_reopen) (nL := 5) (rk := 1) (rm := ({ frames := 6, cells := 0, slots := 0, locals := 153 } : Room)) (own := RX12) (tyR_ok cy) hin (XtR_ok ad) Om_good (by decide) rfl ?_
  intro Q av M hF
  obtain ⟨p1, rfl, gp1, hF⟩ := hF
  refine ⟨Nat.le_of_ble_eq_true rfl, fun J hJ => ?_⟩
  show J 0 [(0, .ref (ad 0)), (1, .int (Ii p1))] [] M
  unfold w_X12_reopen at hF
  refine j_aload_n hJ dX12_reopen_0 rfl 0 rfl ?_
  refine j_iconst hJ dX12_reopen_1 ?_
  refine j_pi hJ rk_0 kR_0 fR_15_0 rfl fp_X12_388 dX12_reopen_2 (fun M1 eM1 => ?_)
  have hF := hF M1 eM1
  refine j_iload_n hJ dX12_reopen_5 rfl 1 rfl ?_
  refine j_if_ge hJ 13 gp1 dX12_reopen_6 (by decide) (fun z2 => ?_) (fun z2 => ?_)
  · have hF := hF.1 z2
    refine j_iload_n hJ dX12_reopen_13 rfl 1 rfl ?_
    refine j_aload_n hJ dX12_reopen_14 rfl 0 rfl ?_
    refine j_gi hJ kR_0 fR_15_148 rfl fl_X12_1027 dX12_reopen_15 (fun v3 ev3 gv3 => ?_)
    have hF := hF v3 ev3 gv3
    refine j_icmp_ge hJ 25 gp1 gv3 dX12_reopen_18 (by decide) (fun z4 => ?_) (fun z4 => ?_)
    · have hF := hF.1 z4
      refine j_aload_n hJ dX12_reopen_25 rfl 0 rfl ?_
      refine j_gi hJ kR_0 fR_15_148 rfl fl_X12_1027 dX12_reopen_26 (fun v5 ev5 gv5 => ?_)
      have hF := hF v5 ev5 gv5
      exact j_sub hJ [0] rfl (k_X12_reopen_b29 hin  hJ  v5 _ gv5 hF)
    · have hF := hF.2 z4
      refine j_iload_n hJ dX12_reopen_21 rfl 1 rfl ?_
      refine j_goto hJ 29 dX12_reopen_22 (by decide) ?_
      exact j_sub hJ [0] rfl (k_X12_reopen_b29 hin  hJ  p1 _ gp1 hF)
  · have hF := hF.2 z2
    refine j_iconst hJ dX12_reopen_9 ?_
    refine j_goto hJ 29 dX12_reopen_10 (by decide) ?_
    exact j_sub hJ [0] rfl (k_X12_reopen_b29 hin  hJ  0 _ rk_0 hF)
def W_X12_recall (ad : Nat → Nat) (Q : Int → MM → Prop) (av : List Value) (M : MM) : Prop := ∃ (p1 : Int) (p2 : Int), av = [.ref (ad 0), .int (Ii p1), .int (Ii p2)] ∧ ri_ p1 ∧ ri_ p2 ∧ w_X12_recall  Q p1 p2 M
set_option maxHeartbeats 4000000 in
set_option maxRecDepth 100000 in
theorem k_X12_recall_b30 {l : Launch} {D : va_G} {cy : Nat → ClassId} {ad : Nat → Nat} {Q : Int → MM → Prop} {J : Nat → List (Nat × Value) → List Value → MM → Prop} (hin : jIn ad ksR.length)   (hJ : jOk l D vwCl (tyR cy) cy ad ftR ksR (XtR ad) Om RX12 cX12_recall 3 1 ({ frames := 8, cells := 0, slots := 0, locals := 191 } : Room) Q J)  : ∀ (x1 x2 s0 : Int) (M : MM), ri_ x1 → ri_ x2 → ri_ s0 → w_X12_recall_b30  Q  x1 x2 s0 M → J 30 [(0, .ref (ad 0)), (1, .int (Ii x1)), (2, .int (Ii x2))] [.int (Ii s0), .ref (ad 0)] M := by
  intro x1 x2 s0 M gx1 gx2 gs0 hF
  unfold w_X12_recall_b30 at hF
  refine j_pi hJ gs0 kR_0 fR_15_0 rfl fp_X12_388 dX12_recall_30 (fun M1 eM1 => ?_)
  have hF := hF M1 eM1
  refine j_aload_n hJ dX12_recall_33 rfl 0 rfl ?_
  refine j_gi hJ kR_0 fR_15_0 rfl fl_X12_388 dX12_recall_34 (fun v2 ev2 gv2 => ?_)
  have hF := hF v2 ev2 gv2
  refine j_if_le hJ 42 gv2 dX12_recall_37 (by decide) (fun z3 => ?_) (fun z3 => ?_)
  · have hF := hF.1 z3
    refine j_aload_n hJ dX12_recall_42 rfl 0 rfl ?_
    refine j_aload_n hJ dX12_recall_43 rfl 0 rfl ?_
    refine j_gr (e := 102) hJ kR_0 fR_15_147 fl_X12_381 dX12_recall_44 rfl ?_
    refine j_iload_n hJ dX12_recall_47 rfl 2 rfl ?_
    refine j_iald hJ gx2 kR_102 hF.1 hF.2.1 dX12_recall_48 (fun v4 ev4 gv4 => ?_)
    have hF := hF.2.2 v4 ev4 gv4
    refine j_callVv hJ (c_X12_takeRecord (l := l) (D := D) (cy := cy) (ad := ad) hin) rfl om_1602 ⟨rfl, rfl, Nat.le_of_ble_eq_true rfl, Nat.le_of_ble_eq_true rfl⟩ [.int (Ii v4)] mv_X12_1033 hd_X12_takeRecordv kR_0 rfl rfl rfl (Nat.le_of_ble_eq_true rfl) dX12_recall_49 ⟨v4, rfl, gv4, hF⟩ (fun M6 qM6 => ?_)
    have hF := qM6
    refine j_aload_n hJ dX12_recall_52 rfl 0 rfl ?_
    refine j_callVv hJ (c_X12_takePicture (l := l) (D := D) (cy := cy) (ad := ad) hin) rfl om_1594 ⟨rfl, rfl, Nat.le_of_ble_eq_true rfl, Nat.le_of_ble_eq_true rfl⟩ [] mv_X12_1021 hd_X12_takePicturev kR_0 rfl rfl rfl (Nat.le_of_ble_eq_true rfl) dX12_recall_53 ⟨rfl, hF⟩ (fun M8 qM8 => ?_)
    have hF := qM8
    refine j_aload_n hJ dX12_recall_56 rfl 0 rfl ?_
    refine j_iload_n hJ dX12_recall_57 rfl 1 rfl ?_
    refine j_callVv hJ (c_X12_copyNow (l := l) (D := D) (cy := cy) (ad := ad) hin) rfl om_1598 ⟨rfl, rfl, Nat.le_of_ble_eq_true rfl, Nat.le_of_ble_eq_true rfl⟩ [.int (Ii x1)] mv_X12_1024 hd_X12_copyNowv kR_0 rfl rfl rfl (Nat.le_of_ble_eq_true rfl) dX12_recall_58 ⟨x1, rfl, gx1, hF⟩ (fun M10 qM10 => ?_)
    have hF := qM10
    refine j_aload_n hJ dX12_recall_61 rfl 0 rfl ?_
    refine j_gr (e := 38) hJ kR_0 fR_15_48 fl_X12_183 dX12_recall_62 rfl ?_
    refine j_iload_n hJ dX12_recall_65 rfl 1 rfl ?_
    refine j_iald hJ gx1 kR_38 hF.1 hF.2.1 dX12_recall_66 (fun v11 ev11 gv11 => ?_)
    have hF := hF.2.2 v11 ev11 gv11
    exact j_iret hJ rfl gv11 dX12_recall_67 hF
  · have hF := hF.2 z3
    refine j_iconst hJ dX12_recall_40 ?_
    exact j_iret hJ rfl rk_0 dX12_recall_41 hF
set_option maxHeartbeats 4000000 in
set_option maxRecDepth 100000 in
theorem k_X12_recall_b21 {l : Launch} {D : va_G} {cy : Nat → ClassId} {ad : Nat → Nat} {Q : Int → MM → Prop} {J : Nat → List (Nat × Value) → List Value → MM → Prop} (hin : jIn ad ksR.length)   (hJ : jOk l D vwCl (tyR cy) cy ad ftR ksR (XtR ad) Om RX12 cX12_recall 3 1 ({ frames := 8, cells := 0, slots := 0, locals := 191 } : Room) Q J)  : ∀ (x1 x2 : Int) (M : MM), ri_ x1 → ri_ x2 → w_X12_recall_b21  Q  x1 x2 M → J 21 [(0, .ref (ad 0)), (1, .int (Ii x1)), (2, .int (Ii x2))] [.ref (ad 0)] M := by
  intro x1 x2 M gx1 gx2 hF
  unfold w_X12_recall_b21 at hF
  refine j_iconst hJ dX12_recall_21 ?_
  refine j_goto hJ 30 dX12_recall_22 (by decide) ?_
  exact j_sub hJ [0, 1, 2] rfl (k_X12_recall_b30 hin  hJ  x1 x2 2 _ gx1 gx2 rk_2 hF)
set_option maxHeartbeats 4000000 in
set_option maxRecDepth 100000 in
theorem c_X12_recall {l : Launch} {D : va_G} {cy : Nat → ClassId} {ad : Nat → Nat} (hin : jIn ad ksR.length) : jCN l D vwCl (tyR cy) cy ad ftR ksR (XtR ad) yX12_recall (.code yX12_recall cX12_recall 3 (some .int) :: Om) ({ frames := 8, cells := 0, slots := 0, locals := 191 } : Room) 1 (W_X12_recall ad) := by
  refine jCN_of (y := yX12_recall) (cc := cX12_recall) (nL := 3) (rk := 1) (rm := ({ frames := 8, cells := 0, slots := 0, locals := 191 } : Room)) (own := RX12) (tyR_ok cy) hin (XtR_ok ad) Om_good (by decide) rfl ?_
  intro Q av M hF
  obtain ⟨p1, p2, rfl, gp1, gp2, hF⟩ := hF
  refine ⟨Nat.le_of_ble_eq_true rfl, fun J hJ => ?_⟩
  show J 0 [(0, .ref (ad 0)), (1, .int (Ii p1)), (2, .int (Ii p2))] [] M
  unfold w_X12_recall at hF
  refine j_aload_n hJ dX12_recall_0 rfl 0 rfl ?_
  refine j_aload_n hJ dX12_recall_1 rfl 0 rfl ?_
  refine j_iload_n hJ dX12_recall_2 rfl 1 rfl ?_
  refine j_callVz hJ (c_X12_isPicture (l := l) (D := D) (cy := cy) (ad := ad) hin) rfl om_1296 ⟨rfl, rfl, Nat.le_of_ble_eq_true rfl, Nat.le_of_ble_eq_true rfl⟩ [.int (Ii p1)] mv_X12_542 hd_X12_isPicturev kR_0 rfl rfl rfl (Nat.le_of_ble_eq_true rfl) dX12_recall_3 ⟨p1, rfl, gp1, hF⟩ (fun r1 M2 gr1 qM2 => ?_)
  have hF := qM2 gr1
  refine j_if_eq hJ 29 (jz_ri gr1) dX12_recall_6 (by decide) (fun z3 => ?_) (fun z3 => ?_)
  · have hF := hF.1 z3
    refine j_iconst hJ dX12_recall_29 ?_
    exact j_sub hJ [0, 1, 2] rfl (k_X12_recall_b30 hin  hJ  p1 p2 1 _ gp1 gp2 rk_1 hF)
  · have hF := hF.2 z3
    refine j_iload_n hJ dX12_recall_9 rfl 2 rfl ?_
    refine j_if_lt hJ 21 gp2 dX12_recall_10 (by decide) (fun z4 => ?_) (fun z4 => ?_)
    · have hF := hF.1 z4
      exact j_sub hJ [0, 1, 2] rfl (k_X12_recall_b21 hin  hJ  p1 p2 _ gp1 gp2 hF)
    · have hF := hF.2 z4
      refine j_iload_n hJ dX12_recall_13 rfl 2 rfl ?_
      refine j_aload_n hJ dX12_recall_14 rfl 0 rfl ?_
      refine j_gi hJ kR_0 fR_15_149 rfl fl_X12_1030 dX12_recall_15 (fun v5 ev5 gv5 => ?_)
      have hF := hF v5 ev5 gv5
      refine j_icmp_lt hJ 25 gp2 gv5 dX12_recall_18 (by decide) (fun z6 => ?_) (fun z6 => ?_)
      · have hF := hF.1 z6
        refine j_iconst hJ dX12_recall_25 ?_
        refine j_goto hJ 30 dX12_recall_26 (by decide) ?_
        exact j_sub hJ [0, 1, 2] rfl (k_X12_recall_b30 hin  hJ  p1 p2 0 _ gp1 gp2 rk_0 hF)
      · have hF := hF.2 z6
        exact j_sub hJ [0, 1, 2] rfl (k_X12_recall_b21 hin  hJ  p1 p2 _ gp1 gp2 hF)
def W_X12_about (ad : Nat → Nat) (Q : Int → MM → Prop) (av : List Value) (M : MM) : Prop := ∃ (p1 : Int), av = [.ref (ad 0), .int (Ii p1)] ∧ ri_ p1 ∧ w_X12_about  Q p1 M
set_option maxHeartbeats 4000000 in
set_option maxRecDepth 100000 in
theorem k_X12_about_b32 {l : Launch} {D : va_G} {cy : Nat → ClassId} {ad : Nat → Nat} {Q : Int → MM → Prop} {J : Nat → List (Nat × Value) → List Value → MM → Prop} (hin : jIn ad ksR.length)   (hJ : jOk l D vwCl (tyR cy) cy ad ftR ksR (XtR ad) Om RX12 cX12_about 4 1 ({ frames := 0, cells := 0, slots := 0, locals := 0 } : Room) Q J) {K9 : Int → Int → Int → MM → Prop} (hK9 : ∀ (x1 x2 x3 : Int) (M : MM), ri_ x1 → ri_ x2 → ri_ x3 → K9 x1 x2 x3 M → J 9 [(0, .ref (ad 0)), (1, .int (Ii x1)), (2, .int (Ii x2)), (3, .int (Ii x3))] [] M) : ∀ (x1 x3 s0 s1 : Int) (M : MM), ri_ x1 → ri_ x3 → ri_ s0 → ri_ s1 → w_X12_about_b32  Q K9 x1 x3 s0 s1 M → J 32 [(0, .ref (ad 0)), (1, .int (Ii x1)), (3, .int (Ii x3))] [.int (Ii s0), .int (Ii s1)] M := by
  intro x1 x3 s0 s1 M gx1 gx3 gs0 gs1 hF
  unfold w_X12_about_b32 at hF
  refine j_iadd hJ dX12_about_32 ?_
  have g1 := hF.1; have hF := hF.2
  refine j_istore_n (lv' := [(2, .int (Ii (s1 + s0))), (0, .ref (ad 0)), (1, .int (Ii x1)), (3, .int (Ii x3))]) hJ dX12_about_33 rfl (by decide) rfl ?_
  refine j_iinc (lv' := [(3, .int (Ii (x3 + 1))), (2, .int (Ii (s1 + s0))), (0, .ref (ad 0)), (1, .int (Ii x1))]) (k := 3) hJ dX12_about_34 rfl (by decide) rfl ?_
  have g2 := hF.1; have hF := hF.2
  refine j_goto hJ 9 dX12_about_37 (by decide) ?_
  exact j_sub hJ [2, 3, 1, 0] rfl (hK9 x1 (s1 + s0) (x3 + 1) _ gx1 g1 g2 hF)
set_option maxHeartbeats 4000000 in
set_option maxRecDepth 100000 in
theorem k_X12_about_b9 {l : Launch} {D : va_G} {cy : Nat → ClassId} {ad : Nat → Nat} {Q : Int → MM → Prop} {J : Nat → List (Nat × Value) → List Value → MM → Prop} (hin : jIn ad ksR.length)   (hJ : jOk l D vwCl (tyR cy) cy ad ftR ksR (XtR ad) Om RX12 cX12_about 4 1 ({ frames := 0, cells := 0, slots := 0, locals := 0 } : Room) Q J)  : ∀ (x1 x2 x3 : Int) (M : MM), ri_ x1 → ri_ x2 → ri_ x3 → w_X12_about_b9  Q  x1 x2 x3 M → J 9 [(0, .ref (ad 0)), (1, .int (Ii x1)), (2, .int (Ii x2)), (3, .int (Ii x3))] [] M := by
  have H9 : ∀ (n : Nat) (x1 x2 x3 : Int) (M : MM), ri_ x1 → ri_ x2 → ri_ x3 → jit (fun _ _ _ _ => False) (wb_X12_about_b9  Q ) n x1 x2 x3 M → J 9 [(0, .ref (ad 0)), (1, .int (Ii x1)), (2, .int (Ii x2)), (3, .int (Ii x3))] [] M := by
    intro n
    induction n with
    | zero => intro x1 x2 x3 M gx1 gx2 gx3 hF; exact False.elim hF
    | succ n ih =>
    intro x1 x2 x3 M gx1 gx2 gx3 hF
    have hF : wb_X12_about_b9  Q  (jit (fun _ _ _ _ => False) (wb_X12_about_b9  Q ) n) x1 x2 x3 M := hF
    unfold wb_X12_about_b9 at hF
    refine j_iload_n hJ dX12_about_9 rfl 3 rfl ?_
    refine j_aload_n hJ dX12_about_10 rfl 0 rfl ?_
    refine j_gi hJ kR_0 fR_15_26 rfl fl_X12_435 dX12_about_11 (fun v1 ev1 gv1 => ?_)
    have hF := hF v1 ev1 gv1
    refine j_icmp_ge hJ 40 gx3 gv1 dX12_about_14 (by decide) (fun z2 => ?_) (fun z2 => ?_)
    · have hF := hF.1 z2
      refine j_iload_n hJ dX12_about_40 rfl 1 rfl ?_
      by_cases z3 : x1 = 0
      · refine j_tabIn hJ 67 108 gx1 dX12_about_41 (by omega) (by omega) (by rw [z3]; decide) (by decide) ?_
        have hF := hF.1 z3
        refine j_aload_n hJ dX12_about_108 rfl 0 rfl ?_
        refine j_gi hJ kR_0 fR_15_3 rfl fl_X12_391 dX12_about_109 (fun v4 ev4 gv4 => ?_)
        have hF := hF v4 ev4 gv4
        exact j_iret hJ rfl gv4 dX12_about_112 hF
      by_cases z5 : x1 = 1
      · refine j_tabIn hJ 72 113 gx1 dX12_about_41 (by omega) (by omega) (by rw [z5]; decide) (by decide) ?_
        have hF := hF.2.1 z5
        refine j_aload_n hJ dX12_about_113 rfl 0 rfl ?_
        refine j_gi hJ kR_0 fR_15_20 rfl fl_X12_413 dX12_about_114 (fun v6 ev6 gv6 => ?_)
        have hF := hF v6 ev6 gv6
        exact j_iret hJ rfl gv6 dX12_about_117 hF
      by_cases z7 : x1 = 2
      · refine j_tabIn hJ 77 118 gx1 dX12_about_41 (by omega) (by omega) (by rw [z7]; decide) (by decide) ?_
        have hF := hF.2.2.1 z7
        refine j_iload_n hJ dX12_about_118 rfl 2 rfl ?_
        exact j_iret hJ rfl gx2 dX12_about_119 hF
      by_cases z8 : x1 = 3
      · refine j_tabIn hJ 79 120 gx1 dX12_about_41 (by omega) (by omega) (by rw [z8]; decide) (by decide) ?_
        have hF := hF.2.2.2.1 z8
        refine j_aload_n hJ dX12_about_120 rfl 0 rfl ?_
        refine j_gi hJ kR_0 fR_15_28 rfl fl_X12_461 dX12_about_121 (fun v9 ev9 gv9 => ?_)
        have hF := hF v9 ev9 gv9
        exact j_iret hJ rfl gv9 dX12_about_124 hF
      by_cases z10 : x1 = 4
      · refine j_tabIn hJ 84 125 gx1 dX12_about_41 (by omega) (by omega) (by rw [z10]; decide) (by decide) ?_
        have hF := hF.2.2.2.2.1 z10
        refine j_aload_n hJ dX12_about_125 rfl 0 rfl ?_
        refine j_gi hJ kR_0 fR_15_31 rfl fl_X12_470 dX12_about_126 (fun v11 ev11 gv11 => ?_)
        have hF := hF v11 ev11 gv11
        exact j_iret hJ rfl gv11 dX12_about_129 hF
      by_cases z12 : x1 = 5
      · refine j_tabIn hJ 89 130 gx1 dX12_about_41 (by omega) (by omega) (by rw [z12]; decide) (by decide) ?_
        have hF := hF.2.2.2.2.2.1 z12
        refine j_aload_n hJ dX12_about_130 rfl 0 rfl ?_
        refine j_gi hJ kR_0 fR_15_29 rfl fl_X12_482 dX12_about_131 (fun v13 ev13 gv13 => ?_)
        have hF := hF v13 ev13 gv13
        exact j_iret hJ rfl gv13 dX12_about_134 hF
      by_cases z14 : x1 = 6
      · refine j_tabIn hJ 94 135 gx1 dX12_about_41 (by omega) (by omega) (by rw [z14]; decide) (by decide) ?_
        have hF := hF.2.2.2.2.2.2.1 z14
        refine j_aload_n hJ dX12_about_135 rfl 0 rfl ?_
        refine j_gi hJ kR_0 fR_15_36 rfl fl_X12_479 dX12_about_136 (fun v15 ev15 gv15 => ?_)
        have hF := hF v15 ev15 gv15
        exact j_iret hJ rfl gv15 dX12_about_139 hF
      by_cases z16 : x1 = 7
      · refine j_tabIn hJ 99 140 gx1 dX12_about_41 (by omega) (by omega) (by rw [z16]; decide) (by decide) ?_
        have hF := hF.2.2.2.2.2.2.2.1 z16
        refine j_aload_n hJ dX12_about_140 rfl 0 rfl ?_
        refine j_gi hJ kR_0 fR_15_149 rfl fl_X12_1030 dX12_about_141 (fun v17 ev17 gv17 => ?_)
        have hF := hF v17 ev17 gv17
        exact j_iret hJ rfl gv17 dX12_about_144 hF
      by_cases z18 : x1 = 8
      · refine j_tabIn hJ 104 145 gx1 dX12_about_41 (by omega) (by omega) (by rw [z18]; decide) (by decide) ?_
        have hF := hF.2.2.2.2.2.2.2.2.1 z18
        refine j_aload_n hJ dX12_about_145 rfl 0 rfl ?_
        refine j_gi hJ kR_0 fR_15_148 rfl fl_X12_1027 dX12_about_146 (fun v19 ev19 gv19 => ?_)
        have hF := hF v19 ev19 gv19
        exact j_iret hJ rfl gv19 dX12_about_149 hF
      by_cases z20 : x1 = 9
      · refine j_tabIn hJ 109 150 gx1 dX12_about_41 (by omega) (by omega) (by rw [z20]; decide) (by decide) ?_
        have hF := hF.2.2.2.2.2.2.2.2.2.1 z20
        refine j_aload_n hJ dX12_about_150 rfl 0 rfl ?_
        refine j_gi hJ kR_0 fR_15_44 rfl fl_X12_485 dX12_about_151 (fun v21 ev21 gv21 => ?_)
        have hF := hF v21 ev21 gv21
        exact j_iret hJ rfl gv21 dX12_about_154 hF
      by_cases z22 : x1 = 10
      · refine j_tabIn hJ 114 155 gx1 dX12_about_41 (by omega) (by omega) (by rw [z22]; decide) (by decide) ?_
        have hF := hF.2.2.2.2.2.2.2.2.2.2.1 z22
        refine j_aload_n hJ dX12_about_155 rfl 0 rfl ?_
        refine j_gi hJ kR_0 fR_15_113 rfl fl_X12_872 dX12_about_156 (fun v23 ev23 gv23 => ?_)
        have hF := hF v23 ev23 gv23
        exact j_iret hJ rfl gv23 dX12_about_159 hF
      by_cases z24 : x1 = 11
      · refine j_tabIn hJ 119 160 gx1 dX12_about_41 (by omega) (by omega) (by rw [z24]; decide) (by decide) ?_
        have hF := hF.2.2.2.2.2.2.2.2.2.2.2.1 z24
        refine j_aload_n hJ dX12_about_160 rfl 0 rfl ?_
        refine j_gi hJ kR_0 fR_15_110 rfl fl_X12_852 dX12_about_161 (fun v25 ev25 gv25 => ?_)
        have hF := hF v25 ev25 gv25
        exact j_iret hJ rfl gv25 dX12_about_164 hF
      by_cases z26 : x1 = 12
      · refine j_tabIn hJ 124 165 gx1 dX12_about_41 (by omega) (by omega) (by rw [z26]; decide) (by decide) ?_
        have hF := hF.2.2.2.2.2.2.2.2.2.2.2.2.1 z26
        refine j_aload_n hJ dX12_about_165 rfl 0 rfl ?_
        refine j_gi hJ kR_0 fR_15_133 rfl fl_X12_905 dX12_about_166 (fun v27 ev27 gv27 => ?_)
        have hF := hF v27 ev27 gv27
        exact j_iret hJ rfl gv27 dX12_about_169 hF
      have z28 : ¬ x1 = 0 ∧ ¬ x1 = 1 ∧ ¬ x1 = 2 ∧ ¬ x1 = 3 ∧ ¬ x1 = 4 ∧ ¬ x1 = 5 ∧ ¬ x1 = 6 ∧ ¬ x1 = 7 ∧ ¬ x1 = 8 ∧ ¬ x1 = 9 ∧ ¬ x1 = 10 ∧ ¬ x1 = 11 ∧ ¬ x1 = 12 := ⟨z3, z5, z7, z8, z10, z12, z14, z16, z18, z20, z22, z24, z26⟩
      have hF := hF.2.2.2.2.2.2.2.2.2.2.2.2.2 z28
      refine j_tabOut hJ 170 gx1 dX12_about_41 (by omega) (by decide) ?_
      refine j_iconst hJ dX12_about_170 ?_
      exact j_iret hJ rfl rk_m1 dX12_about_171 hF
    · have hF := hF.2 z2
      refine j_iload_n hJ dX12_about_17 rfl 2 rfl ?_
      refine j_aload_n hJ dX12_about_18 rfl 0 rfl ?_
      refine j_gr (e := 22) hJ kR_0 fR_15_24 fl_X12_134 dX12_about_19 rfl ?_
      refine j_iload_n hJ dX12_about_22 rfl 3 rfl ?_
      refine j_zald hJ gx3 kR_22 hF.1 hF.2.1 dX12_about_23 (fun v29 ev29 gv29 => ?_)
      have hF := hF.2.2 v29 ev29 gv29
      refine j_if_eq hJ 31 (jz_ri gv29) dX12_about_24 (by decide) (fun z30 => ?_) (fun z30 => ?_)
      · have hF := hF.1 z30
        refine j_iconst hJ dX12_about_31 ?_
        exact j_sub hJ [0, 1, 3] rfl (k_X12_about_b32 hin  hJ ih x1 x3 0 x2 _ gx1 gx3 rk_0 gx2 hF)
      · have hF := hF.2 z30
        refine j_iconst hJ dX12_about_27 ?_
        refine j_goto hJ 32 dX12_about_28 (by decide) ?_
        exact j_sub hJ [0, 1, 3] rfl (k_X12_about_b32 hin  hJ ih x1 x3 1 x2 _ gx1 gx3 rk_1 gx2 hF)
  intro x1 x2 x3 M gx1 gx2 gx3 hF
  obtain ⟨n, hF⟩ := hF
  exact H9 n x1 x2 x3 M gx1 gx2 gx3 hF
set_option maxHeartbeats 4000000 in
set_option maxRecDepth 100000 in
theorem c_X12_about {l : Launch} {D : va_G} {cy : Nat → ClassId} {ad : Nat → Nat} (hin : jIn ad ksR.length) : jCN l D vwCl (tyR cy) cy ad ftR ksR (XtR ad) yX12_about (.code yX12_about cX12_about 4 (some .int) :: Om) ({ frames := 0, cells := 0, slots := 0, locals := 0 } : Room) 1 (W_X12_about ad) := by
  refine jCN_of (y := yX12_about) (cc := cX12_about) (nL := 4) (rk := 1) (rm := ({ frames := 0, cells := 0, slots := 0, locals := 0 } : Room)) (own := RX12) (tyR_ok cy) hin (XtR_ok ad) Om_good (by decide) rfl ?_
  intro Q av M hF
  obtain ⟨p1, rfl, gp1, hF⟩ := hF
  refine ⟨Nat.le_of_ble_eq_true rfl, fun J hJ => ?_⟩
  show J 0 [(0, .ref (ad 0)), (1, .int (Ii p1))] [] M
  unfold w_X12_about at hF
  refine j_aload_n hJ dX12_about_0 rfl 0 rfl ?_
  refine j_iconst hJ dX12_about_1 ?_
  refine j_pi hJ rk_0 kR_0 fR_15_0 rfl fp_X12_388 dX12_about_2 (fun M1 eM1 => ?_)
  have hF := hF M1 eM1
  refine j_iconst hJ dX12_about_5 ?_
  refine j_istore_n (lv' := [(2, .int (Ii 0)), (0, .ref (ad 0)), (1, .int (Ii p1))]) hJ dX12_about_6 rfl (by decide) rfl ?_
  refine j_iconst hJ dX12_about_7 ?_
  refine j_istore_n (lv' := [(3, .int (Ii 0)), (2, .int (Ii 0)), (0, .ref (ad 0)), (1, .int (Ii p1))]) hJ dX12_about_8 rfl (by decide) rfl ?_
  exact j_sub hJ [2, 3, 1, 0] rfl (k_X12_about_b9 hin  hJ  p1 0 0 _ gp1 rk_0 rk_0 hF)
