def W_X10_sizeOf (ad : Nat → Nat) (Q : Int → MM → Prop) (av : List Value) (M : MM) : Prop := ∃ (p1 : Int) (p2 : Int), av = [.ref (ad 8), .int (Ii p1), .int (Ii p2)] ∧ ri_ p1 ∧ ri_ p2 ∧ w_X10_sizeOf  Q p1 p2 M
set_option maxHeartbeats 4000000 in
set_option maxRecDepth 100000 in
theorem k_X10_sizeOf_b31 {l : Launch} {D : va_G} {cy : Nat → ClassId} {ad : Nat → Nat} {Q : Int → MM → Prop} {J : Nat → List (Nat × Value) → List Value → MM → Prop} (hin : jIn ad ksC.length)   (hJ : jOk l D vwCl (tyC cy) cy ad ftC ksC (XtC ad) Om RX10 cX10_sizeOf 4 1 ({ frames := 1, cells := 0, slots := 0, locals := 22 } : Room) Q J)  : ∀ (s0 : Int) (M : MM), ri_ s0 → w_X10_sizeOf_b31  Q  s0 M → J 31 [] [.int (Ii s0)] M := by
  intro s0 M gs0 hF
  unfold w_X10_sizeOf_b31 at hF
  refine j_istore_n (lv' := [(3, .int (Ii s0))]) hJ dX10_sizeOf_31 rfl (by decide) rfl ?_
  refine j_iload_n hJ dX10_sizeOf_32 rfl 0 rfl ?_
  refine j_bipush hJ dX10_sizeOf_33 (by decide) ?_
  refine j_iadd hJ dX10_sizeOf_35 ?_
  have g1 := hF.1; have hF := hF.2
  refine j_bipush hJ dX10_sizeOf_36 (by decide) ?_
  refine j_idiv hJ g1 rk_8 (by decide) dX10_sizeOf_38 ?_
  have g2 := hF.1; have hF := hF.2
  refine j_bipush hJ dX10_sizeOf_39 (by decide) ?_
  refine j_imul hJ dX10_sizeOf_41 ?_
  have g3 := hF.1; have hF := hF.2
  exact j_iret hJ rfl g3 dX10_sizeOf_42 hF
set_option maxHeartbeats 4000000 in
set_option maxRecDepth 100000 in
theorem c_X10_sizeOf {l : Launch} {D : va_G} {cy : Nat → ClassId} {ad : Nat → Nat} (hin : jIn ad ksC.length) : jCN l D vwCl (tyC cy) cy ad ftC ksC (XtC ad) yX10_sizeOf (.code yX10_sizeOf cX10_sizeOf 4 (some .int) :: Om) ({ frames := 1, cells := 0, slots := 0, locals := 22 } : Room) 1 (W_X10_sizeOf ad) := by
  refine jCN_of (y := yX10_sizeOf) (cc := cX10_sizeOf) (nL := 4) (rk := 1) (rm := ({ frames := 1, cells := 0, slots := 0, locals := 22 } : Room)) (own := RX10) (tyC_ok cy) hin (XtC_ok ad) Om_good (by decide) rfl ?_
  intro Q av M hF
  obtain ⟨p1, p2, rfl, gp1, gp2, hF⟩ := hF
  refine ⟨Nat.le_of_ble_eq_true rfl, fun J hJ => ?_⟩
  show J 0 [(0, .ref (ad 8)), (1, .int (Ii p1)), (2, .int (Ii p2))] [] M
  unfold w_X10_sizeOf at hF
  refine j_iload_n hJ dX10_sizeOf_0 rfl 1 rfl ?_
  refine j_callSz hJ (c_X10_isArray (l := l) (D := D) (cy := cy) (ad := ad) hin) rfl om_39 ⟨rfl, rfl, Nat.le_of_ble_eq_true rfl, Nat.le_of_ble_eq_true rfl⟩ [.int (Ii p1)] mv_X10_86 hd_X10_isArray rfl (Nat.le_of_ble_eq_true rfl) dX10_sizeOf_1 ⟨p1, rfl, gp1, hF⟩ (fun r1 M2 gr1 qM2 => ?_)
  have hF := qM2 gr1
  refine j_if_eq hJ 25 (jz_ri gr1) dX10_sizeOf_4 (by decide) (fun z3 => ?_) (fun z3 => ?_)
  · have hF := hF.1 z3
    refine j_aload_n hJ dX10_sizeOf_25 rfl 0 rfl ?_
    refine j_gr (e := 17) hJ kC_8 fC_13_9 fl_X10_38 dX10_sizeOf_26 rfl ?_
    refine j_iload_n hJ dX10_sizeOf_29 rfl 1 rfl ?_
    refine j_iald hJ gp1 kC_17 hF.1 hF.2.1 dX10_sizeOf_30 (fun v4 ev4 gv4 => ?_)
    have hF := hF.2.2 v4 ev4 gv4
    exact j_sub hJ [] rfl (k_X10_sizeOf_b31 hin  hJ  v4 _ gv4 hF)
  · have hF := hF.2 z3
    refine j_bipush hJ dX10_sizeOf_7 (by decide) ?_
    refine j_iload_n hJ dX10_sizeOf_9 rfl 2 rfl ?_
    refine j_gs hJ XtC_w1 om_68 dX10_sizeOf_10 ?_
    refine j_aload_n hJ dX10_sizeOf_13 rfl 0 rfl ?_
    refine j_iload_n hJ dX10_sizeOf_14 rfl 1 rfl ?_
    refine j_iconst hJ dX10_sizeOf_15 ?_
    refine j_callVi hJ (c_X10_kindAt (l := l) (D := D) (cy := cy) (ad := ad) hin) rfl om_64 ⟨rfl, rfl, Nat.le_of_ble_eq_true rfl, Nat.le_of_ble_eq_true rfl⟩ [.int (Ii p1), .int (Ii 0)] mv_X10_89 hd_X10_kindAtv kC_8 rfl rfl rfl (Nat.le_of_ble_eq_true rfl) dX10_sizeOf_16 ⟨p1, 0, rfl, gp1, rk_0, hF⟩ (fun r5 M6 gr5 qM6 => ?_)
    have hF := qM6 gr5
    refine j_ti hJ XtC_w2 gr5 hF.1 hF.2.1 dX10_sizeOf_19 ?_
    have hF := hF.2.2
    refine j_imul hJ dX10_sizeOf_20 ?_
    have g7 := hF.1; have hF := hF.2
    refine j_iadd hJ dX10_sizeOf_21 ?_
    have g8 := hF.1; have hF := hF.2
    refine j_goto hJ 31 dX10_sizeOf_22 (by decide) ?_
    exact j_sub hJ [] rfl (k_X10_sizeOf_b31 hin  hJ  (16 + (p2 * (wdt (r5).toNat))) _ g8 hF)
def W_X10_slotNamed (ad : Nat → Nat) (Q : Int → MM → Prop) (av : List Value) (M : MM) : Prop := ∃ (p1 : Int) (p2 : Int), av = [.ref (ad 8), .int (Ii p1), .long (Ll p2)] ∧ ri_ p1 ∧ rl_ p2 ∧ w_X10_slotNamed  Q p1 p2 M
set_option maxHeartbeats 4000000 in
set_option maxRecDepth 100000 in
theorem k_X10_slotNamed_b10 {l : Launch} {D : va_G} {cy : Nat → ClassId} {ad : Nat → Nat} {Q : Int → MM → Prop} {J : Nat → List (Nat × Value) → List Value → MM → Prop} (hin : jIn ad ksC.length)   (hJ : jOk l D vwCl (tyC cy) cy ad ftC ksC (XtC ad) Om RX10 cX10_slotNamed 5 1 ({ frames := 0, cells := 0, slots := 0, locals := 0 } : Room) Q J)  : ∀ (x1 x2 x4 : Int) (M : MM), ri_ x1 → rl_ x2 → ri_ x4 → w_X10_slotNamed_b10  Q  x1 x2 x4 M → J 10 [(0, .ref (ad 8)), (1, .int (Ii x1)), (2, .long (Ll x2)), (4, .int (Ii x4))] [] M := by
  have H9 : ∀ (n : Nat) (x1 x2 x4 : Int) (M : MM), ri_ x1 → rl_ x2 → ri_ x4 → jit (fun _ _ _ _ => False) (wb_X10_slotNamed_b10  Q ) n x1 x2 x4 M → J 10 [(0, .ref (ad 8)), (1, .int (Ii x1)), (2, .long (Ll x2)), (4, .int (Ii x4))] [] M := by
    intro n
    induction n with
    | zero => intro x1 x2 x4 M gx1 gx2 gx4 hF; exact False.elim hF
    | succ n ih =>
    intro x1 x2 x4 M gx1 gx2 gx4 hF
    have hF : wb_X10_slotNamed_b10  Q  (jit (fun _ _ _ _ => False) (wb_X10_slotNamed_b10  Q ) n) x1 x2 x4 M := hF
    unfold wb_X10_slotNamed_b10 at hF
    refine j_iload hJ dX10_slotNamed_10 3 rfl ?_
    refine j_if_lt hJ 41 gx4 dX10_slotNamed_12 (by decide) (fun z1 => ?_) (fun z1 => ?_)
    · have hF := hF.1 z1
      refine j_iconst hJ dX10_slotNamed_41 ?_
      exact j_iret hJ rfl rk_m1 dX10_slotNamed_42 hF
    · have hF := hF.2 z1
      refine j_aload_n hJ dX10_slotNamed_15 rfl 0 rfl ?_
      refine j_gr (e := 23) hJ kC_8 fC_13_15 fl_X10_56 dX10_slotNamed_16 rfl ?_
      refine j_iload_n hJ dX10_slotNamed_19 rfl 1 rfl ?_
      refine j_bipush hJ dX10_slotNamed_20 (by decide) ?_
      refine j_imul hJ dX10_slotNamed_22 ?_
      have g2 := hF.1; have hF := hF.2
      refine j_iload hJ dX10_slotNamed_23 3 rfl ?_
      refine j_iadd hJ dX10_slotNamed_25 ?_
      have g3 := hF.1; have hF := hF.2
      refine j_lald hJ g3 kC_23 hF.1 hF.2.1 dX10_slotNamed_26 (fun v4 ev4 gv4 => ?_)
      have hF := hF.2.2 v4 ev4 gv4
      refine j_lload_n hJ dX10_slotNamed_27 rfl 2 rfl ?_
      refine j_lcmp_ne hJ 35 gv4 gx2 dX10_slotNamed_28 dX10_slotNamed_29 (by decide) (fun z5 => ?_) (fun z5 => ?_)
      · have hF := hF.1 z5
        refine j_iinc (lv' := [(4, .int (Ii (x4 + (-1)))), (0, .ref (ad 8)), (1, .int (Ii x1)), (2, .long (Ll x2))]) (k := 3) hJ dX10_slotNamed_35 rfl (by decide) rfl ?_
        have g6 := hF.1; have hF := hF.2
        refine j_goto hJ 10 dX10_slotNamed_38 (by decide) ?_
        exact j_sub hJ [1, 2, 3, 0] rfl (ih x1 x2 (x4 + (-1)) _ gx1 gx2 g6 hF)
      · have hF := hF.2 z5
        refine j_iload hJ dX10_slotNamed_32 3 rfl ?_
        exact j_iret hJ rfl gx4 dX10_slotNamed_34 hF
  intro x1 x2 x4 M gx1 gx2 gx4 hF
  obtain ⟨n, hF⟩ := hF
  exact H9 n x1 x2 x4 M gx1 gx2 gx4 hF
set_option maxHeartbeats 4000000 in
set_option maxRecDepth 100000 in
theorem c_X10_slotNamed {l : Launch} {D : va_G} {cy : Nat → ClassId} {ad : Nat → Nat} (hin : jIn ad ksC.length) : jCN l D vwCl (tyC cy) cy ad ftC ksC (XtC ad) yX10_slotNamed (.code yX10_slotNamed cX10_slotNamed 5 (some .int) :: Om) ({ frames := 0, cells := 0, slots := 0, locals := 0 } : Room) 1 (W_X10_slotNamed ad) := by
  refine jCN_of (y := yX10_slotNamed) (cc := cX10_slotNamed) (nL := 5) (rk := 1) (rm := ({ frames := 0, cells := 0, slots := 0, locals := 0 } : Room)) (own := RX10) (tyC_ok cy) hin (XtC_ok ad) Om_good (by decide) rfl ?_
  intro Q av M hF
  obtain ⟨p1, p2, rfl, gp1, gp2, hF⟩ := hF
  refine ⟨Nat.le_of_ble_eq_true rfl, fun J hJ => ?_⟩
  show J 0 [(0, .ref (ad 8)), (1, .int (Ii p1)), (2, .long (Ll p2))] [] M
  unfold w_X10_slotNamed at hF
  refine j_aload_n hJ dX10_slotNamed_0 rfl 0 rfl ?_
  refine j_gr (e := 16) hJ kC_8 fC_13_8 fl_X10_35 dX10_slotNamed_1 rfl ?_
  refine j_iload_n hJ dX10_slotNamed_4 rfl 1 rfl ?_
  refine j_iald hJ gp1 kC_16 hF.1 hF.2.1 dX10_slotNamed_5 (fun v1 ev1 gv1 => ?_)
  have hF := hF.2.2 v1 ev1 gv1
  refine j_iconst hJ dX10_slotNamed_6 ?_
  refine j_isub hJ dX10_slotNamed_7 ?_
  have g2 := hF.1; have hF := hF.2
  refine j_istore (lv' := [(4, .int (Ii (v1 - 1))), (0, .ref (ad 8)), (1, .int (Ii p1)), (2, .long (Ll p2))]) hJ dX10_slotNamed_8 (by decide) rfl ?_
  exact j_sub hJ [1, 2, 3, 0] rfl (k_X10_slotNamed_b10 hin  hJ  p1 p2 (v1 - 1) _ gp1 gp2 g2 hF)
def W_X4_lookAt (ad : Nat → Nat) (Q : Int → MM → Prop) (av : List Value) (M : MM) : Prop := ∃ (p1 : Int) (p2 : Int) (p3 : Int), av = [.ref (ad 219), .int (Ii p1), .int (Ii p2), .long (Ll p3)] ∧ ri_ p1 ∧ ri_ p2 ∧ rl_ p3 ∧ w_X4_lookAt  Q p1 p2 p3 M
set_option maxHeartbeats 4000000 in
set_option maxRecDepth 100000 in
theorem k_X4_lookAt_b160 {l : Launch} {D : va_G} {cy : Nat → ClassId} {ad : Nat → Nat} {Q : Int → MM → Prop} {J : Nat → List (Nat × Value) → List Value → MM → Prop} (hin : jIn ad ksC.length)   (hJ : jOk l D vwCl (tyC cy) cy ad ftC ksC (XtC ad) Om RX4 cX4_lookAt 7 0 ({ frames := 2, cells := 0, slots := 0, locals := 46 } : Room) Q J)  : ∀ (s0 s1 : Int) (M : MM), rl_ s0 → ri_ s1 → w_X4_lookAt_b160  Q  s0 s1 M → J 160 [] [.long (Ll s0), .int (Ii s1), .ref (ad 219)] M := by
  intro s0 s1 M gs0 gs1 hF
  unfold w_X4_lookAt_b160 at hF
  refine j_callVv hJ (c_X4_push (l := l) (D := D) (cy := cy) (ad := ad) hin) rfl om_291 ⟨rfl, rfl, Nat.le_of_ble_eq_true rfl, Nat.le_of_ble_eq_true rfl⟩ [.int (Ii s1), .long (Ll s0)] mv_X4_139 hd_X4_pushv kC_219 rfl rfl rfl (Nat.le_of_ble_eq_true rfl) dX4_lookAt_160 ⟨s1, s0, rfl, gs1, gs0, hF⟩ (fun M2 qM2 => ?_)
  have hF := qM2
  refine j_goto hJ 207 dX4_lookAt_163 (by decide) ?_
  exact j_vret hJ rfl dX4_lookAt_207 hF
set_option maxHeartbeats 4000000 in
set_option maxRecDepth 100000 in
theorem k_X4_lookAt_b141 {l : Launch} {D : va_G} {cy : Nat → ClassId} {ad : Nat → Nat} {Q : Int → MM → Prop} {J : Nat → List (Nat × Value) → List Value → MM → Prop} (hin : jIn ad ksC.length)   (hJ : jOk l D vwCl (tyC cy) cy ad ftC ksC (XtC ad) Om RX4 cX4_lookAt 7 0 ({ frames := 2, cells := 0, slots := 0, locals := 46 } : Room) Q J)  : ∀ (x2 x6 s0 : Int) (M : MM), ri_ x2 → ri_ x6 → ri_ s0 → w_X4_lookAt_b141  Q  x2 x6 s0 M → J 141 [(0, .ref (ad 219)), (2, .int (Ii x2)), (6, .int (Ii x6))] [.int (Ii s0), .ref (ad 219)] M := by
  intro x2 x6 s0 M gx2 gx6 gs0 hF
  unfold w_X4_lookAt_b141 at hF
  refine j_iload hJ dX4_lookAt_141 2 rfl ?_
  refine j_if_eq hJ 159 gx6 dX4_lookAt_143 (by decide) (fun z1 => ?_) (fun z1 => ?_)
  · have hF := hF.1 z1
    refine j_lconst (x := 0) hJ dX4_lookAt_159 rfl ?_
    exact j_sub hJ [] rfl (k_X4_lookAt_b160 hin  hJ  0 s0 _ lkm_0 gs0 hF)
  · have hF := hF.2 z1
    refine j_aload_n hJ dX4_lookAt_146 rfl 0 rfl ?_
    obtain ⟨c2, ec2, hc2, hF⟩ := hF
    refine j_gq hJ kC_219 fC_7_1 rfl fl_X4_79 dX4_lookAt_147 ec2 ?_
    refine j_gr (e := (c2 + 3)) hJ (kP_0 hc2) fC_8_3 fl_X4_168 dX4_lookAt_150 rfl ?_
    refine j_iload_n hJ dX4_lookAt_153 rfl 1 rfl ?_
    refine j_iald hJ gx2 (kP_3 hc2) hF.1 hF.2.1 dX4_lookAt_154 (fun v3 ev3 gv3 => ?_)
    have hF := hF.2.2 v3 ev3 gv3
    refine j_i2l hJ gv3 dX4_lookAt_155 ?_
    refine j_goto hJ 160 dX4_lookAt_156 (by decide) ?_
    exact j_sub hJ [] rfl (k_X4_lookAt_b160 hin  hJ  v3 s0 _ (rl_ri gv3) gs0 hF)
set_option maxHeartbeats 4000000 in
set_option maxRecDepth 100000 in
theorem k_X4_lookAt_b204 {l : Launch} {D : va_G} {cy : Nat → ClassId} {ad : Nat → Nat} {Q : Int → MM → Prop} {J : Nat → List (Nat × Value) → List Value → MM → Prop} (hin : jIn ad ksC.length)   (hJ : jOk l D vwCl (tyC cy) cy ad ftC ksC (XtC ad) Om RX4 cX4_lookAt 7 0 ({ frames := 2, cells := 0, slots := 0, locals := 46 } : Room) Q J)  : ∀ (s0 s1 : Int) (M : MM), ri_ s0 → ri_ s1 → w_X4_lookAt_b204  Q  s0 s1 M → J 204 [] [.int (Ii s0), .int (Ii s1), .ref (ad 219)] M := by
  intro s0 s1 M gs0 gs1 hF
  unfold w_X4_lookAt_b204 at hF
  refine j_callVv hJ (c_X4_pushSlot (l := l) (D := D) (cy := cy) (ad := ad) hin) rfl om_374 ⟨rfl, rfl, Nat.le_of_ble_eq_true rfl, Nat.le_of_ble_eq_true rfl⟩ [.int (Ii s1), .int (Ii s0)] mv_X4_188 hd_X4_pushSlotv kC_219 rfl rfl rfl (Nat.le_of_ble_eq_true rfl) dX4_lookAt_204 ⟨s1, s0, rfl, gs1, gs0, hF⟩ (fun M2 qM2 => ?_)
  have hF := qM2
  exact j_vret hJ rfl dX4_lookAt_207 hF
set_option maxHeartbeats 4000000 in
set_option maxRecDepth 100000 in
theorem c_X4_lookAt {l : Launch} {D : va_G} {cy : Nat → ClassId} {ad : Nat → Nat} (hin : jIn ad ksC.length) : jCN l D vwCl (tyC cy) cy ad ftC ksC (XtC ad) yX4_lookAt (.code yX4_lookAt cX4_lookAt 7 none :: Om) ({ frames := 2, cells := 0, slots := 0, locals := 46 } : Room) 0 (W_X4_lookAt ad) := by
  refine jCN_of (y := yX4_lookAt) (cc := cX4_lookAt) (nL := 7) (rk := 0) (rm := ({ frames := 2, cells := 0, slots := 0, locals := 46 } : Room)) (own := RX4) (tyC_ok cy) hin (XtC_ok ad) Om_good (by decide) rfl ?_
  intro Q av M hF
  obtain ⟨p1, p2, p3, rfl, gp1, gp2, gp3, hF⟩ := hF
  refine ⟨Nat.le_of_ble_eq_true rfl, fun J hJ => ?_⟩
  show J 0 [(0, .ref (ad 219)), (1, .int (Ii p1)), (2, .int (Ii p2)), (3, .long (Ll p3))] [] M
  unfold w_X4_lookAt at hF
  refine j_aload_n hJ dX4_lookAt_0 rfl 0 rfl ?_
  obtain ⟨c1, ec1, hc1, hF⟩ := hF
  refine j_gq hJ kC_219 fC_7_1 rfl fl_X4_79 dX4_lookAt_1 ec1 ?_
  refine j_gr (e := (c1 + 2)) hJ (kP_0 hc1) fC_8_2 fl_X4_160 dX4_lookAt_4 rfl ?_
  refine j_iload_n hJ dX4_lookAt_7 rfl 2 rfl ?_
  refine j_iald hJ gp2 (kP_2 hc1) hF.1 hF.2.1 dX4_lookAt_8 (fun v2 ev2 gv2 => ?_)
  have hF := hF.2.2 v2 ev2 gv2
  refine j_istore (lv' := [(5, .int (Ii v2)), (0, .ref (ad 219)), (1, .int (Ii p1)), (2, .int (Ii p2)), (3, .long (Ll p3))]) hJ dX4_lookAt_9 (by decide) rfl ?_
  refine j_iload hJ dX4_lookAt_11 0 rfl ?_
  refine j_callSz hJ (c_X10_isArray (l := l) (D := D) (cy := cy) (ad := ad) hin) rfl om_39 ⟨rfl, rfl, Nat.le_of_ble_eq_true rfl, Nat.le_of_ble_eq_true rfl⟩ [.int (Ii v2)] mv_X4_163 hd_X10_isArray rfl (Nat.le_of_ble_eq_true rfl) dX4_lookAt_13 ⟨v2, rfl, gv2, hF⟩ (fun r3 M4 gr3 qM4 => ?_)
  have hF := qM4 gr3
  refine j_istore (lv' := [(6, .int (Ii r3)), (5, .int (Ii v2)), (0, .ref (ad 219)), (1, .int (Ii p1)), (2, .int (Ii p2)), (3, .long (Ll p3))]) hJ dX4_lookAt_16 (by decide) rfl ?_
  refine j_iload_n hJ dX4_lookAt_18 rfl 3 rfl ?_
  by_cases z5 : p1 = 7
  · refine j_tabIn hJ 45 64 gp1 dX4_lookAt_19 (by omega) (by omega) (by rw [z5]; decide) (by decide) ?_
    have hF := hF.1 z5
    refine j_aload_n hJ dX4_lookAt_64 rfl 2 rfl ?_
    refine j_iconst hJ dX4_lookAt_65 ?_
    refine j_aload_n hJ dX4_lookAt_66 rfl 2 rfl ?_
    refine j_ga hJ kC_219 fC_7_0 fl_X4_11 dX4_lookAt_67 ?_
    refine j_iload hJ dX4_lookAt_70 1 rfl ?_
    refine j_aload_n hJ dX4_lookAt_72 rfl 2 rfl ?_
    obtain ⟨c6, ec6, hc6, hF⟩ := hF
    refine j_gq hJ kC_219 fC_7_1 rfl fl_X4_79 dX4_lookAt_73 ec6 ?_
    refine j_gr (e := (c6 + 3)) hJ (kP_0 hc6) fC_8_3 fl_X4_168 dX4_lookAt_76 rfl ?_
    refine j_iload_n hJ dX4_lookAt_79 rfl 4 rfl ?_
    refine j_iald hJ gp2 (kP_3 hc6) hF.1 hF.2.1 dX4_lookAt_80 (fun v7 ev7 gv7 => ?_)
    have hF := hF.2.2 v7 ev7 gv7
    refine j_callVi hJ (c_X10_sizeOf (l := l) (D := D) (cy := cy) (ad := ad) hin) rfl om_387 ⟨rfl, rfl, Nat.le_of_ble_eq_true rfl, Nat.le_of_ble_eq_true rfl⟩ [.int (Ii v2), .int (Ii v7)] mv_X4_171 hd_X10_sizeOfv kC_8 rfl rfl rfl (Nat.le_of_ble_eq_true rfl) dX4_lookAt_81 ⟨v2, v7, rfl, gv2, gv7, hF⟩ (fun r8 M9 gr8 qM9 => ?_)
    have hF := qM9 gr8
    refine j_i2l hJ gr8 dX4_lookAt_84 ?_
    refine j_callVv hJ (c_X4_push (l := l) (D := D) (cy := cy) (ad := ad) hin) rfl om_291 ⟨rfl, rfl, Nat.le_of_ble_eq_true rfl, Nat.le_of_ble_eq_true rfl⟩ [.int (Ii 0), .long (Ll r8)] mv_X4_139 hd_X4_pushv kC_219 rfl rfl rfl (Nat.le_of_ble_eq_true rfl) dX4_lookAt_85 ⟨0, r8, rfl, rk_0, (rl_ri gr8), hF⟩ (fun M11 qM11 => ?_)
    have hF := qM11
    refine j_goto hJ 207 dX4_lookAt_88 (by decide) ?_
    exact j_vret hJ rfl dX4_lookAt_207 hF
  by_cases z12 : p1 = 8
  · refine j_tabIn hJ 72 91 gp1 dX4_lookAt_19 (by omega) (by omega) (by rw [z12]; decide) (by decide) ?_
    have hF := hF.2.1 z12
    refine j_aload_n hJ dX4_lookAt_91 rfl 2 rfl ?_
    refine j_iconst hJ dX4_lookAt_92 ?_
    refine j_aload_n hJ dX4_lookAt_93 rfl 2 rfl ?_
    obtain ⟨c13, ec13, hc13, hF⟩ := hF
    refine j_gq hJ kC_219 fC_7_1 rfl fl_X4_79 dX4_lookAt_94 ec13 ?_
    refine j_gr (e := (c13 + 18)) hJ (kP_0 hc13) fC_8_20 fl_X4_90 dX4_lookAt_97 rfl ?_
    refine j_gr (e := (c13 + 23)) hJ (kP_18 hc13) fC_11_6 fl_X4_174 dX4_lookAt_100 rfl ?_
    refine j_iload_n hJ dX4_lookAt_103 rfl 4 rfl ?_
    refine j_iald hJ gp2 (kP_23 hc13) hF.1 hF.2.1 dX4_lookAt_104 (fun v14 ev14 gv14 => ?_)
    have hF := hF.2.2 v14 ev14 gv14
    refine j_i2l hJ gv14 dX4_lookAt_105 ?_
    refine j_callVv hJ (c_X4_push (l := l) (D := D) (cy := cy) (ad := ad) hin) rfl om_291 ⟨rfl, rfl, Nat.le_of_ble_eq_true rfl, Nat.le_of_ble_eq_true rfl⟩ [.int (Ii 0), .long (Ll v14)] mv_X4_139 hd_X4_pushv kC_219 rfl rfl rfl (Nat.le_of_ble_eq_true rfl) dX4_lookAt_106 ⟨0, v14, rfl, rk_0, (rl_ri gv14), hF⟩ (fun M16 qM16 => ?_)
    have hF := qM16
    refine j_goto hJ 207 dX4_lookAt_109 (by decide) ?_
    exact j_vret hJ rfl dX4_lookAt_207 hF
  by_cases z17 : p1 = 9
  · refine j_tabIn hJ 93 112 gp1 dX4_lookAt_19 (by omega) (by omega) (by rw [z17]; decide) (by decide) ?_
    have hF := hF.2.2.1 z17
    refine j_aload_n hJ dX4_lookAt_112 rfl 2 rfl ?_
    refine j_iconst hJ dX4_lookAt_113 ?_
    refine j_aload_n hJ dX4_lookAt_114 rfl 2 rfl ?_
    obtain ⟨c18, ec18, hc18, hF⟩ := hF
    refine j_gq hJ kC_219 fC_7_1 rfl fl_X4_79 dX4_lookAt_115 ec18 ?_
    refine j_gr (e := (c18 + 5)) hJ (kP_0 hc18) fC_8_5 fl_X4_177 dX4_lookAt_118 rfl ?_
    refine j_iload_n hJ dX4_lookAt_121 rfl 4 rfl ?_
    refine j_iald hJ gp2 (kP_5 hc18) hF.1 hF.2.1 dX4_lookAt_122 (fun v19 ev19 gv19 => ?_)
    have hF := hF.2.2 v19 ev19 gv19
    refine j_i2l hJ gv19 dX4_lookAt_123 ?_
    refine j_callVv hJ (c_X4_push (l := l) (D := D) (cy := cy) (ad := ad) hin) rfl om_291 ⟨rfl, rfl, Nat.le_of_ble_eq_true rfl, Nat.le_of_ble_eq_true rfl⟩ [.int (Ii 0), .long (Ll v19)] mv_X4_139 hd_X4_pushv kC_219 rfl rfl rfl (Nat.le_of_ble_eq_true rfl) dX4_lookAt_124 ⟨0, v19, rfl, rk_0, (rl_ri gv19), hF⟩ (fun M21 qM21 => ?_)
    have hF := qM21
    refine j_goto hJ 207 dX4_lookAt_127 (by decide) ?_
    exact j_vret hJ rfl dX4_lookAt_207 hF
  by_cases z22 : p1 = 10
  · refine j_tabIn hJ 111 130 gp1 dX4_lookAt_19 (by omega) (by omega) (by rw [z22]; decide) (by decide) ?_
    have hF := hF.2.2.2.1 z22
    refine j_aload_n hJ dX4_lookAt_130 rfl 2 rfl ?_
    refine j_iload hJ dX4_lookAt_131 0 rfl ?_
    refine j_if_eq hJ 140 (jz_ri gr3) dX4_lookAt_133 (by decide) (fun z23 => ?_) (fun z23 => ?_)
    · have hF := hF.1 z23
      refine j_iconst hJ dX4_lookAt_140 ?_
      exact j_sub hJ [2, 4, 0] rfl (k_X4_lookAt_b141 hin  hJ  p2 r3 4 _ gp2 (jz_ri gr3) rk_4 hF)
    · have hF := hF.2 z23
      refine j_iconst hJ dX4_lookAt_136 ?_
      refine j_goto hJ 141 dX4_lookAt_137 (by decide) ?_
      exact j_sub hJ [2, 4, 0] rfl (k_X4_lookAt_b141 hin  hJ  p2 r3 0 _ gp2 (jz_ri gr3) rk_0 hF)
  by_cases z24 : p1 = 14
  · refine j_tabIn hJ 147 166 gp1 dX4_lookAt_19 (by omega) (by omega) (by rw [z24]; decide) (by decide) ?_
    have hF := hF.2.2.2.2.1 z24
    refine j_aload_n hJ dX4_lookAt_166 rfl 2 rfl ?_
    refine j_aload_n hJ dX4_lookAt_167 rfl 2 rfl ?_
    refine j_ga hJ kC_219 fC_7_0 fl_X4_11 dX4_lookAt_168 ?_
    refine j_iload hJ dX4_lookAt_171 1 rfl ?_
    refine j_lload_n hJ dX4_lookAt_173 rfl 5 rfl ?_
    refine j_callVz hJ (c_X10_isNamed (l := l) (D := D) (cy := cy) (ad := ad) hin) rfl om_151 ⟨rfl, rfl, Nat.le_of_ble_eq_true rfl, Nat.le_of_ble_eq_true rfl⟩ [.int (Ii v2), .long (Ll p3)] mv_X4_180 hd_X10_isNamedv kC_8 rfl rfl rfl (Nat.le_of_ble_eq_true rfl) dX4_lookAt_174 ⟨v2, p3, rfl, gv2, gp3, hF⟩ (fun r25 M26 gr25 qM26 => ?_)
    have hF := qM26 gr25
    refine j_callVv hJ (c_X4_pushTruth (l := l) (D := D) (cy := cy) (ad := ad) hin) rfl om_329 ⟨rfl, rfl, Nat.le_of_ble_eq_true rfl, Nat.le_of_ble_eq_true rfl⟩ [.int (Ii r25)] mv_X4_148 hd_X4_pushTruthv kC_219 rfl rfl rfl (Nat.le_of_ble_eq_true rfl) dX4_lookAt_177 ⟨r25, rfl, gr25, hF⟩ (fun M28 qM28 => ?_)
    have hF := qM28
    refine j_goto hJ 207 dX4_lookAt_180 (by decide) ?_
    exact j_vret hJ rfl dX4_lookAt_207 hF
  have z29 : ¬ p1 = 7 ∧ ¬ p1 = 8 ∧ ¬ p1 = 9 ∧ ¬ p1 = 10 ∧ ¬ p1 = 14 := ⟨z5, z12, z17, z22, z24⟩
  have hF := hF.2.2.2.2.2 z29
  by_cases z30 : p1 = 11
  · refine j_tabIn hJ 164 183 gp1 dX4_lookAt_19 (by omega) (by omega) (by rw [z30]; decide) (by decide) ?_
    refine j_aload_n hJ dX4_lookAt_183 rfl 2 rfl ?_
    refine j_iload_n hJ dX4_lookAt_184 rfl 4 rfl ?_
    refine j_iload hJ dX4_lookAt_185 0 rfl ?_
    refine j_if_eq hJ 194 (jz_ri gr3) dX4_lookAt_187 (by decide) (fun z31 => ?_) (fun z31 => ?_)
    · have hF := hF.1 z31
      refine j_aload_n hJ dX4_lookAt_194 rfl 2 rfl ?_
      refine j_ga hJ kC_219 fC_7_0 fl_X4_11 dX4_lookAt_195 ?_
      refine j_iload hJ dX4_lookAt_198 1 rfl ?_
      refine j_lload_n hJ dX4_lookAt_200 rfl 5 rfl ?_
      refine j_callVi hJ (c_X10_slotNamed (l := l) (D := D) (cy := cy) (ad := ad) hin) rfl om_391 ⟨rfl, rfl, Nat.le_of_ble_eq_true rfl, Nat.le_of_ble_eq_true rfl⟩ [.int (Ii v2), .long (Ll p3)] mv_X4_184 hd_X10_slotNamedv kC_8 rfl rfl rfl (Nat.le_of_ble_eq_true rfl) dX4_lookAt_201 ⟨v2, p3, rfl, gv2, gp3, hF⟩ (fun r32 M33 gr32 qM33 => ?_)
      have hF := qM33 gr32
      exact j_sub hJ [] rfl (k_X4_lookAt_b204 hin  hJ  r32 p2 _ gr32 gp2 hF)
    · have hF := hF.2 z31
      refine j_iconst hJ dX4_lookAt_190 ?_
      refine j_goto hJ 204 dX4_lookAt_191 (by decide) ?_
      exact j_sub hJ [] rfl (k_X4_lookAt_b204 hin  hJ  (-1) p2 _ rk_m1 gp2 hF)
  by_cases z34 : p1 = 12
  · refine j_tabIn hJ 164 183 gp1 dX4_lookAt_19 (by omega) (by omega) (by rw [z34]; decide) (by decide) ?_
    refine j_aload_n hJ dX4_lookAt_183 rfl 2 rfl ?_
    refine j_iload_n hJ dX4_lookAt_184 rfl 4 rfl ?_
    refine j_iload hJ dX4_lookAt_185 0 rfl ?_
    refine j_if_eq hJ 194 (jz_ri gr3) dX4_lookAt_187 (by decide) (fun z35 => ?_) (fun z35 => ?_)
    · have hF := hF.1 z35
      refine j_aload_n hJ dX4_lookAt_194 rfl 2 rfl ?_
      refine j_ga hJ kC_219 fC_7_0 fl_X4_11 dX4_lookAt_195 ?_
      refine j_iload hJ dX4_lookAt_198 1 rfl ?_
      refine j_lload_n hJ dX4_lookAt_200 rfl 5 rfl ?_
      refine j_callVi hJ (c_X10_slotNamed (l := l) (D := D) (cy := cy) (ad := ad) hin) rfl om_391 ⟨rfl, rfl, Nat.le_of_ble_eq_true rfl, Nat.le_of_ble_eq_true rfl⟩ [.int (Ii v2), .long (Ll p3)] mv_X4_184 hd_X10_slotNamedv kC_8 rfl rfl rfl (Nat.le_of_ble_eq_true rfl) dX4_lookAt_201 ⟨v2, p3, rfl, gv2, gp3, hF⟩ (fun r36 M37 gr36 qM37 => ?_)
      have hF := qM37 gr36
      exact j_sub hJ [] rfl (k_X4_lookAt_b204 hin  hJ  r36 p2 _ gr36 gp2 hF)
    · have hF := hF.2 z35
      refine j_iconst hJ dX4_lookAt_190 ?_
      refine j_goto hJ 204 dX4_lookAt_191 (by decide) ?_
      exact j_sub hJ [] rfl (k_X4_lookAt_b204 hin  hJ  (-1) p2 _ rk_m1 gp2 hF)
  by_cases z38 : p1 = 13
  · refine j_tabIn hJ 164 183 gp1 dX4_lookAt_19 (by omega) (by omega) (by rw [z38]; decide) (by decide) ?_
    refine j_aload_n hJ dX4_lookAt_183 rfl 2 rfl ?_
    refine j_iload_n hJ dX4_lookAt_184 rfl 4 rfl ?_
    refine j_iload hJ dX4_lookAt_185 0 rfl ?_
    refine j_if_eq hJ 194 (jz_ri gr3) dX4_lookAt_187 (by decide) (fun z39 => ?_) (fun z39 => ?_)
    · have hF := hF.1 z39
      refine j_aload_n hJ dX4_lookAt_194 rfl 2 rfl ?_
      refine j_ga hJ kC_219 fC_7_0 fl_X4_11 dX4_lookAt_195 ?_
      refine j_iload hJ dX4_lookAt_198 1 rfl ?_
      refine j_lload_n hJ dX4_lookAt_200 rfl 5 rfl ?_
      refine j_callVi hJ (c_X10_slotNamed (l := l) (D := D) (cy := cy) (ad := ad) hin) rfl om_391 ⟨rfl, rfl, Nat.le_of_ble_eq_true rfl, Nat.le_of_ble_eq_true rfl⟩ [.int (Ii v2), .long (Ll p3)] mv_X4_184 hd_X10_slotNamedv kC_8 rfl rfl rfl (Nat.le_of_ble_eq_true rfl) dX4_lookAt_201 ⟨v2, p3, rfl, gv2, gp3, hF⟩ (fun r40 M41 gr40 qM41 => ?_)
      have hF := qM41 gr40
      exact j_sub hJ [] rfl (k_X4_lookAt_b204 hin  hJ  r40 p2 _ gr40 gp2 hF)
    · have hF := hF.2 z39
      refine j_iconst hJ dX4_lookAt_190 ?_
      refine j_goto hJ 204 dX4_lookAt_191 (by decide) ?_
      exact j_sub hJ [] rfl (k_X4_lookAt_b204 hin  hJ  (-1) p2 _ rk_m1 gp2 hF)
  refine j_tabOut hJ 183 gp1 dX4_lookAt_19 (by omega) (by decide) ?_
  refine j_aload_n hJ dX4_lookAt_183 rfl 2 rfl ?_
  refine j_iload_n hJ dX4_lookAt_184 rfl 4 rfl ?_
  refine j_iload hJ dX4_lookAt_185 0 rfl ?_
  refine j_if_eq hJ 194 (jz_ri gr3) dX4_lookAt_187 (by decide) (fun z42 => ?_) (fun z42 => ?_)
  · have hF := hF.1 z42
    refine j_aload_n hJ dX4_lookAt_194 rfl 2 rfl ?_
    refine j_ga hJ kC_219 fC_7_0 fl_X4_11 dX4_lookAt_195 ?_
    refine j_iload hJ dX4_lookAt_198 1 rfl ?_
    refine j_lload_n hJ dX4_lookAt_200 rfl 5 rfl ?_
    refine j_callVi hJ (c_X10_slotNamed (l := l) (D := D) (cy := cy) (ad := ad) hin) rfl om_391 ⟨rfl, rfl, Nat.le_of_ble_eq_true rfl, Nat.le_of_ble_eq_true rfl⟩ [.int (Ii v2), .long (Ll p3)] mv_X4_184 hd_X10_slotNamedv kC_8 rfl rfl rfl (Nat.le_of_ble_eq_true rfl) dX4_lookAt_201 ⟨v2, p3, rfl, gv2, gp3, hF⟩ (fun r43 M44 gr43 qM44 => ?_)
    have hF := qM44 gr43
    exact j_sub hJ [] rfl (k_X4_lookAt_b204 hin  hJ  r43 p2 _ gr43 gp2 hF)
  · have hF := hF.2 z42
    refine j_iconst hJ dX4_lookAt_190 ?_
    refine j_goto hJ 204 dX4_lookAt_191 (by decide) ?_
    exact j_sub hJ [] rfl (k_X4_lookAt_b204 hin  hJ  (-1) p2 _ rk_m1 gp2 hF)
def W_X4_doOne (ad : Nat → Nat) (Q : Int → MM → Prop) (av : List Value) (M : MM) : Prop := ∃ (p1 : Int) (p2 : Int), av = [.ref (ad 219), .int (Ii p1), .long (Ll p2)] ∧ ri_ p1 ∧ rl_ p2 ∧ w_X4_doOne  Q p1 p2 M
set_option maxHeartbeats 4000000 in
set_option maxRecDepth 100000 in
theorem k_X4_doOne_b123 {l : Launch} {D : va_G} {cy : Nat → ClassId} {ad : Nat → Nat} {Q : Int → MM → Prop} {J : Nat → List (Nat × Value) → List Value → MM → Prop} (hin : jIn ad ksC.length)   (hJ : jOk l D vwCl (tyC cy) cy ad ftC ksC (XtC ad) Om RX4 cX4_doOne 7 0 ({ frames := 3, cells := 0, slots := 0, locals := 72 } : Room) Q J)  : ∀ (M : MM), w_X4_doOne_b123  Q   M → J 123 [(0, .ref (ad 219))] [] M := by
  intro  M  hF
  unfold w_X4_doOne_b123 at hF
  refine j_aload_n hJ dX4_doOne_123 rfl 0 rfl ?_
  refine j_iconst hJ dX4_doOne_124 ?_
  refine j_lconst (x := 0) hJ dX4_doOne_125 rfl ?_
  refine j_callVv hJ (c_X4_push (l := l) (D := D) (cy := cy) (ad := ad) hin) rfl om_291 ⟨rfl, rfl, Nat.le_of_ble_eq_true rfl, Nat.le_of_ble_eq_true rfl⟩ [.int (Ii 4), .long (Ll 0)] mv_X4_139 hd_X4_pushv kC_219 rfl rfl rfl (Nat.le_of_ble_eq_true rfl) dX4_doOne_126 ⟨4, 0, rfl, rk_4, lkm_0, hF⟩ (fun M2 qM2 => ?_)
  have hF := qM2
  exact j_vret hJ rfl dX4_doOne_129 hF
set_option maxHeartbeats 4000000 in
set_option maxRecDepth 100000 in
theorem k_X4_doOne_b93 {l : Launch} {D : va_G} {cy : Nat → ClassId} {ad : Nat → Nat} {Q : Int → MM → Prop} {J : Nat → List (Nat × Value) → List Value → MM → Prop} (hin : jIn ad ksC.length)   (hJ : jOk l D vwCl (tyC cy) cy ad ftC ksC (XtC ad) Om RX4 cX4_doOne 7 0 ({ frames := 3, cells := 0, slots := 0, locals := 72 } : Room) Q J)  : ∀ (x1 x2 x4 x5 : Int) (M : MM), ri_ x1 → rl_ x2 → ri_ x4 → rl_ x5 → w_X4_doOne_b93  Q  x1 x2 x4 x5 M → J 93 [(0, .ref (ad 219)), (1, .int (Ii x1)), (2, .long (Ll x2)), (4, .int (Ii x4)), (5, .long (Ll x5))] [] M := by
  intro x1 x2 x4 x5 M gx1 gx2 gx4 gx5 hF
  unfold w_X4_doOne_b93 at hF
  refine j_iload_n hJ dX4_doOne_93 rfl 1 rfl ?_
  refine j_bipush hJ dX4_doOne_94 (by decide) ?_
  refine j_icmp_eq hJ 123 gx1 rk_12 dX4_doOne_96 (by decide) (fun z1 => ?_) (fun z1 => ?_)
  · have hF := hF.1 z1
    exact j_sub hJ [0] rfl (k_X4_doOne_b123 hin  hJ   _  hF)
  · have hF := hF.2 z1
    refine j_iload_n hJ dX4_doOne_99 rfl 1 rfl ?_
    refine j_bipush hJ dX4_doOne_100 (by decide) ?_
    refine j_icmp_eq hJ 123 gx1 rk_13 dX4_doOne_102 (by decide) (fun z2 => ?_) (fun z2 => ?_)
    · have hF := hF.1 z2
      exact j_sub hJ [0] rfl (k_X4_doOne_b123 hin  hJ   _  hF)
    · have hF := hF.2 z2
      refine j_iload hJ dX4_doOne_105 3 rfl ?_
      refine j_iconst hJ dX4_doOne_107 ?_
      refine j_icmp_ne hJ 123 gx4 rk_2 dX4_doOne_108 (by decide) (fun z3 => ?_) (fun z3 => ?_)
      · have hF := hF.1 z3
        exact j_sub hJ [0] rfl (k_X4_doOne_b123 hin  hJ   _  hF)
      · have hF := hF.2 z3
        refine j_aload_n hJ dX4_doOne_111 rfl 0 rfl ?_
        refine j_iload_n hJ dX4_doOne_112 rfl 1 rfl ?_
        refine j_lload hJ dX4_doOne_113 4 rfl ?_
        refine j_l2i hJ dX4_doOne_115 ?_
        have g4 := hF.1; have hF := hF.2
        refine j_lload_n hJ dX4_doOne_116 rfl 2 rfl ?_
        refine j_callVv hJ (c_X4_lookAt (l := l) (D := D) (cy := cy) (ad := ad) hin) rfl om_395 ⟨rfl, rfl, Nat.le_of_ble_eq_true rfl, Nat.le_of_ble_eq_true rfl⟩ [.int (Ii x1), .int (Ii x5), .long (Ll x2)] mv_X4_156 hd_X4_lookAtv kC_219 rfl rfl rfl (Nat.le_of_ble_eq_true rfl) dX4_doOne_117 ⟨x1, x5, x2, rfl, gx1, g4, gx2, hF⟩ (fun M6 qM6 => ?_)
        have hF := qM6
        refine j_goto hJ 129 dX4_doOne_120 (by decide) ?_
        exact j_vret hJ rfl dX4_doOne_129 hF
set_option maxHeartbeats 4000000 in
set_option maxRecDepth 100000 in
theorem k_X4_doOne_b87 {l : Launch} {D : va_G} {cy : Nat → ClassId} {ad : Nat → Nat} {Q : Int → MM → Prop} {J : Nat → List (Nat × Value) → List Value → MM → Prop} (hin : jIn ad ksC.length)   (hJ : jOk l D vwCl (tyC cy) cy ad ftC ksC (XtC ad) Om RX4 cX4_doOne 7 0 ({ frames := 3, cells := 0, slots := 0, locals := 72 } : Room) Q J)  : ∀ (s0 : Int) (M : MM), ri_ s0 → w_X4_doOne_b87  Q  s0 M → J 87 [] [.int (Ii s0), .ref (ad 219)] M := by
  intro s0 M gs0 hF
  unfold w_X4_doOne_b87 at hF
  refine j_callVv hJ (c_X4_pushTruth (l := l) (D := D) (cy := cy) (ad := ad) hin) rfl om_329 ⟨rfl, rfl, Nat.le_of_ble_eq_true rfl, Nat.le_of_ble_eq_true rfl⟩ [.int (Ii s0)] mv_X4_148 hd_X4_pushTruthv kC_219 rfl rfl rfl (Nat.le_of_ble_eq_true rfl) dX4_doOne_87 ⟨s0, rfl, hF.1, hF.2⟩ (fun M2 qM2 => ?_)
  have hF := qM2
  refine j_goto hJ 129 dX4_doOne_90 (by decide) ?_
  exact j_vret hJ rfl dX4_doOne_129 hF
set_option maxHeartbeats 4000000 in
set_option maxRecDepth 100000 in
theorem k_X4_doOne_b62 {l : Launch} {D : va_G} {cy : Nat → ClassId} {ad : Nat → Nat} {Q : Int → MM → Prop} {J : Nat → List (Nat × Value) → List Value → MM → Prop} (hin : jIn ad ksC.length)   (hJ : jOk l D vwCl (tyC cy) cy ad ftC ksC (XtC ad) Om RX4 cX4_doOne 7 0 ({ frames := 3, cells := 0, slots := 0, locals := 72 } : Room) Q J)  : ∀ (x1 x2 x4 x5 : Int) (M : MM), ri_ x1 → rl_ x2 → ri_ x4 → rl_ x5 → w_X4_doOne_b62  Q  x1 x2 x4 x5 M → J 62 [(0, .ref (ad 219)), (1, .int (Ii x1)), (2, .long (Ll x2)), (4, .int (Ii x4)), (5, .long (Ll x5))] [] M := by
  intro x1 x2 x4 x5 M gx1 gx2 gx4 gx5 hF
  unfold w_X4_doOne_b62 at hF
  refine j_iload_n hJ dX4_doOne_62 rfl 1 rfl ?_
  refine j_bipush hJ dX4_doOne_63 (by decide) ?_
  refine j_icmp_ne hJ 93 gx1 rk_13 dX4_doOne_65 (by decide) (fun z1 => ?_) (fun z1 => ?_)
  · have hF := hF.1 z1
    exact j_sub hJ [0, 1, 2, 3, 4] rfl (k_X4_doOne_b93 hin  hJ  x1 x2 x4 x5 _ gx1 gx2 gx4 gx5 hF)
  · have hF := hF.2 z1
    refine j_iload hJ dX4_doOne_68 3 rfl ?_
    refine j_iconst hJ dX4_doOne_70 ?_
    refine j_icmp_ne hJ 93 gx4 rk_1 dX4_doOne_71 (by decide) (fun z2 => ?_) (fun z2 => ?_)
    · have hF := hF.1 z2
      exact j_sub hJ [0, 1, 2, 3, 4] rfl (k_X4_doOne_b93 hin  hJ  x1 x2 x4 x5 _ gx1 gx2 gx4 gx5 hF)
    · have hF := hF.2 z2
      refine j_aload_n hJ dX4_doOne_74 rfl 0 rfl ?_
      refine j_lload hJ dX4_doOne_75 4 rfl ?_
      refine j_lconst (x := 0) hJ dX4_doOne_77 rfl ?_
      refine j_lcmp_ne hJ 86 gx5 lkm_0 dX4_doOne_78 dX4_doOne_79 (by decide) (fun z3 => ?_) (fun z3 => ?_)
      · have hF := hF.1 z3
        refine j_iconst hJ dX4_doOne_86 ?_
        exact j_sub hJ [] rfl (k_X4_doOne_b87 hin  hJ  0 _ rk_0 hF)
      · have hF := hF.2 z3
        refine j_iconst hJ dX4_doOne_82 ?_
        refine j_goto hJ 87 dX4_doOne_83 (by decide) ?_
        exact j_sub hJ [] rfl (k_X4_doOne_b87 hin  hJ  1 _ rk_1 hF)
set_option maxHeartbeats 4000000 in
set_option maxRecDepth 100000 in
theorem c_X4_doOne {l : Launch} {D : va_G} {cy : Nat → ClassId} {ad : Nat → Nat} (hin : jIn ad ksC.length) : jCN l D vwCl (tyC cy) cy ad ftC ksC (XtC ad) yX4_doOne (.code yX4_doOne cX4_doOne 7 none :: Om) ({ frames := 3, cells := 0, slots := 0, locals := 72 } : Room) 0 (W_X4_doOne ad) := by
  refine jCN_of (y := yX4_doOne) (cc := cX4_doOne) (nL := 7) (rk := 0) (rm := ({ frames := 3, cells := 0, slots := 0, locals := 72 } : Room)) (own := RX4) (tyC_ok cy) hin (XtC_ok ad) Om_good (by decide) rfl ?_
  intro Q av M hF
  obtain ⟨p1, p2, rfl, gp1, gp2, hF⟩ := hF
  refine ⟨Nat.le_of_ble_eq_true rfl, fun J hJ => ?_⟩
  show J 0 [(0, .ref (ad 219)), (1, .int (Ii p1)), (2, .long (Ll p2))] [] M
  unfold w_X4_doOne at hF
  refine j_aload_n hJ dX4_doOne_0 rfl 0 rfl ?_
  refine j_gi hJ kC_219 fC_7_6 rfl fl_X4_67 dX4_doOne_1 (fun v1 ev1 gv1 => ?_)
  have hF := hF v1 ev1 gv1
  refine j_if_ne hJ 8 gv1 dX4_doOne_4 (by decide) (fun z2 => ?_) (fun z2 => ?_)
  · have hF := hF.1 z2
    refine j_aload_n hJ dX4_doOne_8 rfl 0 rfl ?_
    refine j_dup hJ dX4_doOne_9 rfl ?_
    refine j_gi hJ kC_219 fC_7_6 rfl fl_X4_67 dX4_doOne_10 (fun v3 ev3 gv3 => ?_)
    have hF := hF v3 ev3 gv3
    refine j_iconst hJ dX4_doOne_13 ?_
    refine j_isub hJ dX4_doOne_14 ?_
    have g4 := hF.1; have hF := hF.2
    refine j_pi hJ g4 kC_219 fC_7_6 rfl fp_X4_67 dX4_doOne_15 (fun M5 eM5 => ?_)
    have hF := hF M5 eM5
    refine j_aload_n hJ dX4_doOne_18 rfl 0 rfl ?_
    refine j_gr (e := 220) hJ kC_219 fC_7_4 fl_X4_19 dX4_doOne_19 rfl ?_
    refine j_aload_n hJ dX4_doOne_22 rfl 0 rfl ?_
    refine j_gi hJ kC_219 fC_7_6 rfl fl_X4_67 dX4_doOne_23 (fun v6 ev6 gv6 => ?_)
    have hF := hF v6 ev6 gv6
    refine j_iald hJ gv6 kC_220 hF.1 hF.2.1 dX4_doOne_26 (fun v7 ev7 gv7 => ?_)
    have hF := hF.2.2 v7 ev7 gv7
    refine j_istore (lv' := [(4, .int (Ii v7)), (0, .ref (ad 219)), (1, .int (Ii p1)), (2, .long (Ll p2))]) hJ dX4_doOne_27 (by decide) rfl ?_
    refine j_aload_n hJ dX4_doOne_29 rfl 1 rfl ?_
    refine j_gr (e := 221) hJ kC_219 fC_7_5 fl_X4_23 dX4_doOne_30 rfl ?_
    refine j_aload_n hJ dX4_doOne_33 rfl 1 rfl ?_
    refine j_gi hJ kC_219 fC_7_6 rfl fl_X4_67 dX4_doOne_34 (fun v8 ev8 gv8 => ?_)
    have hF := hF v8 ev8 gv8
    refine j_lald hJ gv8 kC_221 hF.1 hF.2.1 dX4_doOne_37 (fun v9 ev9 gv9 => ?_)
    have hF := hF.2.2 v9 ev9 gv9
    refine j_lstore (lv' := [(5, .long (Ll v9)), (4, .int (Ii v7)), (0, .ref (ad 219)), (1, .int (Ii p1)), (2, .long (Ll p2))]) hJ dX4_doOne_38 (by decide) rfl ?_
    refine j_iload_n hJ dX4_doOne_40 rfl 3 rfl ?_
    refine j_bipush hJ dX4_doOne_41 (by decide) ?_
    refine j_icmp_ne hJ 62 gp1 rk_12 dX4_doOne_43 (by decide) (fun z10 => ?_) (fun z10 => ?_)
    · have hF := hF.1 z10
      exact j_sub hJ [2, 3, 4, 1, 0] rfl (k_X4_doOne_b62 hin  hJ  p1 p2 v7 v9 _ gp1 gp2 gv7 gv9 hF)
    · have hF := hF.2 z10
      refine j_iload hJ dX4_doOne_46 1 rfl ?_
      refine j_if_ne hJ 62 gv7 dX4_doOne_48 (by decide) (fun z11 => ?_) (fun z11 => ?_)
      · have hF := hF.1 z11
        exact j_sub hJ [2, 3, 4, 1, 0] rfl (k_X4_doOne_b62 hin  hJ  p1 p2 v7 v9 _ gp1 gp2 gv7 gv9 hF)
      · have hF := hF.2 z11
        refine j_aload_n hJ dX4_doOne_51 rfl 2 rfl ?_
        refine j_iconst hJ dX4_doOne_52 ?_
        refine j_lload hJ dX4_doOne_53 0 rfl ?_
        refine j_lnegw hJ dX4_doOne_55 ?_
        refine j_callVv hJ (c_X4_push (l := l) (D := D) (cy := cy) (ad := ad) hin) rfl om_291 ⟨rfl, rfl, Nat.le_of_ble_eq_true rfl, Nat.le_of_ble_eq_true rfl⟩ [.int (Ii 0), .long (Ll (w64 (-v9)))] mv_X4_139 hd_X4_pushv kC_219 rfl rfl rfl (Nat.le_of_ble_eq_true rfl) dX4_doOne_56 ⟨0, (w64 (-v9)), rfl, rk_0, (rl_w _), hF⟩ (fun M13 qM13 => ?_)
        have hF := qM13
        refine j_goto hJ 129 dX4_doOne_59 (by decide) ?_
        exact j_vret hJ rfl dX4_doOne_129 hF
  · have hF := hF.2 z2
    exact j_vret hJ rfl dX4_doOne_7 hF
def W_X4_pushThing (ad : Nat → Nat) (Q : Int → MM → Prop) (av : List Value) (M : MM) : Prop := ∃ (p1 : Int), av = [.ref (ad 219), .long (Ll p1)] ∧ rl_ p1 ∧ w_X4_pushThing  Q p1 M
set_option maxHeartbeats 4000000 in
set_option maxRecDepth 100000 in
theorem k_X4_pushThing_b38 {l : Launch} {D : va_G} {cy : Nat → ClassId} {ad : Nat → Nat} {Q : Int → MM → Prop} {J : Nat → List (Nat × Value) → List Value → MM → Prop} (hin : jIn ad ksC.length)   (hJ : jOk l D vwCl (tyC cy) cy ad ftC ksC (XtC ad) Om RX4 cX4_pushThing 4 0 ({ frames := 1, cells := 0, slots := 0, locals := 23 } : Room) Q J)  : ∀ (s0 s1 : Int) (M : MM), rl_ s0 → ri_ s1 → w_X4_pushThing_b38  Q  s0 s1 M → J 38 [] [.long (Ll s0), .int (Ii s1), .ref (ad 219)] M := by
  intro s0 s1 M gs0 gs1 hF
  unfold w_X4_pushThing_b38 at hF
  refine j_callVv hJ (c_X4_push (l := l) (D := D) (cy := cy) (ad := ad) hin) rfl om_291 ⟨rfl, rfl, Nat.le_of_ble_eq_true rfl, Nat.le_of_ble_eq_true rfl⟩ [.int (Ii s1), .long (Ll s0)] mv_X4_139 hd_X4_pushv kC_219 rfl rfl rfl (Nat.le_of_ble_eq_true rfl) dX4_pushThing_38 ⟨s1, s0, rfl, gs1, gs0, hF⟩ (fun M2 qM2 => ?_)
  have hF := qM2
  exact j_vret hJ rfl dX4_pushThing_41 hF
set_option maxHeartbeats 4000000 in
set_option maxRecDepth 100000 in
theorem k_X4_pushThing_b29 {l : Launch} {D : va_G} {cy : Nat → ClassId} {ad : Nat → Nat} {Q : Int → MM → Prop} {J : Nat → List (Nat × Value) → List Value → MM → Prop} (hin : jIn ad ksC.length)   (hJ : jOk l D vwCl (tyC cy) cy ad ftC ksC (XtC ad) Om RX4 cX4_pushThing 4 0 ({ frames := 1, cells := 0, slots := 0, locals := 23 } : Room) Q J)  : ∀ (x1 x3 s0 : Int) (M : MM), rl_ x1 → ri_ x3 → ri_ s0 → w_X4_pushThing_b29  Q  x1 x3 s0 M → J 29 [(1, .long (Ll x1)), (3, .int (Ii x3))] [.int (Ii s0), .ref (ad 219)] M := by
  intro x1 x3 s0 M gx1 gx3 gs0 hF
  unfold w_X4_pushThing_b29 at hF
  refine j_iload_n hJ dX4_pushThing_29 rfl 1 rfl ?_
  refine j_if_eq hJ 37 gx3 dX4_pushThing_30 (by decide) (fun z1 => ?_) (fun z1 => ?_)
  · have hF := hF.1 z1
    refine j_lconst (x := 0) hJ dX4_pushThing_37 rfl ?_
    exact j_sub hJ [] rfl (k_X4_pushThing_b38 hin  hJ  0 s0 _ lkm_0 gs0 hF)
  · have hF := hF.2 z1
    refine j_lload_n hJ dX4_pushThing_33 rfl 0 rfl ?_
    refine j_goto hJ 38 dX4_pushThing_34 (by decide) ?_
    exact j_sub hJ [] rfl (k_X4_pushThing_b38 hin  hJ  x1 s0 _ gx1 gs0 hF)
set_option maxHeartbeats 4000000 in
set_option maxRecDepth 100000 in
theorem k_X4_pushThing_b18 {l : Launch} {D : va_G} {cy : Nat → ClassId} {ad : Nat → Nat} {Q : Int → MM → Prop} {J : Nat → List (Nat × Value) → List Value → MM → Prop} (hin : jIn ad ksC.length)   (hJ : jOk l D vwCl (tyC cy) cy ad ftC ksC (XtC ad) Om RX4 cX4_pushThing 4 0 ({ frames := 1, cells := 0, slots := 0, locals := 23 } : Room) Q J)  : ∀ (x1 s0 : Int) (M : MM), rl_ x1 → ri_ s0 → w_X4_pushThing_b18  Q  x1 s0 M → J 18 [(0, .ref (ad 219)), (1, .long (Ll x1))] [.int (Ii s0)] M := by
  intro x1 s0 M gx1 gs0 hF
  unfold w_X4_pushThing_b18 at hF
  refine j_istore_n (lv' := [(3, .int (Ii s0)), (0, .ref (ad 219)), (1, .long (Ll x1))]) hJ dX4_pushThing_18 rfl (by decide) rfl ?_
  refine j_aload_n hJ dX4_pushThing_19 rfl 1 rfl ?_
  refine j_iload_n hJ dX4_pushThing_20 rfl 0 rfl ?_
  refine j_if_eq hJ 28 gs0 dX4_pushThing_21 (by decide) (fun z1 => ?_) (fun z1 => ?_)
  · have hF := hF.1 z1
    refine j_iconst hJ dX4_pushThing_28 ?_
    exact j_sub hJ [2, 0] rfl (k_X4_pushThing_b29 hin  hJ  x1 s0 4 _ gx1 gs0 rk_4 hF)
  · have hF := hF.2 z1
    refine j_iconst hJ dX4_pushThing_24 ?_
    refine j_goto hJ 29 dX4_pushThing_25 (by decide) ?_
    exact j_sub hJ [2, 0] rfl (k_X4_pushThing_b29 hin  hJ  x1 s0 2 _ gx1 gs0 rk_2 hF)
set_option maxHeartbeats 4000000 in
set_option maxRecDepth 100000 in
theorem c_X4_pushThing {l : Launch} {D : va_G} {cy : Nat → ClassId} {ad : Nat → Nat} (hin : jIn ad ksC.length) : jCN l D vwCl (tyC cy) cy ad ftC ksC (XtC ad) yX4_pushThing (.code yX4_pushThing cX4_pushThing 4 none :: Om) ({ frames := 1, cells := 0, slots := 0, locals := 23 } : Room) 0 (W_X4_pushThing ad) := by
  refine jCN_of (y := yX4_pushThing) (cc := cX4_pushThing) (nL := 4) (rk := 0) (rm := ({ frames := 1, cells := 0, slots := 0, locals := 23 } : Room)) (own := RX4) (tyC_ok cy) hin (XtC_ok ad) Om_good (by decide) rfl ?_
  intro Q av M hF
  obtain ⟨p1, rfl, gp1, hF⟩ := hF
  refine ⟨Nat.le_of_ble_eq_true rfl, fun J hJ => ?_⟩
  show J 0 [(0, .ref (ad 219)), (1, .long (Ll p1))] [] M
  unfold w_X4_pushThing at hF
  refine j_lload_n hJ dX4_pushThing_0 rfl 1 rfl ?_
  refine j_aload_n hJ dX4_pushThing_1 rfl 0 rfl ?_
  obtain ⟨c1, ec1, hc1, hF⟩ := hF
  refine j_gq hJ kC_219 fC_7_1 rfl fl_X4_79 dX4_pushThing_2 ec1 ?_
  refine j_gi hJ (kP_0 hc1) fC_8_0 rfl fl_X4_142 dX4_pushThing_5 (fun v2 ev2 gv2 => ?_)
  have hF := hF v2 ev2 gv2
  refine j_i2l hJ gv2 dX4_pushThing_8 ?_
  refine j_lcmp_ge hJ 17 gp1 (rl_ri gv2) dX4_pushThing_9 dX4_pushThing_10 (by decide) (fun z3 => ?_) (fun z3 => ?_)
  · have hF := hF.1 z3
    refine j_iconst hJ dX4_pushThing_17 ?_
    exact j_sub hJ [0, 1] rfl (k_X4_pushThing_b18 hin  hJ  p1 0 _ gp1 rk_0 hF)
  · have hF := hF.2 z3
    refine j_iconst hJ dX4_pushThing_13 ?_
    refine j_goto hJ 18 dX4_pushThing_14 (by decide) ?_
    exact j_sub hJ [0, 1] rfl (k_X4_pushThing_b18 hin  hJ  p1 1 _ gp1 rk_1 hF)
def W_X4_doLeaf (ad : Nat → Nat) (Q : Int → MM → Prop) (av : List Value) (M : MM) : Prop := ∃ (p1 : Int) (p2 : Int), av = [.ref (ad 219), .int (Ii p1), .int (Ii p2)] ∧ ri_ p1 ∧ ri_ p2 ∧ w_X4_doLeaf  Q p1 p2 M
set_option maxHeartbeats 4000000 in
set_option maxRecDepth 100000 in
theorem c_X4_doLeaf {l : Launch} {D : va_G} {cy : Nat → ClassId} {ad : Nat → Nat} (hin : jIn ad ksC.length) : jCN l D vwCl (tyC cy) cy ad ftC ksC (XtC ad) yX4_doLeaf (.code yX4_doLeaf cX4_doLeaf 6 none :: Om) ({ frames := 2, cells := 0, slots := 0, locals := 46 } : Room) 0 (W_X4_doLeaf ad) := by
  refine jCN_of (y := yX4_doLeaf) (cc := cX4_doLeaf) (nL := 6) (rk := 0) (rm := ({ frames := 2, cells := 0, slots := 0, locals := 46 } : Room)) (own := RX4) (tyC_ok cy) hin (XtC_ok ad) Om_good (by decide) rfl ?_
  intro Q av M hF
  obtain ⟨p1, p2, rfl, gp1, gp2, hF⟩ := hF
  refine ⟨Nat.le_of_ble_eq_true rfl, fun J hJ => ?_⟩
  show J 0 [(0, .ref (ad 219)), (1, .int (Ii p1)), (2, .int (Ii p2))] [] M
  unfold w_X4_doLeaf at hF
  refine j_aload_n hJ dX4_doLeaf_0 rfl 0 rfl ?_
  obtain ⟨c1, ec1, hc1, hF⟩ := hF
  refine j_gq hJ kC_219 fC_7_2 rfl fl_X4_75 dX4_doLeaf_1 ec1 ?_
  refine j_gr (e := (c1 + 2)) hJ (kG_0 hc1) fC_9_2 fl_X4_145 dX4_doLeaf_4 rfl ?_
  refine j_iload_n hJ dX4_doLeaf_7 rfl 2 rfl ?_
  refine j_iald hJ gp2 (kG_2 hc1) hF.1 hF.2.1 dX4_doLeaf_8 (fun v2 ev2 gv2 => ?_)
  have hF := hF.2.2 v2 ev2 gv2
  refine j_istore_n (lv' := [(3, .int (Ii v2)), (0, .ref (ad 219)), (1, .int (Ii p1)), (2, .int (Ii p2))]) hJ dX4_doLeaf_9 rfl (by decide) rfl ?_
  refine j_aload_n hJ dX4_doLeaf_10 rfl 1 rfl ?_
  obtain ⟨c3, ec3, hc3, hF⟩ := hF
  refine j_gq hJ kC_219 fC_7_2 rfl fl_X4_75 dX4_doLeaf_11 ec3 ?_
  refine j_gr (e := (c3 + 4)) hJ (kG_0 hc3) fC_9_4 fl_X4_121 dX4_doLeaf_14 rfl ?_
  refine j_iload_n hJ dX4_doLeaf_17 rfl 3 rfl ?_
  refine j_lald hJ gp2 (kG_4 hc3) hF.1 hF.2.1 dX4_doLeaf_18 (fun v4 ev4 gv4 => ?_)
  have hF := hF.2.2 v4 ev4 gv4
  refine j_lstore (lv' := [(4, .long (Ll v4)), (3, .int (Ii v2)), (0, .ref (ad 219)), (1, .int (Ii p1)), (2, .int (Ii p2))]) hJ dX4_doLeaf_19 (by decide) rfl ?_
  refine j_iload_n hJ dX4_doLeaf_21 rfl 3 rfl ?_
  by_cases z5 : p1 = 0
  · refine j_tabIn hJ 38 60 gp1 dX4_doLeaf_22 (by omega) (by omega) (by rw [z5]; decide) (by decide) ?_
    have hF := hF.1 z5
    refine j_aload_n hJ dX4_doLeaf_60 rfl 2 rfl ?_
    refine j_iconst hJ dX4_doLeaf_61 ?_
    refine j_lload hJ dX4_doLeaf_62 0 rfl ?_
    refine j_callVv hJ (c_X4_push (l := l) (D := D) (cy := cy) (ad := ad) hin) rfl om_291 ⟨rfl, rfl, Nat.le_of_ble_eq_true rfl, Nat.le_of_ble_eq_true rfl⟩ [.int (Ii 0), .long (Ll v4)] mv_X4_139 hd_X4_pushv kC_219 rfl rfl rfl (Nat.le_of_ble_eq_true rfl) dX4_doLeaf_64 ⟨0, v4, rfl, rk_0, gv4, hF⟩ (fun M7 qM7 => ?_)
    have hF := qM7
    refine j_goto hJ 133 dX4_doLeaf_67 (by decide) ?_
    exact j_vret hJ rfl dX4_doLeaf_133 hF
  by_cases z8 : p1 = 1
  · refine j_tabIn hJ 48 70 gp1 dX4_doLeaf_22 (by omega) (by omega) (by rw [z8]; decide) (by decide) ?_
    have hF := hF.2.1 z8
    refine j_aload_n hJ dX4_doLeaf_70 rfl 2 rfl ?_
    refine j_iconst hJ dX4_doLeaf_71 ?_
    refine j_lconst (x := 0) hJ dX4_doLeaf_72 rfl ?_
    refine j_callVv hJ (c_X4_push (l := l) (D := D) (cy := cy) (ad := ad) hin) rfl om_291 ⟨rfl, rfl, Nat.le_of_ble_eq_true rfl, Nat.le_of_ble_eq_true rfl⟩ [.int (Ii 3), .long (Ll 0)] mv_X4_139 hd_X4_pushv kC_219 rfl rfl rfl (Nat.le_of_ble_eq_true rfl) dX4_doLeaf_73 ⟨3, 0, rfl, rk_3, lkm_0, hF⟩ (fun M10 qM10 => ?_)
    have hF := qM10
    refine j_goto hJ 133 dX4_doLeaf_76 (by decide) ?_
    exact j_vret hJ rfl dX4_doLeaf_133 hF
  by_cases z11 : p1 = 2
  · refine j_tabIn hJ 57 79 gp1 dX4_doLeaf_22 (by omega) (by omega) (by rw [z11]; decide) (by decide) ?_
    have hF := hF.2.2.1 z11
    refine j_aload_n hJ dX4_doLeaf_79 rfl 2 rfl ?_
    refine j_iconst hJ dX4_doLeaf_80 ?_
    refine j_callVv hJ (c_X4_pushTruth (l := l) (D := D) (cy := cy) (ad := ad) hin) rfl om_329 ⟨rfl, rfl, Nat.le_of_ble_eq_true rfl, Nat.le_of_ble_eq_true rfl⟩ [.int (Ii 1)] mv_X4_148 hd_X4_pushTruthv kC_219 rfl rfl rfl (Nat.le_of_ble_eq_true rfl) dX4_doLeaf_81 ⟨1, rfl, (by decide), hF⟩ (fun M13 qM13 => ?_)
    have hF := qM13
    refine j_goto hJ 133 dX4_doLeaf_84 (by decide) ?_
    exact j_vret hJ rfl dX4_doLeaf_133 hF
  by_cases z14 : p1 = 3
  · refine j_tabIn hJ 65 87 gp1 dX4_doLeaf_22 (by omega) (by omega) (by rw [z14]; decide) (by decide) ?_
    have hF := hF.2.2.2.1 z14
    refine j_aload_n hJ dX4_doLeaf_87 rfl 2 rfl ?_
    refine j_iconst hJ dX4_doLeaf_88 ?_
    refine j_callVv hJ (c_X4_pushTruth (l := l) (D := D) (cy := cy) (ad := ad) hin) rfl om_329 ⟨rfl, rfl, Nat.le_of_ble_eq_true rfl, Nat.le_of_ble_eq_true rfl⟩ [.int (Ii 0)] mv_X4_148 hd_X4_pushTruthv kC_219 rfl rfl rfl (Nat.le_of_ble_eq_true rfl) dX4_doLeaf_89 ⟨0, rfl, (by decide), hF⟩ (fun M16 qM16 => ?_)
    have hF := qM16
    refine j_goto hJ 133 dX4_doLeaf_92 (by decide) ?_
    exact j_vret hJ rfl dX4_doLeaf_133 hF
  by_cases z17 : p1 = 4
  · refine j_tabIn hJ 73 95 gp1 dX4_doLeaf_22 (by omega) (by omega) (by rw [z17]; decide) (by decide) ?_
    have hF := hF.2.2.2.2.1 z17
    refine j_aload_n hJ dX4_doLeaf_95 rfl 2 rfl ?_
    refine j_lload hJ dX4_doLeaf_96 0 rfl ?_
    refine j_callVv hJ (c_X4_pushThing (l := l) (D := D) (cy := cy) (ad := ad) hin) rfl om_403 ⟨rfl, rfl, Nat.le_of_ble_eq_true rfl, Nat.le_of_ble_eq_true rfl⟩ [.long (Ll v4)] mv_X4_152 hd_X4_pushThingv kC_219 rfl rfl rfl (Nat.le_of_ble_eq_true rfl) dX4_doLeaf_98 ⟨v4, rfl, gv4, hF⟩ (fun M19 qM19 => ?_)
    have hF := qM19
    refine j_goto hJ 133 dX4_doLeaf_101 (by decide) ?_
    exact j_vret hJ rfl dX4_doLeaf_133 hF
  by_cases z20 : p1 = 5
  · refine j_tabIn hJ 82 104 gp1 dX4_doLeaf_22 (by omega) (by omega) (by rw [z20]; decide) (by decide) ?_
    have hF := hF.2.2.2.2.2.1 z20
    refine j_aload_n hJ dX4_doLeaf_104 rfl 2 rfl ?_
    refine j_iconst hJ dX4_doLeaf_105 ?_
    refine j_aload_n hJ dX4_doLeaf_106 rfl 2 rfl ?_
    refine j_gr (e := 226) hJ kC_219 fC_7_11 fl_X4_39 dX4_doLeaf_107 rfl ?_
    refine j_iload_n hJ dX4_doLeaf_110 rfl 1 rfl ?_
    refine j_iald hJ gv2 kC_226 hF.1 hF.2.1 dX4_doLeaf_111 (fun v21 ev21 gv21 => ?_)
    have hF := hF.2.2 v21 ev21 gv21
    refine j_i2l hJ gv21 dX4_doLeaf_112 ?_
    refine j_callVv hJ (c_X4_push (l := l) (D := D) (cy := cy) (ad := ad) hin) rfl om_291 ⟨rfl, rfl, Nat.le_of_ble_eq_true rfl, Nat.le_of_ble_eq_true rfl⟩ [.int (Ii 2), .long (Ll v21)] mv_X4_139 hd_X4_pushv kC_219 rfl rfl rfl (Nat.le_of_ble_eq_true rfl) dX4_doLeaf_113 ⟨2, v21, rfl, rk_2, (rl_ri gv21), hF⟩ (fun M23 qM23 => ?_)
    have hF := qM23
    refine j_goto hJ 133 dX4_doLeaf_116 (by decide) ?_
    exact j_vret hJ rfl dX4_doLeaf_133 hF
  have z24 : ¬ p1 = 0 ∧ ¬ p1 = 1 ∧ ¬ p1 = 2 ∧ ¬ p1 = 3 ∧ ¬ p1 = 4 ∧ ¬ p1 = 5 := ⟨z5, z8, z11, z14, z17, z20⟩
  have hF := hF.2.2.2.2.2.2 z24
  refine j_tabOut hJ 119 gp1 dX4_doLeaf_22 (by omega) (by decide) ?_
  refine j_aload_n hJ dX4_doLeaf_119 rfl 2 rfl ?_
  refine j_gr (e := 227) hJ kC_219 fC_7_12 fl_X4_42 dX4_doLeaf_120 rfl ?_
  refine j_iload_n hJ dX4_doLeaf_123 rfl 1 rfl ?_
  refine j_lconst (x := 0) hJ dX4_doLeaf_124 rfl ?_
  refine j_last hJ gv2 lkm_0 kC_227 hF.1 hF.2.1 dX4_doLeaf_125 (fun M25 eM25 => ?_)
  have hF := hF.2.2 M25 eM25
  refine j_aload_n hJ dX4_doLeaf_126 rfl 2 rfl ?_
  refine j_gr (e := 228) hJ kC_219 fC_7_13 fl_X4_45 dX4_doLeaf_127 rfl ?_
  refine j_iload_n hJ dX4_doLeaf_130 rfl 1 rfl ?_
  refine j_iconst hJ dX4_doLeaf_131 ?_
  refine j_zast hJ gv2 (by decide) kC_228 hF.1 hF.2.1 dX4_doLeaf_132 (fun M26 eM26 => ?_)
  have hF := hF.2.2 M26 eM26
  exact j_vret hJ rfl dX4_doLeaf_133 hF
def W_X4_execute (ad : Nat → Nat) (Q : Int → MM → Prop) (av : List Value) (M : MM) : Prop := ∃ (p1 : Int), av = [.ref (ad 219), .int (Ii p1)] ∧ ri_ p1 ∧ w_X4_execute  Q p1 M
set_option maxHeartbeats 4000000 in
set_option maxRecDepth 100000 in
theorem k_X4_execute_b26 {l : Launch} {D : va_G} {cy : Nat → ClassId} {ad : Nat → Nat} {Q : Int → MM → Prop} {J : Nat → List (Nat × Value) → List Value → MM → Prop} (hin : jIn ad ksC.length)   (hJ : jOk l D vwCl (tyC cy) cy ad ftC ksC (XtC ad) Om RX4 cX4_execute 3 1 ({ frames := 4, cells := 0, slots := 0, locals := 100 } : Room) Q J)  : ∀ (x1 x2 : Int) (M : MM), ri_ x1 → ri_ x2 → w_X4_execute_b26  Q  x1 x2 M → J 26 [(0, .ref (ad 219)), (1, .int (Ii x1)), (2, .int (Ii x2))] [] M := by
  intro x1 x2 M gx1 gx2 hF
  unfold w_X4_execute_b26 at hF
  refine j_iload_n hJ dX4_execute_26 rfl 2 rfl ?_
  refine j_bipush hJ dX4_execute_27 (by decide) ?_
  refine j_icmp_ge hJ 41 gx2 rk_7 dX4_execute_29 (by decide) (fun z1 => ?_) (fun z1 => ?_)
  · have hF := hF.1 z1
    refine j_iload_n hJ dX4_execute_41 rfl 2 rfl ?_
    refine j_bipush hJ dX4_execute_42 (by decide) ?_
    refine j_icmp_ge hJ 64 gx2 rk_15 dX4_execute_44 (by decide) (fun z2 => ?_) (fun z2 => ?_)
    · have hF := hF.1 z2
      refine j_iload_n hJ dX4_execute_64 rfl 2 rfl ?_
      refine j_bipush hJ dX4_execute_65 (by decide) ?_
      refine j_icmp_ge hJ 78 gx2 rk_27 dX4_execute_67 (by decide) (fun z3 => ?_) (fun z3 => ?_)
      · have hF := hF.1 z3
        refine j_iload_n hJ dX4_execute_78 rfl 2 rfl ?_
        refine j_bipush hJ dX4_execute_79 (by decide) ?_
        refine j_icmp_ge hJ 93 gx2 rk_33 dX4_execute_81 (by decide) (fun z4 => ?_) (fun z4 => ?_)
        · have hF := hF.1 z4
          refine j_aload_n hJ dX4_execute_93 rfl 0 rfl ?_
          refine j_iload_n hJ dX4_execute_94 rfl 2 rfl ?_
          refine j_iload_n hJ dX4_execute_95 rfl 1 rfl ?_
          refine j_callVi hJ (c_X4_jump (l := l) (D := D) (cy := cy) (ad := ad) hin) rfl om_341 ⟨rfl, rfl, Nat.le_of_ble_eq_true rfl, Nat.le_of_ble_eq_true rfl⟩ [.int (Ii x2), .int (Ii x1)] mv_X4_135 hd_X4_jumpv kC_219 rfl rfl rfl (Nat.le_of_ble_eq_true rfl) dX4_execute_96 ⟨x2, x1, rfl, gx2, gx1, hF⟩ (fun r5 M6 gr5 qM6 => ?_)
          have hF := qM6 gr5
          exact j_iret hJ rfl gr5 dX4_execute_99 hF
        · have hF := hF.2 z4
          refine j_aload_n hJ dX4_execute_84 rfl 0 rfl ?_
          refine j_iload_n hJ dX4_execute_85 rfl 2 rfl ?_
          refine j_iload_n hJ dX4_execute_86 rfl 1 rfl ?_
          refine j_callVv hJ (c_X4_beginSet (l := l) (D := D) (cy := cy) (ad := ad) hin) rfl om_354 ⟨rfl, rfl, Nat.le_of_ble_eq_true rfl, Nat.le_of_ble_eq_true rfl⟩ [.int (Ii x2), .int (Ii x1)] mv_X4_132 hd_X4_beginSetv kC_219 rfl rfl rfl (Nat.le_of_ble_eq_true rfl) dX4_execute_87 ⟨x2, x1, rfl, gx2, gx1, hF⟩ (fun M8 qM8 => ?_)
          have hF := qM8
          refine j_goto hJ 100 dX4_execute_90 (by decide) ?_
          refine j_iload_n hJ dX4_execute_100 rfl 1 rfl ?_
          refine j_iconst hJ dX4_execute_101 ?_
          refine j_iadd hJ dX4_execute_102 ?_
          have g9 := hF.1; have hF := hF.2
          exact j_iret hJ rfl g9 dX4_execute_103 hF
      · have hF := hF.2 z3
        refine j_aload_n hJ dX4_execute_70 rfl 0 rfl ?_
        refine j_iload_n hJ dX4_execute_71 rfl 2 rfl ?_
        refine j_callVv hJ (c_X4_doTwo (l := l) (D := D) (cy := cy) (ad := ad) hin) rfl om_382 ⟨rfl, rfl, Nat.le_of_ble_eq_true rfl, Nat.le_of_ble_eq_true rfl⟩ [.int (Ii x2)] mv_X4_128 hd_X4_doTwov kC_219 rfl rfl rfl (Nat.le_of_ble_eq_true rfl) dX4_execute_72 ⟨x2, rfl, gx2, hF⟩ (fun M11 qM11 => ?_)
        have hF := qM11
        refine j_goto hJ 100 dX4_execute_75 (by decide) ?_
        refine j_iload_n hJ dX4_execute_100 rfl 1 rfl ?_
        refine j_iconst hJ dX4_execute_101 ?_
        refine j_iadd hJ dX4_execute_102 ?_
        have g12 := hF.1; have hF := hF.2
        exact j_iret hJ rfl g12 dX4_execute_103 hF
    · have hF := hF.2 z2
      refine j_aload_n hJ dX4_execute_47 rfl 0 rfl ?_
      refine j_iload_n hJ dX4_execute_48 rfl 2 rfl ?_
      refine j_aload_n hJ dX4_execute_49 rfl 0 rfl ?_
      obtain ⟨c13, ec13, hc13, hF⟩ := hF
      refine j_gq hJ kC_219 fC_7_2 rfl fl_X4_75 dX4_execute_50 ec13 ?_
      refine j_gr (e := (c13 + 4)) hJ (kG_0 hc13) fC_9_4 fl_X4_121 dX4_execute_53 rfl ?_
      refine j_iload_n hJ dX4_execute_56 rfl 1 rfl ?_
      refine j_lald hJ gx1 (kG_4 hc13) hF.1 hF.2.1 dX4_execute_57 (fun v14 ev14 gv14 => ?_)
      have hF := hF.2.2 v14 ev14 gv14
      refine j_callVv hJ (c_X4_doOne (l := l) (D := D) (cy := cy) (ad := ad) hin) rfl om_399 ⟨rfl, rfl, Nat.le_of_ble_eq_true rfl, Nat.le_of_ble_eq_true rfl⟩ [.int (Ii x2), .long (Ll v14)] mv_X4_124 hd_X4_doOnev kC_219 rfl rfl rfl (Nat.le_of_ble_eq_true rfl) dX4_execute_58 ⟨x2, v14, rfl, gx2, gv14, hF⟩ (fun M16 qM16 => ?_)
      have hF := qM16
      refine j_goto hJ 100 dX4_execute_61 (by decide) ?_
      refine j_iload_n hJ dX4_execute_100 rfl 1 rfl ?_
      refine j_iconst hJ dX4_execute_101 ?_
      refine j_iadd hJ dX4_execute_102 ?_
      have g17 := hF.1; have hF := hF.2
      exact j_iret hJ rfl g17 dX4_execute_103 hF
  · have hF := hF.2 z1
    refine j_aload_n hJ dX4_execute_32 rfl 0 rfl ?_
    refine j_iload_n hJ dX4_execute_33 rfl 2 rfl ?_
    refine j_iload_n hJ dX4_execute_34 rfl 1 rfl ?_
    refine j_callVv hJ (c_X4_doLeaf (l := l) (D := D) (cy := cy) (ad := ad) hin) rfl om_407 ⟨rfl, rfl, Nat.le_of_ble_eq_true rfl, Nat.le_of_ble_eq_true rfl⟩ [.int (Ii x2), .int (Ii x1)] mv_X4_117 hd_X4_doLeafv kC_219 rfl rfl rfl (Nat.le_of_ble_eq_true rfl) dX4_execute_35 ⟨x2, x1, rfl, gx2, gx1, hF⟩ (fun M19 qM19 => ?_)
    have hF := qM19
    refine j_goto hJ 100 dX4_execute_38 (by decide) ?_
    refine j_iload_n hJ dX4_execute_100 rfl 1 rfl ?_
    refine j_iconst hJ dX4_execute_101 ?_
    refine j_iadd hJ dX4_execute_102 ?_
    have g20 := hF.1; have hF := hF.2
    exact j_iret hJ rfl g20 dX4_execute_103 hF
set_option maxHeartbeats 4000000 in
set_option maxRecDepth 100000 in
theorem c_X4_execute {l : Launch} {D : va_G} {cy : Nat → ClassId} {ad : Nat → Nat} (hin : jIn ad ksC.length) : jCN l D vwCl (tyC cy) cy ad ftC ksC (XtC ad) yX4_execute (.code yX4_execute cX4_execute 3 (some .int) :: Om) ({ frames := 4, cells := 0, slots := 0, locals := 100 } : Room) 1 (W_X4_execute ad) := by
  refine jCN_of (y := yX4_execute) (cc := cX4_execute) (nL := 3) (rk := 1) (rm := ({ frames := 4, cells := 0, slots := 0, locals := 100 } : Room)) (own := RX4) (tyC_ok cy) hin (XtC_ok ad) Om_good (by decide) rfl ?_
  intro Q av M hF
  obtain ⟨p1, rfl, gp1, hF⟩ := hF
  refine ⟨Nat.le_of_ble_eq_true rfl, fun J hJ => ?_⟩
  show J 0 [(0, .ref (ad 219)), (1, .int (Ii p1))] [] M
  unfold w_X4_execute at hF
  refine j_aload_n hJ dX4_execute_0 rfl 0 rfl ?_
  obtain ⟨c1, ec1, hc1, hF⟩ := hF
  refine j_gq hJ kC_219 fC_7_2 rfl fl_X4_75 dX4_execute_1 ec1 ?_
  refine j_gr (e := (c1 + 1)) hJ (kG_0 hc1) fC_9_1 fl_X4_114 dX4_execute_4 rfl ?_
  refine j_iload_n hJ dX4_execute_7 rfl 1 rfl ?_
  refine j_iald hJ gp1 (kG_1 hc1) hF.1 hF.2.1 dX4_execute_8 (fun v2 ev2 gv2 => ?_)
  have hF := hF.2.2 v2 ev2 gv2
  refine j_istore_n (lv' := [(2, .int (Ii v2)), (0, .ref (ad 219)), (1, .int (Ii p1))]) hJ dX4_execute_9 rfl (by decide) rfl ?_
  refine j_iload_n hJ dX4_execute_10 rfl 0 rfl ?_
  refine j_bipush hJ dX4_execute_11 (by decide) ?_
  refine j_icmp_ge hJ 26 gv2 rk_35 dX4_execute_13 (by decide) (fun z3 => ?_) (fun z3 => ?_)
  · have hF := hF.1 z3
    exact j_sub hJ [1, 2, 0] rfl (k_X4_execute_b26 hin  hJ  p1 v2 _ gp1 gv2 hF)
  · have hF := hF.2 z3
    refine j_aload_n hJ dX4_execute_16 rfl 1 rfl ?_
    refine j_dup hJ dX4_execute_17 rfl ?_
    refine j_gi hJ kC_219 fC_7_3 rfl fl_X4_83 dX4_execute_18 (fun v4 ev4 gv4 => ?_)
    have hF := hF v4 ev4 gv4
    refine j_iconst hJ dX4_execute_21 ?_
    refine j_iadd hJ dX4_execute_22 ?_
    have g5 := hF.1; have hF := hF.2
    refine j_pi hJ g5 kC_219 fC_7_3 rfl fp_X4_83 dX4_execute_23 (fun M6 eM6 => ?_)
    have hF := hF M6 eM6
    exact j_sub hJ [1, 2, 0] rfl (k_X4_execute_b26 hin  hJ  p1 v2 _ gp1 gv2 hF)
def W_X8_meeting (ad : Nat → Nat) (Q : Int → MM → Prop) (av : List Value) (M : MM) : Prop := ∃ (c : Nat) (p1 : Int) (p2 : Int), av = [.ref (ad c), .int (Ii p1), .int (Ii p2)] ∧ isS c ∧ ri_ p1 ∧ ri_ p2 ∧ w_X8_meeting c Q p1 p2 M
set_option maxHeartbeats 4000000 in
set_option maxRecDepth 100000 in
theorem k_X8_meeting_b46 {l : Launch} {D : va_G} {cy : Nat → ClassId} {ad : Nat → Nat} {Q : Int → MM → Prop} {J : Nat → List (Nat × Value) → List Value → MM → Prop} (hin : jIn ad ksC.length) {c : Nat} (hc : isS c) (hJ : jOk l D vwCl (tyC cy) cy ad ftC ksC (XtC ad) Om RX8 cX8_meeting 6 1 ({ frames := 0, cells := 0, slots := 0, locals := 0 } : Room) Q J) {K8 : Int → Int → Int → MM → Prop} (hK8 : ∀ (x3 x4 x5 : Int) (M : MM), ri_ x3 → ri_ x4 → ri_ x5 → K8 x3 x4 x5 M → J 8 [(0, .ref (ad c)), (3, .int (Ii x3)), (4, .int (Ii x4)), (5, .int (Ii x5))] [] M) : ∀ (x3 x4 x5 : Int) (M : MM), ri_ x3 → ri_ x4 → ri_ x5 → w_X8_meeting_b46 c Q K8 x3 x4 x5 M → J 46 [(0, .ref (ad c)), (3, .int (Ii x3)), (4, .int (Ii x4)), (5, .int (Ii x5))] [] M := by
  intro x3 x4 x5 M gx3 gx4 gx5 hF
  unfold w_X8_meeting_b46 at hF
  refine j_iinc (lv' := [(5, .int (Ii (x5 + 1))), (0, .ref (ad c)), (3, .int (Ii x3)), (4, .int (Ii x4))]) (k := 3) hJ dX8_meeting_46 rfl (by decide) rfl ?_
  have g1 := hF.1; have hF := hF.2
  refine j_goto hJ 8 dX8_meeting_49 (by decide) ?_
  exact j_sub hJ [1, 2, 3, 0] rfl (hK8 x3 x4 (x5 + 1) _ gx3 gx4 g1 hF)
set_option maxHeartbeats 4000000 in
set_option maxRecDepth 100000 in
theorem k_X8_meeting_b8 {l : Launch} {D : va_G} {cy : Nat → ClassId} {ad : Nat → Nat} {Q : Int → MM → Prop} {J : Nat → List (Nat × Value) → List Value → MM → Prop} (hin : jIn ad ksC.length) {c : Nat} (hc : isS c) (hJ : jOk l D vwCl (tyC cy) cy ad ftC ksC (XtC ad) Om RX8 cX8_meeting 6 1 ({ frames := 0, cells := 0, slots := 0, locals := 0 } : Room) Q J)  : ∀ (x3 x4 x5 : Int) (M : MM), ri_ x3 → ri_ x4 → ri_ x5 → w_X8_meeting_b8 c Q  x3 x4 x5 M → J 8 [(0, .ref (ad c)), (3, .int (Ii x3)), (4, .int (Ii x4)), (5, .int (Ii x5))] [] M := by
  have H9 : ∀ (n : Nat) (x3 x4 x5 : Int) (M : MM), ri_ x3 → ri_ x4 → ri_ x5 → jit (fun _ _ _ _ => False) (wb_X8_meeting_b8 c Q ) n x3 x4 x5 M → J 8 [(0, .ref (ad c)), (3, .int (Ii x3)), (4, .int (Ii x4)), (5, .int (Ii x5))] [] M := by
    intro n
    induction n with
    | zero => intro x3 x4 x5 M gx3 gx4 gx5 hF; exact False.elim hF
    | succ n ih =>
    intro x3 x4 x5 M gx3 gx4 gx5 hF
    have hF : wb_X8_meeting_b8 c Q  (jit (fun _ _ _ _ => False) (wb_X8_meeting_b8 c Q ) n) x3 x4 x5 M := hF
    unfold wb_X8_meeting_b8 at hF
    refine j_iload hJ dX8_meeting_8 3 rfl ?_
    refine j_ldc hJ 1000000 om_416 (by decide) dX8_meeting_10 ?_
    refine j_icmp_ge hJ 52 gx5 rk_1000000 dX8_meeting_12 (by decide) (fun z1 => ?_) (fun z1 => ?_)
    · have hF := hF.1 z1
      refine j_iload_n hJ dX8_meeting_52 rfl 1 rfl ?_
      exact j_iret hJ rfl gx3 dX8_meeting_53 hF
    · have hF := hF.2 z1
      refine j_iload_n hJ dX8_meeting_15 rfl 1 rfl ?_
      refine j_iload hJ dX8_meeting_16 2 rfl ?_
      refine j_icmp_eq hJ 52 gx3 gx4 dX8_meeting_18 (by decide) (fun z2 => ?_) (fun z2 => ?_)
      · have hF := hF.1 z2
        refine j_iload_n hJ dX8_meeting_52 rfl 1 rfl ?_
        exact j_iret hJ rfl gx3 dX8_meeting_53 hF
      · have hF := hF.2 z2
        refine j_iload_n hJ dX8_meeting_21 rfl 1 rfl ?_
        refine j_iload hJ dX8_meeting_22 2 rfl ?_
        refine j_icmp_le hJ 37 gx3 gx4 dX8_meeting_24 (by decide) (fun z3 => ?_) (fun z3 => ?_)
        · have hF := hF.1 z3
          refine j_aload_n hJ dX8_meeting_37 rfl 0 rfl ?_
          refine j_gr (e := (c + 4)) hJ (kS_0 hc) fC_11_5 fl_X8_27 dX8_meeting_38 rfl ?_
          refine j_iload hJ dX8_meeting_41 2 rfl ?_
          refine j_iald hJ gx4 (kS_4 hc) hF.1 hF.2.1 dX8_meeting_43 (fun v4 ev4 gv4 => ?_)
          have hF := hF.2.2 v4 ev4 gv4
          refine j_istore (lv' := [(4, .int (Ii v4)), (0, .ref (ad c)), (3, .int (Ii x3)), (5, .int (Ii x5))]) hJ dX8_meeting_44 (by decide) rfl ?_
          exact j_sub hJ [1, 2, 0, 3] rfl (k_X8_meeting_b46 hin hc hJ ih x3 v4 x5 _ gx3 gv4 gx5 hF)
        · have hF := hF.2 z3
          refine j_aload_n hJ dX8_meeting_27 rfl 0 rfl ?_
          refine j_gr (e := (c + 4)) hJ (kS_0 hc) fC_11_5 fl_X8_27 dX8_meeting_28 rfl ?_
          refine j_iload_n hJ dX8_meeting_31 rfl 1 rfl ?_
          refine j_iald hJ gx3 (kS_4 hc) hF.1 hF.2.1 dX8_meeting_32 (fun v5 ev5 gv5 => ?_)
          have hF := hF.2.2 v5 ev5 gv5
          refine j_istore_n (lv' := [(3, .int (Ii v5)), (0, .ref (ad c)), (4, .int (Ii x4)), (5, .int (Ii x5))]) hJ dX8_meeting_33 rfl (by decide) rfl ?_
          refine j_goto hJ 46 dX8_meeting_34 (by decide) ?_
          exact j_sub hJ [1, 0, 2, 3] rfl (k_X8_meeting_b46 hin hc hJ ih v5 x4 x5 _ gv5 gx4 gx5 hF)
  intro x3 x4 x5 M gx3 gx4 gx5 hF
  obtain ⟨n, hF⟩ := hF
  exact H9 n x3 x4 x5 M gx3 gx4 gx5 hF
set_option maxHeartbeats 4000000 in
set_option maxRecDepth 100000 in
theorem c_X8_meeting {l : Launch} {D : va_G} {cy : Nat → ClassId} {ad : Nat → Nat} (hin : jIn ad ksC.length) : jCN l D vwCl (tyC cy) cy ad ftC ksC (XtC ad) yX8_meeting (.code yX8_meeting cX8_meeting 6 (some .int) :: Om) ({ frames := 0, cells := 0, slots := 0, locals := 0 } : Room) 1 (W_X8_meeting ad) := by
  refine jCN_of (y := yX8_meeting) (cc := cX8_meeting) (nL := 6) (rk := 1) (rm := ({ frames := 0, cells := 0, slots := 0, locals := 0 } : Room)) (own := RX8) (tyC_ok cy) hin (XtC_ok ad) Om_good (by decide) rfl ?_
  intro Q av M hF
  obtain ⟨c, p1, p2, rfl, hc, gp1, gp2, hF⟩ := hF
  refine ⟨Nat.le_of_ble_eq_true rfl, fun J hJ => ?_⟩
  show J 0 [(0, .ref (ad c)), (1, .int (Ii p1)), (2, .int (Ii p2))] [] M
  unfold w_X8_meeting at hF
  refine j_iload_n hJ dX8_meeting_0 rfl 1 rfl ?_
  refine j_istore_n (lv' := [(3, .int (Ii p1)), (0, .ref (ad c)), (1, .int (Ii p1)), (2, .int (Ii p2))]) hJ dX8_meeting_1 rfl (by decide) rfl ?_
  refine j_iload_n hJ dX8_meeting_2 rfl 3 rfl ?_
  refine j_istore (lv' := [(4, .int (Ii p2)), (3, .int (Ii p1)), (0, .ref (ad c)), (1, .int (Ii p1)), (2, .int (Ii p2))]) hJ dX8_meeting_3 (by decide) rfl ?_
  refine j_iconst hJ dX8_meeting_5 ?_
  refine j_istore (lv' := [(5, .int (Ii 0)), (4, .int (Ii p2)), (3, .int (Ii p1)), (0, .ref (ad c)), (1, .int (Ii p1)), (2, .int (Ii p2))]) hJ dX8_meeting_6 (by decide) rfl ?_
  exact j_sub hJ [3, 2, 1, 0] rfl (k_X8_meeting_b8 hin hc hJ  p1 p2 0 _ gp1 gp2 rk_0 hF)
def W_X8_commonDominator (ad : Nat → Nat) (Q : Int → MM → Prop) (av : List Value) (M : MM) : Prop := ∃ (c : Nat) (p1 : Int), av = [.ref (ad c), .int (Ii p1)] ∧ isS c ∧ ri_ p1 ∧ w_X8_commonDominator c Q p1 M
set_option maxHeartbeats 4000000 in
set_option maxRecDepth 100000 in
theorem k_X8_commonDominator_b76 {l : Launch} {D : va_G} {cy : Nat → ClassId} {ad : Nat → Nat} {Q : Int → MM → Prop} {J : Nat → List (Nat × Value) → List Value → MM → Prop} (hin : jIn ad ksC.length) {c : Nat} (hc : isS c) (hJ : jOk l D vwCl (tyC cy) cy ad ftC ksC (XtC ad) Om RX8 cX8_commonDominator 5 1 ({ frames := 1, cells := 0, slots := 0, locals := 25 } : Room) Q J) {K10 : Int → Int → Int → MM → Prop} (hK10 : ∀ (x1 x2 x3 : Int) (M : MM), ri_ x1 → ri_ x2 → ri_ x3 → K10 x1 x2 x3 M → J 10 [(0, .ref (ad c)), (1, .int (Ii x1)), (2, .int (Ii x2)), (3, .int (Ii x3))] [] M) : ∀ (x1 x2 x3 : Int) (M : MM), ri_ x1 → ri_ x2 → ri_ x3 → w_X8_commonDominator_b76 c Q K10 x1 x2 x3 M → J 76 [(0, .ref (ad c)), (1, .int (Ii x1)), (2, .int (Ii x2)), (3, .int (Ii x3))] [] M := by
  intro x1 x2 x3 M gx1 gx2 gx3 hF
  unfold w_X8_commonDominator_b76 at hF
  refine j_iinc (lv' := [(3, .int (Ii (x3 + 1))), (0, .ref (ad c)), (1, .int (Ii x1)), (2, .int (Ii x2))]) (k := 3) hJ dX8_commonDominator_76 rfl (by decide) rfl ?_
  have g1 := hF.1; have hF := hF.2
  refine j_goto hJ 10 dX8_commonDominator_79 (by decide) ?_
  exact j_sub hJ [1, 2, 3, 0] rfl (hK10 x1 x2 (x3 + 1) _ gx1 gx2 g1 hF)
set_option maxHeartbeats 4000000 in
set_option maxRecDepth 100000 in
theorem k_X8_commonDominator_b75 {l : Launch} {D : va_G} {cy : Nat → ClassId} {ad : Nat → Nat} {Q : Int → MM → Prop} {J : Nat → List (Nat × Value) → List Value → MM → Prop} (hin : jIn ad ksC.length) {c : Nat} (hc : isS c) (hJ : jOk l D vwCl (tyC cy) cy ad ftC ksC (XtC ad) Om RX8 cX8_commonDominator 5 1 ({ frames := 1, cells := 0, slots := 0, locals := 25 } : Room) Q J) {K10 : Int → Int → Int → MM → Prop} (hK10 : ∀ (x1 x2 x3 : Int) (M : MM), ri_ x1 → ri_ x2 → ri_ x3 → K10 x1 x2 x3 M → J 10 [(0, .ref (ad c)), (1, .int (Ii x1)), (2, .int (Ii x2)), (3, .int (Ii x3))] [] M) : ∀ (x1 x3 s0 : Int) (M : MM), ri_ x1 → ri_ x3 → ri_ s0 → w_X8_commonDominator_b75 c Q K10 x1 x3 s0 M → J 75 [(0, .ref (ad c)), (1, .int (Ii x1)), (3, .int (Ii x3))] [.int (Ii s0)] M := by
  intro x1 x3 s0 M gx1 gx3 gs0 hF
  unfold w_X8_commonDominator_b75 at hF
  refine j_istore_n (lv' := [(2, .int (Ii s0)), (0, .ref (ad c)), (1, .int (Ii x1)), (3, .int (Ii x3))]) hJ dX8_commonDominator_75 rfl (by decide) rfl ?_
  exact j_sub hJ [1, 2, 0, 3] rfl (k_X8_commonDominator_b76 hin hc hJ hK10 x1 s0 x3 _ gx1 gs0 gx3 hF)
set_option maxHeartbeats 4000000 in
set_option maxRecDepth 100000 in
theorem k_X8_commonDominator_b57 {l : Launch} {D : va_G} {cy : Nat → ClassId} {ad : Nat → Nat} {Q : Int → MM → Prop} {J : Nat → List (Nat × Value) → List Value → MM → Prop} (hin : jIn ad ksC.length) {c : Nat} (hc : isS c) (hJ : jOk l D vwCl (tyC cy) cy ad ftC ksC (XtC ad) Om RX8 cX8_commonDominator 5 1 ({ frames := 1, cells := 0, slots := 0, locals := 25 } : Room) Q J) {K10 : Int → Int → Int → MM → Prop} (hK10 : ∀ (x1 x2 x3 : Int) (M : MM), ri_ x1 → ri_ x2 → ri_ x3 → K10 x1 x2 x3 M → J 10 [(0, .ref (ad c)), (1, .int (Ii x1)), (2, .int (Ii x2)), (3, .int (Ii x3))] [] M) : ∀ (x1 x2 x3 x4 : Int) (M : MM), ri_ x1 → ri_ x2 → ri_ x3 → ri_ x4 → w_X8_commonDominator_b57 c Q K10 x1 x2 x3 x4 M → J 57 [(0, .ref (ad c)), (1, .int (Ii x1)), (2, .int (Ii x2)), (3, .int (Ii x3)), (4, .int (Ii x4))] [] M := by
  intro x1 x2 x3 x4 M gx1 gx2 gx3 gx4 hF
  unfold w_X8_commonDominator_b57 at hF
  refine j_iload_n hJ dX8_commonDominator_57 rfl 2 rfl ?_
  refine j_bipush hJ dX8_commonDominator_58 (by decide) ?_
  refine j_icmp_ne hJ 68 gx2 rk_m2 dX8_commonDominator_60 (by decide) (fun z1 => ?_) (fun z1 => ?_)
  · have hF := hF.1 z1
    refine j_aload_n hJ dX8_commonDominator_68 rfl 0 rfl ?_
    refine j_iload_n hJ dX8_commonDominator_69 rfl 2 rfl ?_
    refine j_iload hJ dX8_commonDominator_70 4 rfl ?_
    refine j_callVi hJ (c_X8_meeting (l := l) (D := D) (cy := cy) (ad := ad) hin) rfl om_418 ⟨rfl, rfl, Nat.le_of_ble_eq_true rfl, Nat.le_of_ble_eq_true rfl⟩ [.int (Ii x2), .int (Ii x4)] mv_X8_116 hd_X8_meetingv (kS_0 hc) rfl rfl rfl (Nat.le_of_ble_eq_true rfl) dX8_commonDominator_72 ⟨c, x2, x4, rfl, hc, gx2, gx4, hF⟩ (fun r2 M3 gr2 qM3 => ?_)
    have hF := qM3 gr2
    exact j_sub hJ [0, 1, 3] rfl (k_X8_commonDominator_b75 hin hc hJ hK10 x1 x3 r2 _ gx1 gx3 gr2 hF)
  · have hF := hF.2 z1
    refine j_iload hJ dX8_commonDominator_63 4 rfl ?_
    refine j_goto hJ 75 dX8_commonDominator_65 (by decide) ?_
    exact j_sub hJ [0, 1, 3] rfl (k_X8_commonDominator_b75 hin hc hJ hK10 x1 x3 x4 _ gx1 gx3 gx4 hF)
set_option maxHeartbeats 4000000 in
set_option maxRecDepth 100000 in
theorem k_X8_commonDominator_b10 {l : Launch} {D : va_G} {cy : Nat → ClassId} {ad : Nat → Nat} {Q : Int → MM → Prop} {J : Nat → List (Nat × Value) → List Value → MM → Prop} (hin : jIn ad ksC.length) {c : Nat} (hc : isS c) (hJ : jOk l D vwCl (tyC cy) cy ad ftC ksC (XtC ad) Om RX8 cX8_commonDominator 5 1 ({ frames := 1, cells := 0, slots := 0, locals := 25 } : Room) Q J)  : ∀ (x1 x2 x3 : Int) (M : MM), ri_ x1 → ri_ x2 → ri_ x3 → w_X8_commonDominator_b10 c Q  x1 x2 x3 M → J 10 [(0, .ref (ad c)), (1, .int (Ii x1)), (2, .int (Ii x2)), (3, .int (Ii x3))] [] M := by
  have H9 : ∀ (n : Nat) (x1 x2 x3 : Int) (M : MM), ri_ x1 → ri_ x2 → ri_ x3 → jit (fun _ _ _ _ => False) (wb_X8_commonDominator_b10 c Q ) n x1 x2 x3 M → J 10 [(0, .ref (ad c)), (1, .int (Ii x1)), (2, .int (Ii x2)), (3, .int (Ii x3))] [] M := by
    intro n
    induction n with
    | zero => intro x1 x2 x3 M gx1 gx2 gx3 hF; exact False.elim hF
    | succ n ih =>
    intro x1 x2 x3 M gx1 gx2 gx3 hF
    have hF : wb_X8_commonDominator_b10 c Q  (jit (fun _ _ _ _ => False) (wb_X8_commonDominator_b10 c Q ) n) x1 x2 x3 M := hF
    unfold wb_X8_commonDominator_b10 at hF
    refine j_iload_n hJ dX8_commonDominator_10 rfl 3 rfl ?_
    refine j_aload_n hJ dX8_commonDominator_11 rfl 0 rfl ?_
    refine j_gr (e := (c + 1)) hJ (kS_0 hc) fC_11_2 fl_X8_17 dX8_commonDominator_12 rfl ?_
    refine j_iload_n hJ dX8_commonDominator_15 rfl 1 rfl ?_
    refine j_iconst hJ dX8_commonDominator_16 ?_
    refine j_iadd hJ dX8_commonDominator_17 ?_
    have g1 := hF.1; have hF := hF.2
    refine j_iald hJ g1 (kS_1 hc) hF.1 hF.2.1 dX8_commonDominator_18 (fun v2 ev2 gv2 => ?_)
    have hF := hF.2.2 v2 ev2 gv2
    refine j_icmp_ge hJ 82 gx3 gv2 dX8_commonDominator_19 (by decide) (fun z3 => ?_) (fun z3 => ?_)
    · have hF := hF.1 z3
      refine j_iload_n hJ dX8_commonDominator_82 rfl 2 rfl ?_
      exact j_iret hJ rfl gx2 dX8_commonDominator_83 hF
    · have hF := hF.2 z3
      refine j_aload_n hJ dX8_commonDominator_22 rfl 0 rfl ?_
      refine j_gr (e := (c + 2)) hJ (kS_0 hc) fC_11_3 fl_X8_21 dX8_commonDominator_23 rfl ?_
      refine j_iload_n hJ dX8_commonDominator_26 rfl 3 rfl ?_
      refine j_iald hJ gx3 (kS_2 hc) hF.1 hF.2.1 dX8_commonDominator_27 (fun v4 ev4 gv4 => ?_)
      have hF := hF.2.2 v4 ev4 gv4
      refine j_istore (lv' := [(4, .int (Ii v4)), (0, .ref (ad c)), (1, .int (Ii x1)), (2, .int (Ii x2)), (3, .int (Ii x3))]) hJ dX8_commonDominator_28 (by decide) rfl ?_
      refine j_iload hJ dX8_commonDominator_30 0 rfl ?_
      refine j_iload_n hJ dX8_commonDominator_32 rfl 2 rfl ?_
      refine j_icmp_eq hJ 76 gv4 gx1 dX8_commonDominator_33 (by decide) (fun z5 => ?_) (fun z5 => ?_)
      · have hF := hF.1 z5
        exact j_sub hJ [1, 2, 3, 4] rfl (k_X8_commonDominator_b76 hin hc hJ ih x1 x2 x3 _ gx1 gx2 gx3 hF)
      · have hF := hF.2 z5
        refine j_iload hJ dX8_commonDominator_36 0 rfl ?_
        refine j_iconst hJ dX8_commonDominator_38 ?_
        refine j_icmp_eq hJ 57 gv4 rk_m1 dX8_commonDominator_39 (by decide) (fun z6 => ?_) (fun z6 => ?_)
        · have hF := hF.1 z6
          exact j_sub hJ [1, 2, 3, 4, 0] rfl (k_X8_commonDominator_b57 hin hc hJ ih x1 x2 x3 v4 _ gx1 gx2 gx3 gv4 hF)
        · have hF := hF.2 z6
          refine j_aload_n hJ dX8_commonDominator_42 rfl 1 rfl ?_
          refine j_gr (e := (c + 4)) hJ (kS_0 hc) fC_11_5 fl_X8_27 dX8_commonDominator_43 rfl ?_
          refine j_iload hJ dX8_commonDominator_46 0 rfl ?_
          refine j_iald hJ gv4 (kS_4 hc) hF.1 hF.2.1 dX8_commonDominator_48 (fun v7 ev7 gv7 => ?_)
          have hF := hF.2.2 v7 ev7 gv7
          refine j_bipush hJ dX8_commonDominator_49 (by decide) ?_
          refine j_icmp_ne hJ 57 gv7 rk_m2 dX8_commonDominator_51 (by decide) (fun z8 => ?_) (fun z8 => ?_)
          · have hF := hF.1 z8
            exact j_sub hJ [1, 2, 3, 4, 0] rfl (k_X8_commonDominator_b57 hin hc hJ ih x1 x2 x3 v4 _ gx1 gx2 gx3 gv4 hF)
          · have hF := hF.2 z8
            refine j_goto hJ 76 dX8_commonDominator_54 (by decide) ?_
            exact j_sub hJ [1, 2, 3, 4] rfl (k_X8_commonDominator_b76 hin hc hJ ih x1 x2 x3 _ gx1 gx2 gx3 hF)
  intro x1 x2 x3 M gx1 gx2 gx3 hF
  obtain ⟨n, hF⟩ := hF
  exact H9 n x1 x2 x3 M gx1 gx2 gx3 hF
set_option maxHeartbeats 4000000 in
set_option maxRecDepth 100000 in
theorem c_X8_commonDominator {l : Launch} {D : va_G} {cy : Nat → ClassId} {ad : Nat → Nat} (hin : jIn ad ksC.length) : jCN l D vwCl (tyC cy) cy ad ftC ksC (XtC ad) yX8_commonDominator (.code yX8_commonDominator cX8_commonDominator 5 (some .int) :: Om) ({ frames := 1, cells := 0, slots := 0, locals := 25 } : Room) 1 (W_X8_commonDominator ad) := by
  refine jCN_of (y := yX8_commonDominator) (cc := cX8_commonDominator) (nL := 5) (rk := 1) (rm := ({ frames := 1, cells := 0, slots := 0, locals := 25 } : Room)) (own := RX8) (tyC_ok cy) hin (XtC_ok ad) Om_good (by decide) rfl ?_
  intro Q av M hF
  obtain ⟨c, p1, rfl, hc, gp1, hF⟩ := hF
  refine ⟨Nat.le_of_ble_eq_true rfl, fun J hJ => ?_⟩
  show J 0 [(0, .ref (ad c)), (1, .int (Ii p1))] [] M
  unfold w_X8_commonDominator at hF
  refine j_bipush hJ dX8_commonDominator_0 (by decide) ?_
  refine j_istore_n (lv' := [(2, .int (Ii (-2))), (0, .ref (ad c)), (1, .int (Ii p1))]) hJ dX8_commonDominator_2 rfl (by decide) rfl ?_
  refine j_aload_n hJ dX8_commonDominator_3 rfl 1 rfl ?_
  refine j_gr (e := (c + 1)) hJ (kS_0 hc) fC_11_2 fl_X8_17 dX8_commonDominator_4 rfl ?_
  refine j_iload_n hJ dX8_commonDominator_7 rfl 2 rfl ?_
  refine j_iald hJ gp1 (kS_1 hc) hF.1 hF.2.1 dX8_commonDominator_8 (fun v1 ev1 gv1 => ?_)
  have hF := hF.2.2 v1 ev1 gv1
  refine j_istore_n (lv' := [(3, .int (Ii v1)), (2, .int (Ii (-2))), (0, .ref (ad c)), (1, .int (Ii p1))]) hJ dX8_commonDominator_9 rfl (by decide) rfl ?_
  exact j_sub hJ [2, 3, 1, 0] rfl (k_X8_commonDominator_b10 hin hc hJ  p1 (-2) v1 _ gp1 rk_m2 gv1 hF)
def W_X8_needDominators (ad : Nat → Nat) (Q : Int → MM → Prop) (av : List Value) (M : MM) : Prop := ∃ (c : Nat) (p1 : Nat), av = [.ref (ad c), .ref (ad p1)] ∧ isS c ∧ isP p1 ∧ w_X8_needDominators c p1 Q  M
set_option maxHeartbeats 4000000 in
set_option maxRecDepth 100000 in
theorem k_X8_needDominators_b213 {l : Launch} {D : va_G} {cy : Nat → ClassId} {ad : Nat → Nat} {Q : Int → MM → Prop} {J : Nat → List (Nat × Value) → List Value → MM → Prop} (hin : jIn ad ksC.length) {c p1 : Nat} (hc : isS c) (hp1 : isP p1) (hJ : jOk l D vwCl (tyC cy) cy ad ftC ksC (XtC ad) Om RX8 cX8_needDominators 6 0 ({ frames := 2, cells := 0, slots := 0, locals := 49 } : Room) Q J) {K160 : Int → MM → Prop} (hK160 : ∀ (x3 : Int) (M : MM), ri_ x3 → K160 x3 M → J 160 [(0, .ref (ad c)), (3, .int (Ii x3))] [] M) : ∀ (x3 : Int) (M : MM), ri_ x3 → w_X8_needDominators_b213 c p1 Q K160 x3 M → J 213 [(0, .ref (ad c)), (3, .int (Ii x3))] [] M := by
  intro x3 M gx3 hF
  unfold w_X8_needDominators_b213 at hF
  refine j_iinc (lv' := [(3, .int (Ii (x3 + (-1)))), (0, .ref (ad c))]) (k := 1) hJ dX8_needDominators_213 rfl (by decide) rfl ?_
  have g1 := hF.1; have hF := hF.2
  refine j_goto hJ 160 dX8_needDominators_216 (by decide) ?_
  exact j_sub hJ [1, 0] rfl (hK160 (x3 + (-1)) _ g1 hF)
set_option maxHeartbeats 4000000 in
set_option maxRecDepth 100000 in
theorem k_X8_needDominators_b160 {l : Launch} {D : va_G} {cy : Nat → ClassId} {ad : Nat → Nat} {Q : Int → MM → Prop} {J : Nat → List (Nat × Value) → List Value → MM → Prop} (hin : jIn ad ksC.length) {c p1 : Nat} (hc : isS c) (hp1 : isP p1) (hJ : jOk l D vwCl (tyC cy) cy ad ftC ksC (XtC ad) Om RX8 cX8_needDominators 6 0 ({ frames := 2, cells := 0, slots := 0, locals := 49 } : Room) Q J)  : ∀ (x3 : Int) (M : MM), ri_ x3 → w_X8_needDominators_b160 c p1 Q  x3 M → J 160 [(0, .ref (ad c)), (3, .int (Ii x3))] [] M := by
  have H9 : ∀ (n : Nat) (x3 : Int) (M : MM), ri_ x3 → jit (fun _ _ => False) (wb_X8_needDominators_b160 c p1 Q ) n x3 M → J 160 [(0, .ref (ad c)), (3, .int (Ii x3))] [] M := by
    intro n
    induction n with
    | zero => intro x3 M gx3 hF; exact False.elim hF
    | succ n ih =>
    intro x3 M gx3 hF
    have hF : wb_X8_needDominators_b160 c p1 Q  (jit (fun _ _ => False) (wb_X8_needDominators_b160 c p1 Q ) n) x3 M := hF
    unfold wb_X8_needDominators_b160 at hF
    refine j_iload_n hJ dX8_needDominators_160 rfl 1 rfl ?_
    refine j_if_lt hJ 219 gx3 dX8_needDominators_161 (by decide) (fun z1 => ?_) (fun z1 => ?_)
    · have hF := hF.1 z1
      exact j_vret hJ rfl dX8_needDominators_219 hF
    · have hF := hF.2 z1
      refine j_aload_n hJ dX8_needDominators_164 rfl 0 rfl ?_
      refine j_gr (e := (c + 4)) hJ (kS_0 hc) fC_11_5 fl_X8_27 dX8_needDominators_165 rfl ?_
      refine j_iload_n hJ dX8_needDominators_168 rfl 1 rfl ?_
      refine j_iald hJ gx3 (kS_4 hc) hF.1 hF.2.1 dX8_needDominators_169 (fun v2 ev2 gv2 => ?_)
      have hF := hF.2.2 v2 ev2 gv2
      refine j_if_lt hJ 213 gv2 dX8_needDominators_170 (by decide) (fun z3 => ?_) (fun z3 => ?_)
      · have hF := hF.1 z3
        exact j_sub hJ [0, 1] rfl (k_X8_needDominators_b213 hin hc hp1 hJ ih x3 _ gx3 hF)
      · have hF := hF.2 z3
        refine j_aload_n hJ dX8_needDominators_173 rfl 0 rfl ?_
        refine j_gr (e := (c + 5)) hJ (kS_0 hc) fC_11_6 fl_X8_30 dX8_needDominators_174 rfl ?_
        refine j_aload_n hJ dX8_needDominators_177 rfl 0 rfl ?_
        refine j_gr (e := (c + 4)) hJ (kS_0 hc) fC_11_5 fl_X8_27 dX8_needDominators_178 rfl ?_
        refine j_iload_n hJ dX8_needDominators_181 rfl 1 rfl ?_
        refine j_iald hJ gx3 (kS_4 hc) hF.1 hF.2.1 dX8_needDominators_182 (fun v4 ev4 gv4 => ?_)
        have hF := hF.2.2 v4 ev4 gv4
        refine j_dup2_11 hJ dX8_needDominators_183 rfl rfl ?_
        refine j_iald hJ gv4 (kS_5 hc) hF.1 hF.2.1 dX8_needDominators_184 (fun v5 ev5 gv5 => ?_)
        have hF := hF.2.2 v5 ev5 gv5
        refine j_aload_n hJ dX8_needDominators_185 rfl 0 rfl ?_
        refine j_gr (e := (c + 5)) hJ (kS_0 hc) fC_11_6 fl_X8_30 dX8_needDominators_186 rfl ?_
        refine j_iload_n hJ dX8_needDominators_189 rfl 1 rfl ?_
        refine j_iald hJ gx3 (kS_5 hc) hF.1 hF.2.1 dX8_needDominators_190 (fun v6 ev6 gv6 => ?_)
        have hF := hF.2.2 v6 ev6 gv6
        refine j_iadd hJ dX8_needDominators_191 ?_
        have g7 := hF.1; have hF := hF.2
        refine j_iast hJ gv4 g7 (kS_5 hc) hF.1 hF.2.1 dX8_needDominators_192 (fun M8 eM8 => ?_)
        have hF := hF.2.2 M8 eM8
        refine j_aload_n hJ dX8_needDominators_193 rfl 0 rfl ?_
        refine j_gr (e := (c + 6)) hJ (kS_0 hc) fC_11_7 fl_X8_33 dX8_needDominators_194 rfl ?_
        refine j_aload_n hJ dX8_needDominators_197 rfl 0 rfl ?_
        refine j_gr (e := (c + 4)) hJ (kS_0 hc) fC_11_5 fl_X8_27 dX8_needDominators_198 rfl ?_
        refine j_iload_n hJ dX8_needDominators_201 rfl 1 rfl ?_
        refine j_iald hJ gx3 (kS_4 hc) hF.1 hF.2.1 dX8_needDominators_202 (fun v9 ev9 gv9 => ?_)
        have hF := hF.2.2 v9 ev9 gv9
        refine j_dup2_11 hJ dX8_needDominators_203 rfl rfl ?_
        refine j_iald hJ gv9 (kS_6 hc) hF.1 hF.2.1 dX8_needDominators_204 (fun v10 ev10 gv10 => ?_)
        have hF := hF.2.2 v10 ev10 gv10
        refine j_aload_n hJ dX8_needDominators_205 rfl 0 rfl ?_
        refine j_gr (e := (c + 6)) hJ (kS_0 hc) fC_11_7 fl_X8_33 dX8_needDominators_206 rfl ?_
        refine j_iload_n hJ dX8_needDominators_209 rfl 1 rfl ?_
        refine j_iald hJ gx3 (kS_6 hc) hF.1 hF.2.1 dX8_needDominators_210 (fun v11 ev11 gv11 => ?_)
        have hF := hF.2.2 v11 ev11 gv11
        refine j_iadd hJ dX8_needDominators_211 ?_
        have g12 := hF.1; have hF := hF.2
        refine j_iast hJ gv9 g12 (kS_6 hc) hF.1 hF.2.1 dX8_needDominators_212 (fun M13 eM13 => ?_)
        have hF := hF.2.2 M13 eM13
        exact j_sub hJ [0, 1] rfl (k_X8_needDominators_b213 hin hc hp1 hJ ih x3 _ gx3 hF)
  intro x3 M gx3 hF
  obtain ⟨n, hF⟩ := hF
  exact H9 n x3 M gx3 hF
set_option maxHeartbeats 4000000 in
set_option maxRecDepth 100000 in
theorem k_X8_needDominators_b107 {l : Launch} {D : va_G} {cy : Nat → ClassId} {ad : Nat → Nat} {Q : Int → MM → Prop} {J : Nat → List (Nat × Value) → List Value → MM → Prop} (hin : jIn ad ksC.length) {c p1 : Nat} (hc : isS c) (hp1 : isP p1) (hJ : jOk l D vwCl (tyC cy) cy ad ftC ksC (XtC ad) Om RX8 cX8_needDominators 6 0 ({ frames := 2, cells := 0, slots := 0, locals := 49 } : Room) Q J)  : ∀ (x3 : Int) (M : MM), ri_ x3 → w_X8_needDominators_b107 c p1 Q  x3 M → J 107 [(0, .ref (ad c)), (1, .ref (ad p1)), (3, .int (Ii x3))] [] M := by
  have H9 : ∀ (n : Nat) (x3 : Int) (M : MM), ri_ x3 → jit (fun _ _ => False) (wb_X8_needDominators_b107 c p1 Q ) n x3 M → J 107 [(0, .ref (ad c)), (1, .ref (ad p1)), (3, .int (Ii x3))] [] M := by
    intro n
    induction n with
    | zero => intro x3 M gx3 hF; exact False.elim hF
    | succ n ih =>
    intro x3 M gx3 hF
    have hF : wb_X8_needDominators_b107 c p1 Q  (jit (fun _ _ => False) (wb_X8_needDominators_b107 c p1 Q ) n) x3 M := hF
    unfold wb_X8_needDominators_b107 at hF
    refine j_iload_n hJ dX8_needDominators_107 rfl 2 rfl ?_
    refine j_aload_n hJ dX8_needDominators_108 rfl 1 rfl ?_
    refine j_gi hJ (kP_0 hp1) fC_8_0 rfl fl_X8_64 dX8_needDominators_109 (fun v1 ev1 gv1 => ?_)
    have hF := hF v1 ev1 gv1
    refine j_icmp_ge hJ 153 gx3 gv1 dX8_needDominators_112 (by decide) (fun z2 => ?_) (fun z2 => ?_)
    · have hF := hF.1 z2
      refine j_aload_n hJ dX8_needDominators_153 rfl 1 rfl ?_
      refine j_gi hJ (kP_0 hp1) fC_8_0 rfl fl_X8_64 dX8_needDominators_154 (fun v3 ev3 gv3 => ?_)
      have hF := hF v3 ev3 gv3
      refine j_iconst hJ dX8_needDominators_157 ?_
      refine j_isub hJ dX8_needDominators_158 ?_
      have g4 := hF.1; have hF := hF.2
      refine j_istore_n (lv' := [(3, .int (Ii (v3 - 1))), (0, .ref (ad c)), (1, .ref (ad p1))]) hJ dX8_needDominators_159 rfl (by decide) rfl ?_
      exact j_sub hJ [1, 0] rfl (k_X8_needDominators_b160 hin hc hp1 hJ  (v3 - 1) _ g4 hF)
    · have hF := hF.2 z2
      refine j_aload_n hJ dX8_needDominators_115 rfl 0 rfl ?_
      refine j_gr (e := (c + 5)) hJ (kS_0 hc) fC_11_6 fl_X8_30 dX8_needDominators_116 rfl ?_
      refine j_iload_n hJ dX8_needDominators_119 rfl 2 rfl ?_
      refine j_aload_n hJ dX8_needDominators_120 rfl 0 rfl ?_
      refine j_ga hJ (kS_0 hc) fC_11_0 fl_X8_9 dX8_needDominators_121 ?_
      refine j_aload_n hJ dX8_needDominators_124 rfl 1 rfl ?_
      refine j_gr (e := (p1 + 2)) hJ (kP_0 hp1) fC_8_2 fl_X8_104 dX8_needDominators_125 rfl ?_
      refine j_iload_n hJ dX8_needDominators_128 rfl 2 rfl ?_
      refine j_iald hJ gx3 (kP_2 hp1) hF.1 hF.2.1 dX8_needDominators_129 (fun v5 ev5 gv5 => ?_)
      have hF := hF.2.2 v5 ev5 gv5
      refine j_aload_n hJ dX8_needDominators_130 rfl 1 rfl ?_
      refine j_gr (e := (p1 + 3)) hJ (kP_0 hp1) fC_8_3 fl_X8_107 dX8_needDominators_131 rfl ?_
      refine j_iload_n hJ dX8_needDominators_134 rfl 2 rfl ?_
      refine j_iald hJ gx3 (kP_3 hp1) hF.1 hF.2.1 dX8_needDominators_135 (fun v6 ev6 gv6 => ?_)
      have hF := hF.2.2 v6 ev6 gv6
      refine j_callVi hJ (c_X10_sizeOf (l := l) (D := D) (cy := cy) (ad := ad) hin) rfl om_387 ⟨rfl, rfl, Nat.le_of_ble_eq_true rfl, Nat.le_of_ble_eq_true rfl⟩ [.int (Ii v5), .int (Ii v6)] mv_X8_110 hd_X10_sizeOfv kC_8 rfl rfl rfl (Nat.le_of_ble_eq_true rfl) dX8_needDominators_136 ⟨v5, v6, rfl, gv5, gv6, hF⟩ (fun r7 M8 gr7 qM8 => ?_)
      have hF := qM8 gr7
      refine j_iast hJ gx3 gr7 (kS_5 hc) hF.1 hF.2.1 dX8_needDominators_139 (fun M9 eM9 => ?_)
      have hF := hF.2.2 M9 eM9
      refine j_aload_n hJ dX8_needDominators_140 rfl 0 rfl ?_
      refine j_gr (e := (c + 6)) hJ (kS_0 hc) fC_11_7 fl_X8_33 dX8_needDominators_141 rfl ?_
      refine j_iload_n hJ dX8_needDominators_144 rfl 2 rfl ?_
      refine j_iconst hJ dX8_needDominators_145 ?_
      refine j_iast hJ gx3 rk_1 (kS_6 hc) hF.1 hF.2.1 dX8_needDominators_146 (fun M10 eM10 => ?_)
      have hF := hF.2.2 M10 eM10
      refine j_iinc (lv' := [(3, .int (Ii (x3 + 1))), (0, .ref (ad c)), (1, .ref (ad p1))]) (k := 2) hJ dX8_needDominators_147 rfl (by decide) rfl ?_
      have g11 := hF.1; have hF := hF.2
      refine j_goto hJ 107 dX8_needDominators_150 (by decide) ?_
      exact j_sub hJ [1, 2, 0] rfl (ih (x3 + 1) _ g11 hF)
  intro x3 M gx3 hF
  obtain ⟨n, hF⟩ := hF
  exact H9 n x3 M gx3 hF
set_option maxHeartbeats 4000000 in
set_option maxRecDepth 100000 in
theorem k_X8_needDominators_b105 {l : Launch} {D : va_G} {cy : Nat → ClassId} {ad : Nat → Nat} {Q : Int → MM → Prop} {J : Nat → List (Nat × Value) → List Value → MM → Prop} (hin : jIn ad ksC.length) {c p1 : Nat} (hc : isS c) (hp1 : isP p1) (hJ : jOk l D vwCl (tyC cy) cy ad ftC ksC (XtC ad) Om RX8 cX8_needDominators 6 0 ({ frames := 2, cells := 0, slots := 0, locals := 49 } : Room) Q J)  : ∀ (M : MM), w_X8_needDominators_b105 c p1 Q   M → J 105 [(0, .ref (ad c)), (1, .ref (ad p1))] [] M := by
  intro  M  hF
  unfold w_X8_needDominators_b105 at hF
  refine j_iconst hJ dX8_needDominators_105 ?_
  refine j_istore_n (lv' := [(3, .int (Ii 0)), (0, .ref (ad c)), (1, .ref (ad p1))]) hJ dX8_needDominators_106 rfl (by decide) rfl ?_
  exact j_sub hJ [1, 2, 0] rfl (k_X8_needDominators_b107 hin hc hp1 hJ  0 _ rk_0 hF)
set_option maxHeartbeats 4000000 in
set_option maxRecDepth 100000 in
theorem k_X8_needDominators_b93 {l : Launch} {D : va_G} {cy : Nat → ClassId} {ad : Nat → Nat} {Q : Int → MM → Prop} {J : Nat → List (Nat × Value) → List Value → MM → Prop} (hin : jIn ad ksC.length) {c p1 : Nat} (hc : isS c) (hp1 : isP p1) (hJ : jOk l D vwCl (tyC cy) cy ad ftC ksC (XtC ad) Om RX8 cX8_needDominators 6 0 ({ frames := 2, cells := 0, slots := 0, locals := 49 } : Room) Q J) {K38 : Int → Int → MM → Prop} (hK38 : ∀ (x2 x3 : Int) (M : MM), ri_ x2 → ri_ x3 → K38 x2 x3 M → J 38 [(0, .ref (ad c)), (1, .ref (ad p1)), (2, .int (Ii x2)), (3, .int (Ii x3))] [] M) {K53 : Int → Int → Int → MM → Prop} (hK53 : ∀ (x2 x3 x4 : Int) (M : MM), ri_ x2 → ri_ x3 → ri_ x4 → K53 x2 x3 x4 M → J 53 [(0, .ref (ad c)), (1, .ref (ad p1)), (2, .int (Ii x2)), (3, .int (Ii x3)), (4, .int (Ii x4))] [] M) : ∀ (x2 x3 x4 : Int) (M : MM), ri_ x2 → ri_ x3 → ri_ x4 → w_X8_needDominators_b93 c p1 Q K38 K53 x2 x3 x4 M → J 93 [(0, .ref (ad c)), (1, .ref (ad p1)), (2, .int (Ii x2)), (3, .int (Ii x3)), (4, .int (Ii x4))] [] M := by
  intro x2 x3 x4 M gx2 gx3 gx4 hF
  unfold w_X8_needDominators_b93 at hF
  refine j_iinc (lv' := [(4, .int (Ii (x4 + 1))), (0, .ref (ad c)), (1, .ref (ad p1)), (2, .int (Ii x2)), (3, .int (Ii x3))]) (k := 4) hJ dX8_needDominators_93 rfl (by decide) rfl ?_
  have g1 := hF.1; have hF := hF.2
  refine j_goto hJ 53 dX8_needDominators_96 (by decide) ?_
  exact j_sub hJ [1, 2, 3, 4, 0] rfl (hK53 x2 x3 (x4 + 1) _ gx2 gx3 g1 hF)
set_option maxHeartbeats 4000000 in
set_option maxRecDepth 100000 in
theorem k_X8_needDominators_b53 {l : Launch} {D : va_G} {cy : Nat → ClassId} {ad : Nat → Nat} {Q : Int → MM → Prop} {J : Nat → List (Nat × Value) → List Value → MM → Prop} (hin : jIn ad ksC.length) {c p1 : Nat} (hc : isS c) (hp1 : isP p1) (hJ : jOk l D vwCl (tyC cy) cy ad ftC ksC (XtC ad) Om RX8 cX8_needDominators 6 0 ({ frames := 2, cells := 0, slots := 0, locals := 49 } : Room) Q J) {K38 : Int → Int → MM → Prop} (hK38 : ∀ (x2 x3 : Int) (M : MM), ri_ x2 → ri_ x3 → K38 x2 x3 M → J 38 [(0, .ref (ad c)), (1, .ref (ad p1)), (2, .int (Ii x2)), (3, .int (Ii x3))] [] M) : ∀ (x2 x3 x4 : Int) (M : MM), ri_ x2 → ri_ x3 → ri_ x4 → w_X8_needDominators_b53 c p1 Q K38 x2 x3 x4 M → J 53 [(0, .ref (ad c)), (1, .ref (ad p1)), (2, .int (Ii x2)), (3, .int (Ii x3)), (4, .int (Ii x4))] [] M := by
  have H9 : ∀ (n : Nat) (x2 x3 x4 : Int) (M : MM), ri_ x2 → ri_ x3 → ri_ x4 → jit (fun _ _ _ _ => False) (wb_X8_needDominators_b53 c p1 Q K38) n x2 x3 x4 M → J 53 [(0, .ref (ad c)), (1, .ref (ad p1)), (2, .int (Ii x2)), (3, .int (Ii x3)), (4, .int (Ii x4))] [] M := by
    intro n
    induction n with
    | zero => intro x2 x3 x4 M gx2 gx3 gx4 hF; exact False.elim hF
    | succ n ih =>
    intro x2 x3 x4 M gx2 gx3 gx4 hF
    have hF : wb_X8_needDominators_b53 c p1 Q K38 (jit (fun _ _ _ _ => False) (wb_X8_needDominators_b53 c p1 Q K38) n) x2 x3 x4 M := hF
    unfold wb_X8_needDominators_b53 at hF
    refine j_iload hJ dX8_needDominators_53 4 rfl ?_
    refine j_aload_n hJ dX8_needDominators_55 rfl 1 rfl ?_
    refine j_gi hJ (kP_0 hp1) fC_8_0 rfl fl_X8_64 dX8_needDominators_56 (fun v1 ev1 gv1 => ?_)
    have hF := hF v1 ev1 gv1
    refine j_icmp_ge hJ 99 gx4 gv1 dX8_needDominators_59 (by decide) (fun z2 => ?_) (fun z2 => ?_)
    · have hF := hF.1 z2
      refine j_iinc (lv' := [(3, .int (Ii (x3 + 1))), (0, .ref (ad c)), (1, .ref (ad p1)), (2, .int (Ii x2)), (4, .int (Ii x4))]) (k := 3) hJ dX8_needDominators_99 rfl (by decide) rfl ?_
      have g3 := hF.1; have hF := hF.2
      refine j_goto hJ 38 dX8_needDominators_102 (by decide) ?_
      exact j_sub hJ [1, 2, 3, 0] rfl (hK38 x2 (x3 + 1) _ gx2 g3 hF)
    · have hF := hF.2 z2
      refine j_aload_n hJ dX8_needDominators_62 rfl 0 rfl ?_
      refine j_iload hJ dX8_needDominators_63 4 rfl ?_
      refine j_callVi hJ (c_X8_commonDominator (l := l) (D := D) (cy := cy) (ad := ad) hin) rfl om_423 ⟨rfl, rfl, Nat.le_of_ble_eq_true rfl, Nat.le_of_ble_eq_true rfl⟩ [.int (Ii x4)] mv_X8_100 hd_X8_commonDominatorv (kS_0 hc) rfl rfl rfl (Nat.le_of_ble_eq_true rfl) dX8_needDominators_65 ⟨c, x4, rfl, hc, gx4, hF⟩ (fun r4 M5 gr4 qM5 => ?_)
      have hF := qM5 gr4
      refine j_istore (lv' := [(5, .int (Ii r4)), (0, .ref (ad c)), (1, .ref (ad p1)), (2, .int (Ii x2)), (3, .int (Ii x3)), (4, .int (Ii x4))]) hJ dX8_needDominators_68 (by decide) rfl ?_
      refine j_iload hJ dX8_needDominators_70 0 rfl ?_
      refine j_aload_n hJ dX8_needDominators_72 rfl 1 rfl ?_
      refine j_gr (e := (c + 4)) hJ (kS_0 hc) fC_11_5 fl_X8_27 dX8_needDominators_73 rfl ?_
      refine j_iload hJ dX8_needDominators_76 5 rfl ?_
      refine j_iald hJ gx4 (kS_4 hc) hF.1 hF.2.1 dX8_needDominators_78 (fun v6 ev6 gv6 => ?_)
      have hF := hF.2.2 v6 ev6 gv6
      refine j_icmp_eq hJ 93 gr4 gv6 dX8_needDominators_79 (by decide) (fun z7 => ?_) (fun z7 => ?_)
      · have hF := hF.1 z7
        exact j_sub hJ [1, 2, 3, 4, 5] rfl (k_X8_needDominators_b93 hin hc hp1 hJ hK38 ih x2 x3 x4 _ gx2 gx3 gx4 hF)
      · have hF := hF.2 z7
        refine j_aload_n hJ dX8_needDominators_82 rfl 1 rfl ?_
        refine j_gr (e := (c + 4)) hJ (kS_0 hc) fC_11_5 fl_X8_27 dX8_needDominators_83 rfl ?_
        refine j_iload hJ dX8_needDominators_86 5 rfl ?_
        refine j_iload hJ dX8_needDominators_88 0 rfl ?_
        refine j_iast hJ gx4 gr4 (kS_4 hc) hF.1 hF.2.1 dX8_needDominators_90 (fun M8 eM8 => ?_)
        have hF := hF.2.2 M8 eM8
        refine j_iconst hJ dX8_needDominators_91 ?_
        refine j_istore_n (lv' := [(2, .int (Ii 1)), (5, .int (Ii r4)), (0, .ref (ad c)), (1, .ref (ad p1)), (3, .int (Ii x3)), (4, .int (Ii x4))]) hJ dX8_needDominators_92 rfl (by decide) rfl ?_
        exact j_sub hJ [2, 3, 0, 4, 5] rfl (k_X8_needDominators_b93 hin hc hp1 hJ hK38 ih 1 x3 x4 _ rk_1 gx3 gx4 hF)
  intro x2 x3 x4 M gx2 gx3 gx4 hF
  obtain ⟨n, hF⟩ := hF
  exact H9 n x2 x3 x4 M gx2 gx3 gx4 hF
set_option maxHeartbeats 4000000 in
set_option maxRecDepth 100000 in
theorem k_X8_needDominators_b38 {l : Launch} {D : va_G} {cy : Nat → ClassId} {ad : Nat → Nat} {Q : Int → MM → Prop} {J : Nat → List (Nat × Value) → List Value → MM → Prop} (hin : jIn ad ksC.length) {c p1 : Nat} (hc : isS c) (hp1 : isP p1) (hJ : jOk l D vwCl (tyC cy) cy ad ftC ksC (XtC ad) Om RX8 cX8_needDominators 6 0 ({ frames := 2, cells := 0, slots := 0, locals := 49 } : Room) Q J)  : ∀ (x2 x3 : Int) (M : MM), ri_ x2 → ri_ x3 → w_X8_needDominators_b38 c p1 Q  x2 x3 M → J 38 [(0, .ref (ad c)), (1, .ref (ad p1)), (2, .int (Ii x2)), (3, .int (Ii x3))] [] M := by
  have H9 : ∀ (n : Nat) (x2 x3 : Int) (M : MM), ri_ x2 → ri_ x3 → jit (fun _ _ _ => False) (wb_X8_needDominators_b38 c p1 Q ) n x2 x3 M → J 38 [(0, .ref (ad c)), (1, .ref (ad p1)), (2, .int (Ii x2)), (3, .int (Ii x3))] [] M := by
    intro n
    induction n with
    | zero => intro x2 x3 M gx2 gx3 hF; exact False.elim hF
    | succ n ih =>
    intro x2 x3 M gx2 gx3 hF
    have hF : wb_X8_needDominators_b38 c p1 Q  (jit (fun _ _ _ => False) (wb_X8_needDominators_b38 c p1 Q ) n) x2 x3 M := hF
    unfold wb_X8_needDominators_b38 at hF
    refine j_iload_n hJ dX8_needDominators_38 rfl 3 rfl ?_
    refine j_ldc hJ 1000000 om_416 (by decide) dX8_needDominators_39 ?_
    refine j_icmp_ge hJ 105 gx3 rk_1000000 dX8_needDominators_41 (by decide) (fun z1 => ?_) (fun z1 => ?_)
    · have hF := hF.1 z1
      exact j_sub hJ [0, 1] rfl (k_X8_needDominators_b105 hin hc hp1 hJ   _  hF)
    · have hF := hF.2 z1
      refine j_iload_n hJ dX8_needDominators_44 rfl 2 rfl ?_
      refine j_if_eq hJ 105 gx2 dX8_needDominators_45 (by decide) (fun z2 => ?_) (fun z2 => ?_)
      · have hF := hF.1 z2
        exact j_sub hJ [0, 1] rfl (k_X8_needDominators_b105 hin hc hp1 hJ   _  hF)
      · have hF := hF.2 z2
        refine j_iconst hJ dX8_needDominators_48 ?_
        refine j_istore_n (lv' := [(2, .int (Ii 0)), (0, .ref (ad c)), (1, .ref (ad p1)), (3, .int (Ii x3))]) hJ dX8_needDominators_49 rfl (by decide) rfl ?_
        refine j_iconst hJ dX8_needDominators_50 ?_
        refine j_istore (lv' := [(4, .int (Ii 0)), (2, .int (Ii 0)), (0, .ref (ad c)), (1, .ref (ad p1)), (3, .int (Ii x3))]) hJ dX8_needDominators_51 (by decide) rfl ?_
        exact j_sub hJ [2, 3, 1, 4, 0] rfl (k_X8_needDominators_b53 hin hc hp1 hJ ih 0 x3 0 _ rk_0 gx3 rk_0 hF)
  intro x2 x3 M gx2 gx3 hF
  obtain ⟨n, hF⟩ := hF
  exact H9 n x2 x3 M gx2 gx3 hF
set_option maxHeartbeats 4000000 in
set_option maxRecDepth 100000 in
theorem c_X8_needDominators {l : Launch} {D : va_G} {cy : Nat → ClassId} {ad : Nat → Nat} (hin : jIn ad ksC.length) : jCN l D vwCl (tyC cy) cy ad ftC ksC (XtC ad) yX8_needDominators (.code yX8_needDominators cX8_needDominators 6 none :: Om) ({ frames := 2, cells := 0, slots := 0, locals := 49 } : Room) 0 (W_X8_needDominators ad) := by
  refine jCN_of (y := yX8_needDominators) (cc := cX8_needDominators) (nL := 6) (rk := 0) (rm := ({ frames := 2, cells := 0, slots := 0, locals := 49 } : Room)) (own := RX8) (tyC_ok cy) hin (XtC_ok ad) Om_good (by decide) rfl ?_
  intro Q av M hF
  obtain ⟨c, p1, rfl, hc, hp1, hF⟩ := hF
  refine ⟨Nat.le_of_ble_eq_true rfl, fun J hJ => ?_⟩
  show J 0 [(0, .ref (ad c)), (1, .ref (ad p1))] [] M
  unfold w_X8_needDominators at hF
  refine j_aload_n hJ dX8_needDominators_0 rfl 0 rfl ?_
  refine j_gi hJ (kS_0 hc) fC_11_1 rfl fl_X8_60 dX8_needDominators_1 (fun v1 ev1 gv1 => ?_)
  have hF := hF v1 ev1 gv1
  refine j_iconst hJ dX8_needDominators_4 ?_
  refine j_iand hJ dX8_needDominators_5 ?_
  refine j_if_eq hJ 10 (ri_of _) dX8_needDominators_6 (by decide) (fun z2 => ?_) (fun z2 => ?_)
  · have hF := hF.1 z2
    refine j_aload_n hJ dX8_needDominators_10 rfl 0 rfl ?_
    refine j_dup hJ dX8_needDominators_11 rfl ?_
    refine j_gi hJ (kS_0 hc) fC_11_1 rfl fl_X8_60 dX8_needDominators_12 (fun v3 ev3 gv3 => ?_)
    have hF := hF v3 ev3 gv3
    refine j_iconst hJ dX8_needDominators_15 ?_
    refine j_ior hJ dX8_needDominators_16 ?_
    refine j_pi hJ (ri_of _) (kS_0 hc) fC_11_1 rfl fp_X8_60 dX8_needDominators_17 (fun M4 eM4 => ?_)
    have hF := hF M4 eM4
    refine j_aload_n hJ dX8_needDominators_20 rfl 0 rfl ?_
    refine j_gr (e := (c + 4)) hJ (kS_0 hc) fC_11_5 fl_X8_27 dX8_needDominators_21 rfl ?_
    refine j_iconst hJ dX8_needDominators_24 ?_
    refine j_aload_n hJ dX8_needDominators_25 rfl 1 rfl ?_
    refine j_gi hJ (kP_0 hp1) fC_8_0 rfl fl_X8_64 dX8_needDominators_26 (fun v5 ev5 gv5 => ?_)
    have hF := hF v5 ev5 gv5
    refine j_bipush hJ dX8_needDominators_29 (by decide) ?_
    refine j_callSv hJ (c_J7_fill_fda19_C (l := l) (D := D) (cy := cy) (ad := ad) hin) rfl om_214 ⟨rfl, rfl, Nat.le_of_ble_eq_true rfl, Nat.le_of_ble_eq_true rfl⟩ [.ref (ad (c + 4)), .int (Ii 0), .int (Ii v5), .int (Ii (-2))] mv_X8_67 hd_J7_fill_fda19 rfl (Nat.le_of_ble_eq_true rfl) dX8_needDominators_31 ⟨(c + 4), 400, 0, v5, (-2), rfl, (kS_4 hc), (by decide), rk_0, gv5, rk_m2, hF⟩ (fun M7 qM7 => ?_)
    have hF := qM7
    refine j_iconst hJ dX8_needDominators_34 ?_
    refine j_istore_n (lv' := [(2, .int (Ii 1)), (0, .ref (ad c)), (1, .ref (ad p1))]) hJ dX8_needDominators_35 rfl (by decide) rfl ?_
    refine j_iconst hJ dX8_needDominators_36 ?_
    refine j_istore_n (lv' := [(3, .int (Ii 0)), (2, .int (Ii 1)), (0, .ref (ad c)), (1, .ref (ad p1))]) hJ dX8_needDominators_37 rfl (by decide) rfl ?_
    exact j_sub hJ [2, 3, 1, 0] rfl (k_X8_needDominators_b38 hin hc hp1 hJ  1 0 _ rk_1 rk_0 hF)
  · have hF := hF.2 z2
    exact j_vret hJ rfl dX8_needDominators_9 hF
def W_X8_addHolder (ad : Nat → Nat) (Q : Int → MM → Prop) (av : List Value) (M : MM) : Prop := ∃ (c : Nat) (p1 : Int) (p2 : Int) (p3 : Int), av = [.ref (ad c), .int (Ii p1), .int (Ii p2), .int (Ii p3)] ∧ isS c ∧ ri_ p1 ∧ ri_ p2 ∧ ri_ p3 ∧ w_X8_addHolder c Q p1 p2 p3 M
set_option maxHeartbeats 4000000 in
set_option maxRecDepth 100000 in
theorem c_X8_addHolder {l : Launch} {D : va_G} {cy : Nat → ClassId} {ad : Nat → Nat} (hin : jIn ad ksC.length) : jCN l D vwCl (tyC cy) cy ad ftC ksC (XtC ad) yX8_addHolder (.code yX8_addHolder cX8_addHolder 4 none :: Om) ({ frames := 0, cells := 0, slots := 0, locals := 0 } : Room) 0 (W_X8_addHolder ad) := by
  refine jCN_of (y := yX8_addHolder) (cc := cX8_addHolder) (nL := 4) (rk := 0) (rm := ({ frames := 0, cells := 0, slots := 0, locals := 0 } : Room)) (own := RX8) (tyC_ok cy) hin (XtC_ok ad) Om_good (by decide) rfl ?_
  intro Q av M hF
  obtain ⟨c, p1, p2, p3, rfl, hc, gp1, gp2, gp3, hF⟩ := hF
  refine ⟨Nat.le_of_ble_eq_true rfl, fun J hJ => ?_⟩
  show J 0 [(0, .ref (ad c)), (1, .int (Ii p1)), (2, .int (Ii p2)), (3, .int (Ii p3))] [] M
  unfold w_X8_addHolder at hF
  refine j_aload_n hJ dX8_addHolder_0 rfl 0 rfl ?_
  refine j_gr (e := (c + 2)) hJ (kS_0 hc) fC_11_3 fl_X8_21 dX8_addHolder_1 rfl ?_
  refine j_aload_n hJ dX8_addHolder_4 rfl 0 rfl ?_
  refine j_gr (e := (c + 13)) hJ (kS_0 hc) fC_11_16 fl_X8_54 dX8_addHolder_5 rfl ?_
  refine j_iload_n hJ dX8_addHolder_8 rfl 1 rfl ?_
  refine j_iald hJ gp1 (kS_13 hc) hF.1 hF.2.1 dX8_addHolder_9 (fun v1 ev1 gv1 => ?_)
  have hF := hF.2.2 v1 ev1 gv1
  refine j_iload_n hJ dX8_addHolder_10 rfl 2 rfl ?_
  refine j_iast hJ gv1 gp2 (kS_2 hc) hF.1 hF.2.1 dX8_addHolder_11 (fun M2 eM2 => ?_)
  have hF := hF.2.2 M2 eM2
  refine j_aload_n hJ dX8_addHolder_12 rfl 0 rfl ?_
  refine j_gr (e := (c + 3)) hJ (kS_0 hc) fC_11_4 fl_X8_24 dX8_addHolder_13 rfl ?_
  refine j_aload_n hJ dX8_addHolder_16 rfl 0 rfl ?_
  refine j_gr (e := (c + 13)) hJ (kS_0 hc) fC_11_16 fl_X8_54 dX8_addHolder_17 rfl ?_
  refine j_iload_n hJ dX8_addHolder_20 rfl 1 rfl ?_
  refine j_iald hJ gp1 (kS_13 hc) hF.1 hF.2.1 dX8_addHolder_21 (fun v3 ev3 gv3 => ?_)
  have hF := hF.2.2 v3 ev3 gv3
  refine j_iload_n hJ dX8_addHolder_22 rfl 3 rfl ?_
  refine j_iast hJ gv3 gp3 (kS_3 hc) hF.1 hF.2.1 dX8_addHolder_23 (fun M4 eM4 => ?_)
  have hF := hF.2.2 M4 eM4
  refine j_aload_n hJ dX8_addHolder_24 rfl 0 rfl ?_
  refine j_gr (e := (c + 13)) hJ (kS_0 hc) fC_11_16 fl_X8_54 dX8_addHolder_25 rfl ?_
  refine j_iload_n hJ dX8_addHolder_28 rfl 1 rfl ?_
  refine j_dup2_11 hJ dX8_addHolder_29 rfl rfl ?_
  refine j_iald hJ gp1 (kS_13 hc) hF.1 hF.2.1 dX8_addHolder_30 (fun v5 ev5 gv5 => ?_)
  have hF := hF.2.2 v5 ev5 gv5
  refine j_iconst hJ dX8_addHolder_31 ?_
  refine j_iadd hJ dX8_addHolder_32 ?_
  have g6 := hF.1; have hF := hF.2
  refine j_iast hJ gp1 g6 (kS_13 hc) hF.1 hF.2.1 dX8_addHolder_33 (fun M7 eM7 => ?_)
  have hF := hF.2.2 M7 eM7
  exact j_vret hJ rfl dX8_addHolder_34 hF
def W_X8_needHolders (ad : Nat → Nat) (Q : Int → MM → Prop) (av : List Value) (M : MM) : Prop := ∃ (c : Nat) (p1 : Nat), av = [.ref (ad c), .ref (ad p1)] ∧ isS c ∧ isP p1 ∧ w_X8_needHolders c p1 Q  M
set_option maxHeartbeats 4000000 in
set_option maxRecDepth 100000 in
theorem k_X8_needHolders_b278 {l : Launch} {D : va_G} {cy : Nat → ClassId} {ad : Nat → Nat} {Q : Int → MM → Prop} {J : Nat → List (Nat × Value) → List Value → MM → Prop} (hin : jIn ad ksC.length) {c p1 : Nat} (hc : isS c) (hp1 : isP p1) (hJ : jOk l D vwCl (tyC cy) cy ad ftC ksC (XtC ad) Om RX8 cX8_needHolders 4 0 ({ frames := 2, cells := 0, slots := 0, locals := 46 } : Room) Q J) {K209 : Int → MM → Prop} (hK209 : ∀ (x2 : Int) (M : MM), ri_ x2 → K209 x2 M → J 209 [(0, .ref (ad c)), (1, .ref (ad p1)), (2, .int (Ii x2))] [] M) {K224 : Int → Int → MM → Prop} (hK224 : ∀ (x2 x3 : Int) (M : MM), ri_ x2 → ri_ x3 → K224 x2 x3 M → J 224 [(0, .ref (ad c)), (1, .ref (ad p1)), (2, .int (Ii x2)), (3, .int (Ii x3))] [] M) : ∀ (x2 x3 : Int) (M : MM), ri_ x2 → ri_ x3 → w_X8_needHolders_b278 c p1 Q K209 K224 x2 x3 M → J 278 [(0, .ref (ad c)), (1, .ref (ad p1)), (2, .int (Ii x2)), (3, .int (Ii x3))] [] M := by
  intro x2 x3 M gx2 gx3 hF
  unfold w_X8_needHolders_b278 at hF
  refine j_iinc (lv' := [(3, .int (Ii (x3 + 1))), (0, .ref (ad c)), (1, .ref (ad p1)), (2, .int (Ii x2))]) (k := 3) hJ dX8_needHolders_278 rfl (by decide) rfl ?_
  have g1 := hF.1; have hF := hF.2
  refine j_goto hJ 224 dX8_needHolders_281 (by decide) ?_
  exact j_sub hJ [1, 2, 3, 0] rfl (hK224 x2 (x3 + 1) _ gx2 g1 hF)
set_option maxHeartbeats 4000000 in
set_option maxRecDepth 100000 in
theorem k_X8_needHolders_b224 {l : Launch} {D : va_G} {cy : Nat → ClassId} {ad : Nat → Nat} {Q : Int → MM → Prop} {J : Nat → List (Nat × Value) → List Value → MM → Prop} (hin : jIn ad ksC.length) {c p1 : Nat} (hc : isS c) (hp1 : isP p1) (hJ : jOk l D vwCl (tyC cy) cy ad ftC ksC (XtC ad) Om RX8 cX8_needHolders 4 0 ({ frames := 2, cells := 0, slots := 0, locals := 46 } : Room) Q J) {K209 : Int → MM → Prop} (hK209 : ∀ (x2 : Int) (M : MM), ri_ x2 → K209 x2 M → J 209 [(0, .ref (ad c)), (1, .ref (ad p1)), (2, .int (Ii x2))] [] M) : ∀ (x2 x3 : Int) (M : MM), ri_ x2 → ri_ x3 → w_X8_needHolders_b224 c p1 Q K209 x2 x3 M → J 224 [(0, .ref (ad c)), (1, .ref (ad p1)), (2, .int (Ii x2)), (3, .int (Ii x3))] [] M := by
  have H9 : ∀ (n : Nat) (x2 x3 : Int) (M : MM), ri_ x2 → ri_ x3 → jit (fun _ _ _ => False) (wb_X8_needHolders_b224 c p1 Q K209) n x2 x3 M → J 224 [(0, .ref (ad c)), (1, .ref (ad p1)), (2, .int (Ii x2)), (3, .int (Ii x3))] [] M := by
    intro n
    induction n with
    | zero => intro x2 x3 M gx2 gx3 hF; exact False.elim hF
    | succ n ih =>
    intro x2 x3 M gx2 gx3 hF
    have hF : wb_X8_needHolders_b224 c p1 Q K209 (jit (fun _ _ _ => False) (wb_X8_needHolders_b224 c p1 Q K209) n) x2 x3 M := hF
    unfold wb_X8_needHolders_b224 at hF
    refine j_iload_n hJ dX8_needHolders_224 rfl 3 rfl ?_
    refine j_aload_n hJ dX8_needHolders_225 rfl 1 rfl ?_
    refine j_gr (e := (p1 + 4)) hJ (kP_0 hp1) fC_8_4 fl_X8_79 dX8_needHolders_226 rfl ?_
    refine j_iload_n hJ dX8_needHolders_229 rfl 2 rfl ?_
    refine j_iconst hJ dX8_needHolders_230 ?_
    refine j_iadd hJ dX8_needHolders_231 ?_
    have g1 := hF.1; have hF := hF.2
    refine j_iald hJ g1 (kP_4 hp1) hF.1 hF.2.1 dX8_needHolders_232 (fun v2 ev2 gv2 => ?_)
    have hF := hF.2.2 v2 ev2 gv2
    refine j_icmp_ge hJ 284 gx3 gv2 dX8_needHolders_233 (by decide) (fun z3 => ?_) (fun z3 => ?_)
    · have hF := hF.1 z3
      refine j_iinc (lv' := [(2, .int (Ii (x2 + 1))), (0, .ref (ad c)), (1, .ref (ad p1)), (3, .int (Ii x3))]) (k := 2) hJ dX8_needHolders_284 rfl (by decide) rfl ?_
      have g4 := hF.1; have hF := hF.2
      refine j_goto hJ 209 dX8_needHolders_287 (by decide) ?_
      exact j_sub hJ [1, 2, 0] rfl (hK209 (x2 + 1) _ g4 hF)
    · have hF := hF.2 z3
      refine j_aload_n hJ dX8_needHolders_236 rfl 1 rfl ?_
      refine j_gr (e := (p1 + 10)) hJ (kP_0 hp1) fC_8_10 fl_X8_82 dX8_needHolders_237 rfl ?_
      refine j_iload_n hJ dX8_needHolders_240 rfl 3 rfl ?_
      refine j_zald hJ gx3 (kP_10 hp1) hF.1 hF.2.1 dX8_needHolders_241 (fun v5 ev5 gv5 => ?_)
      have hF := hF.2.2 v5 ev5 gv5
      refine j_if_eq hJ 278 (jz_ri gv5) dX8_needHolders_242 (by decide) (fun z6 => ?_) (fun z6 => ?_)
      · have hF := hF.1 z6
        exact j_sub hJ [0, 1, 2, 3] rfl (k_X8_needHolders_b278 hin hc hp1 hJ hK209 ih x2 x3 _ gx2 gx3 hF)
      · have hF := hF.2 z6
        refine j_aload_n hJ dX8_needHolders_245 rfl 1 rfl ?_
        refine j_gr (e := (p1 + 9)) hJ (kP_0 hp1) fC_8_9 fl_X8_86 dX8_needHolders_246 rfl ?_
        refine j_iload_n hJ dX8_needHolders_249 rfl 3 rfl ?_
        refine j_lald hJ gx3 (kP_9 hp1) hF.1 hF.2.1 dX8_needHolders_250 (fun v7 ev7 gv7 => ?_)
        have hF := hF.2.2 v7 ev7 gv7
        refine j_ldc2 hJ (-1) om_431 (by decide) dX8_needHolders_251 ?_
        refine j_lcmp_eq hJ 278 gv7 lk_m1 dX8_needHolders_254 dX8_needHolders_255 (by decide) (fun z8 => ?_) (fun z8 => ?_)
        · have hF := hF.1 z8
          exact j_sub hJ [0, 1, 2, 3] rfl (k_X8_needHolders_b278 hin hc hp1 hJ hK209 ih x2 x3 _ gx2 gx3 hF)
        · have hF := hF.2 z8
          refine j_aload_n hJ dX8_needHolders_258 rfl 0 rfl ?_
          refine j_aload_n hJ dX8_needHolders_259 rfl 1 rfl ?_
          refine j_gr (e := (p1 + 9)) hJ (kP_0 hp1) fC_8_9 fl_X8_86 dX8_needHolders_260 rfl ?_
          refine j_iload_n hJ dX8_needHolders_263 rfl 3 rfl ?_
          refine j_lald hJ gx3 (kP_9 hp1) hF.1 hF.2.1 dX8_needHolders_264 (fun v9 ev9 gv9 => ?_)
          have hF := hF.2.2 v9 ev9 gv9
          refine j_l2i hJ dX8_needHolders_265 ?_
          have g10 := hF.1; have hF := hF.2
          refine j_iload_n hJ dX8_needHolders_266 rfl 2 rfl ?_
          refine j_iload_n hJ dX8_needHolders_267 rfl 3 rfl ?_
          refine j_aload_n hJ dX8_needHolders_268 rfl 1 rfl ?_
          refine j_gr (e := (p1 + 4)) hJ (kP_0 hp1) fC_8_4 fl_X8_79 dX8_needHolders_269 rfl ?_
          refine j_iload_n hJ dX8_needHolders_272 rfl 2 rfl ?_
          refine j_iald hJ gx2 (kP_4 hp1) hF.1 hF.2.1 dX8_needHolders_273 (fun v11 ev11 gv11 => ?_)
          have hF := hF.2.2 v11 ev11 gv11
          refine j_isub hJ dX8_needHolders_274 ?_
          have g12 := hF.1; have hF := hF.2
          refine j_callVv hJ (c_X8_addHolder (l := l) (D := D) (cy := cy) (ad := ad) hin) rfl om_432 ⟨rfl, rfl, Nat.le_of_ble_eq_true rfl, Nat.le_of_ble_eq_true rfl⟩ [.int (Ii v9), .int (Ii x2), .int (Ii (x3 - v11))] mv_X8_95 hd_X8_addHolderv (kS_0 hc) rfl rfl rfl (Nat.le_of_ble_eq_true rfl) dX8_needHolders_275 ⟨c, v9, x2, (x3 - v11), rfl, hc, g10, gx2, g12, hF⟩ (fun M14 qM14 => ?_)
          have hF := qM14
          exact j_sub hJ [0, 1, 2, 3] rfl (k_X8_needHolders_b278 hin hc hp1 hJ hK209 ih x2 x3 _ gx2 gx3 hF)
  intro x2 x3 M gx2 gx3 hF
  obtain ⟨n, hF⟩ := hF
  exact H9 n x2 x3 M gx2 gx3 hF
set_option maxHeartbeats 4000000 in
set_option maxRecDepth 100000 in
theorem k_X8_needHolders_b209 {l : Launch} {D : va_G} {cy : Nat → ClassId} {ad : Nat → Nat} {Q : Int → MM → Prop} {J : Nat → List (Nat × Value) → List Value → MM → Prop} (hin : jIn ad ksC.length) {c p1 : Nat} (hc : isS c) (hp1 : isP p1) (hJ : jOk l D vwCl (tyC cy) cy ad ftC ksC (XtC ad) Om RX8 cX8_needHolders 4 0 ({ frames := 2, cells := 0, slots := 0, locals := 46 } : Room) Q J)  : ∀ (x2 : Int) (M : MM), ri_ x2 → w_X8_needHolders_b209 c p1 Q  x2 M → J 209 [(0, .ref (ad c)), (1, .ref (ad p1)), (2, .int (Ii x2))] [] M := by
  have H9 : ∀ (n : Nat) (x2 : Int) (M : MM), ri_ x2 → jit (fun _ _ => False) (wb_X8_needHolders_b209 c p1 Q ) n x2 M → J 209 [(0, .ref (ad c)), (1, .ref (ad p1)), (2, .int (Ii x2))] [] M := by
    intro n
    induction n with
    | zero => intro x2 M gx2 hF; exact False.elim hF
    | succ n ih =>
    intro x2 M gx2 hF
    have hF : wb_X8_needHolders_b209 c p1 Q  (jit (fun _ _ => False) (wb_X8_needHolders_b209 c p1 Q ) n) x2 M := hF
    unfold wb_X8_needHolders_b209 at hF
    refine j_iload_n hJ dX8_needHolders_209 rfl 2 rfl ?_
    refine j_aload_n hJ dX8_needHolders_210 rfl 1 rfl ?_
    refine j_gi hJ (kP_0 hp1) fC_8_0 rfl fl_X8_64 dX8_needHolders_211 (fun v1 ev1 gv1 => ?_)
    have hF := hF v1 ev1 gv1
    refine j_icmp_ge hJ 290 gx2 gv1 dX8_needHolders_214 (by decide) (fun z2 => ?_) (fun z2 => ?_)
    · have hF := hF.1 z2
      exact j_vret hJ rfl dX8_needHolders_290 hF
    · have hF := hF.2 z2
      refine j_aload_n hJ dX8_needHolders_217 rfl 1 rfl ?_
      refine j_gr (e := (p1 + 4)) hJ (kP_0 hp1) fC_8_4 fl_X8_79 dX8_needHolders_218 rfl ?_
      refine j_iload_n hJ dX8_needHolders_221 rfl 2 rfl ?_
      refine j_iald hJ gx2 (kP_4 hp1) hF.1 hF.2.1 dX8_needHolders_222 (fun v3 ev3 gv3 => ?_)
      have hF := hF.2.2 v3 ev3 gv3
      refine j_istore_n (lv' := [(3, .int (Ii v3)), (0, .ref (ad c)), (1, .ref (ad p1)), (2, .int (Ii x2))]) hJ dX8_needHolders_223 rfl (by decide) rfl ?_
      exact j_sub hJ [1, 2, 3, 0] rfl (k_X8_needHolders_b224 hin hc hp1 hJ ih x2 v3 _ gx2 gv3 hF)
  intro x2 M gx2 hF
  obtain ⟨n, hF⟩ := hF
  exact H9 n x2 M gx2 hF
set_option maxHeartbeats 4000000 in
set_option maxRecDepth 100000 in
theorem k_X8_needHolders_b176 {l : Launch} {D : va_G} {cy : Nat → ClassId} {ad : Nat → Nat} {Q : Int → MM → Prop} {J : Nat → List (Nat × Value) → List Value → MM → Prop} (hin : jIn ad ksC.length) {c p1 : Nat} (hc : isS c) (hp1 : isP p1) (hJ : jOk l D vwCl (tyC cy) cy ad ftC ksC (XtC ad) Om RX8 cX8_needHolders 4 0 ({ frames := 2, cells := 0, slots := 0, locals := 46 } : Room) Q J)  : ∀ (x2 : Int) (M : MM), ri_ x2 → w_X8_needHolders_b176 c p1 Q  x2 M → J 176 [(0, .ref (ad c)), (1, .ref (ad p1)), (2, .int (Ii x2))] [] M := by
  have H9 : ∀ (n : Nat) (x2 : Int) (M : MM), ri_ x2 → jit (fun _ _ => False) (wb_X8_needHolders_b176 c p1 Q ) n x2 M → J 176 [(0, .ref (ad c)), (1, .ref (ad p1)), (2, .int (Ii x2))] [] M := by
    intro n
    induction n with
    | zero => intro x2 M gx2 hF; exact False.elim hF
    | succ n ih =>
    intro x2 M gx2 hF
    have hF : wb_X8_needHolders_b176 c p1 Q  (jit (fun _ _ => False) (wb_X8_needHolders_b176 c p1 Q ) n) x2 M := hF
    unfold wb_X8_needHolders_b176 at hF
    refine j_iload_n hJ dX8_needHolders_176 rfl 2 rfl ?_
    refine j_aload_n hJ dX8_needHolders_177 rfl 1 rfl ?_
    refine j_gi hJ (kP_0 hp1) fC_8_11 rfl fl_X8_73 dX8_needHolders_178 (fun v1 ev1 gv1 => ?_)
    have hF := hF v1 ev1 gv1
    refine j_icmp_ge hJ 207 gx2 gv1 dX8_needHolders_181 (by decide) (fun z2 => ?_) (fun z2 => ?_)
    · have hF := hF.1 z2
      refine j_iconst hJ dX8_needHolders_207 ?_
      refine j_istore_n (lv' := [(2, .int (Ii 0)), (0, .ref (ad c)), (1, .ref (ad p1))]) hJ dX8_needHolders_208 rfl (by decide) rfl ?_
      exact j_sub hJ [1, 2, 0] rfl (k_X8_needHolders_b209 hin hc hp1 hJ  0 _ rk_0 hF)
    · have hF := hF.2 z2
      refine j_aload_n hJ dX8_needHolders_184 rfl 0 rfl ?_
      refine j_aload_n hJ dX8_needHolders_185 rfl 1 rfl ?_
      refine j_gr (e := (p1 + 12)) hJ (kP_0 hp1) fC_8_13 fl_X8_76 dX8_needHolders_186 rfl ?_
      refine j_iload_n hJ dX8_needHolders_189 rfl 2 rfl ?_
      refine j_iald hJ gx2 (kP_12 hp1) hF.1 hF.2.1 dX8_needHolders_190 (fun v3 ev3 gv3 => ?_)
      have hF := hF.2.2 v3 ev3 gv3
      refine j_iconst hJ dX8_needHolders_191 ?_
      refine j_aload_n hJ dX8_needHolders_192 rfl 1 rfl ?_
      refine j_gr (e := (p1 + 11)) hJ (kP_0 hp1) fC_8_12 fl_X8_92 dX8_needHolders_193 rfl ?_
      refine j_iload_n hJ dX8_needHolders_196 rfl 2 rfl ?_
      refine j_iald hJ gx2 (kP_11 hp1) hF.1 hF.2.1 dX8_needHolders_197 (fun v4 ev4 gv4 => ?_)
      have hF := hF.2.2 v4 ev4 gv4
      refine j_callVv hJ (c_X8_addHolder (l := l) (D := D) (cy := cy) (ad := ad) hin) rfl om_432 ⟨rfl, rfl, Nat.le_of_ble_eq_true rfl, Nat.le_of_ble_eq_true rfl⟩ [.int (Ii v3), .int (Ii (-1)), .int (Ii v4)] mv_X8_95 hd_X8_addHolderv (kS_0 hc) rfl rfl rfl (Nat.le_of_ble_eq_true rfl) dX8_needHolders_198 ⟨c, v3, (-1), v4, rfl, hc, gv3, rk_m1, gv4, hF⟩ (fun M6 qM6 => ?_)
      have hF := qM6
      refine j_iinc (lv' := [(2, .int (Ii (x2 + 1))), (0, .ref (ad c)), (1, .ref (ad p1))]) (k := 2) hJ dX8_needHolders_201 rfl (by decide) rfl ?_
      have g7 := hF.1; have hF := hF.2
      refine j_goto hJ 176 dX8_needHolders_204 (by decide) ?_
      exact j_sub hJ [1, 2, 0] rfl (ih (x2 + 1) _ g7 hF)
  intro x2 M gx2 hF
  obtain ⟨n, hF⟩ := hF
  exact H9 n x2 M gx2 hF
set_option maxHeartbeats 4000000 in
set_option maxRecDepth 100000 in
theorem k_X8_needHolders_b131 {l : Launch} {D : va_G} {cy : Nat → ClassId} {ad : Nat → Nat} {Q : Int → MM → Prop} {J : Nat → List (Nat × Value) → List Value → MM → Prop} (hin : jIn ad ksC.length) {c p1 : Nat} (hc : isS c) (hp1 : isP p1) (hJ : jOk l D vwCl (tyC cy) cy ad ftC ksC (XtC ad) Om RX8 cX8_needHolders 4 0 ({ frames := 2, cells := 0, slots := 0, locals := 46 } : Room) Q J)  : ∀ (x2 : Int) (M : MM), ri_ x2 → w_X8_needHolders_b131 c p1 Q  x2 M → J 131 [(0, .ref (ad c)), (1, .ref (ad p1)), (2, .int (Ii x2))] [] M := by
  have H9 : ∀ (n : Nat) (x2 : Int) (M : MM), ri_ x2 → jit (fun _ _ => False) (wb_X8_needHolders_b131 c p1 Q ) n x2 M → J 131 [(0, .ref (ad c)), (1, .ref (ad p1)), (2, .int (Ii x2))] [] M := by
    intro n
    induction n with
    | zero => intro x2 M gx2 hF; exact False.elim hF
    | succ n ih =>
    intro x2 M gx2 hF
    have hF : wb_X8_needHolders_b131 c p1 Q  (jit (fun _ _ => False) (wb_X8_needHolders_b131 c p1 Q ) n) x2 M := hF
    unfold wb_X8_needHolders_b131 at hF
    refine j_iload_n hJ dX8_needHolders_131 rfl 2 rfl ?_
    refine j_aload_n hJ dX8_needHolders_132 rfl 1 rfl ?_
    refine j_gi hJ (kP_0 hp1) fC_8_0 rfl fl_X8_64 dX8_needHolders_133 (fun v1 ev1 gv1 => ?_)
    have hF := hF v1 ev1 gv1
    refine j_icmp_ge hJ 174 gx2 gv1 dX8_needHolders_136 (by decide) (fun z2 => ?_) (fun z2 => ?_)
    · have hF := hF.1 z2
      refine j_iconst hJ dX8_needHolders_174 ?_
      refine j_istore_n (lv' := [(2, .int (Ii 0)), (0, .ref (ad c)), (1, .ref (ad p1))]) hJ dX8_needHolders_175 rfl (by decide) rfl ?_
      exact j_sub hJ [1, 2, 0] rfl (k_X8_needHolders_b176 hin hc hp1 hJ  0 _ rk_0 hF)
    · have hF := hF.2 z2
      refine j_aload_n hJ dX8_needHolders_139 rfl 0 rfl ?_
      refine j_gr (e := (c + 1)) hJ (kS_0 hc) fC_11_2 fl_X8_17 dX8_needHolders_140 rfl ?_
      refine j_iload_n hJ dX8_needHolders_143 rfl 2 rfl ?_
      refine j_iconst hJ dX8_needHolders_144 ?_
      refine j_iadd hJ dX8_needHolders_145 ?_
      have g3 := hF.1; have hF := hF.2
      refine j_dup2_11 hJ dX8_needHolders_146 rfl rfl ?_
      refine j_iald hJ g3 (kS_1 hc) hF.1 hF.2.1 dX8_needHolders_147 (fun v4 ev4 gv4 => ?_)
      have hF := hF.2.2 v4 ev4 gv4
      refine j_aload_n hJ dX8_needHolders_148 rfl 0 rfl ?_
      refine j_gr (e := (c + 1)) hJ (kS_0 hc) fC_11_2 fl_X8_17 dX8_needHolders_149 rfl ?_
      refine j_iload_n hJ dX8_needHolders_152 rfl 2 rfl ?_
      refine j_iald hJ gx2 (kS_1 hc) hF.1 hF.2.1 dX8_needHolders_153 (fun v5 ev5 gv5 => ?_)
      have hF := hF.2.2 v5 ev5 gv5
      refine j_iadd hJ dX8_needHolders_154 ?_
      have g6 := hF.1; have hF := hF.2
      refine j_iast hJ g3 g6 (kS_1 hc) hF.1 hF.2.1 dX8_needHolders_155 (fun M7 eM7 => ?_)
      have hF := hF.2.2 M7 eM7
      refine j_aload_n hJ dX8_needHolders_156 rfl 0 rfl ?_
      refine j_gr (e := (c + 13)) hJ (kS_0 hc) fC_11_16 fl_X8_54 dX8_needHolders_157 rfl ?_
      refine j_iload_n hJ dX8_needHolders_160 rfl 2 rfl ?_
      refine j_aload_n hJ dX8_needHolders_161 rfl 0 rfl ?_
      refine j_gr (e := (c + 1)) hJ (kS_0 hc) fC_11_2 fl_X8_17 dX8_needHolders_162 rfl ?_
      refine j_iload_n hJ dX8_needHolders_165 rfl 2 rfl ?_
      refine j_iald hJ gx2 (kS_1 hc) hF.1 hF.2.1 dX8_needHolders_166 (fun v8 ev8 gv8 => ?_)
      have hF := hF.2.2 v8 ev8 gv8
      refine j_iast hJ gx2 gv8 (kS_13 hc) hF.1 hF.2.1 dX8_needHolders_167 (fun M9 eM9 => ?_)
      have hF := hF.2.2 M9 eM9
      refine j_iinc (lv' := [(2, .int (Ii (x2 + 1))), (0, .ref (ad c)), (1, .ref (ad p1))]) (k := 2) hJ dX8_needHolders_168 rfl (by decide) rfl ?_
      have g10 := hF.1; have hF := hF.2
      refine j_goto hJ 131 dX8_needHolders_171 (by decide) ?_
      exact j_sub hJ [1, 2, 0] rfl (ih (x2 + 1) _ g10 hF)
  intro x2 M gx2 hF
  obtain ⟨n, hF⟩ := hF
  exact H9 n x2 M gx2 hF
set_option maxHeartbeats 4000000 in
set_option maxRecDepth 100000 in
theorem k_X8_needHolders_b123 {l : Launch} {D : va_G} {cy : Nat → ClassId} {ad : Nat → Nat} {Q : Int → MM → Prop} {J : Nat → List (Nat × Value) → List Value → MM → Prop} (hin : jIn ad ksC.length) {c p1 : Nat} (hc : isS c) (hp1 : isP p1) (hJ : jOk l D vwCl (tyC cy) cy ad ftC ksC (XtC ad) Om RX8 cX8_needHolders 4 0 ({ frames := 2, cells := 0, slots := 0, locals := 46 } : Room) Q J) {K70 : Int → MM → Prop} (hK70 : ∀ (x2 : Int) (M : MM), ri_ x2 → K70 x2 M → J 70 [(0, .ref (ad c)), (1, .ref (ad p1)), (2, .int (Ii x2))] [] M) : ∀ (x2 : Int) (M : MM), ri_ x2 → w_X8_needHolders_b123 c p1 Q K70 x2 M → J 123 [(0, .ref (ad c)), (1, .ref (ad p1)), (2, .int (Ii x2))] [] M := by
  intro x2 M gx2 hF
  unfold w_X8_needHolders_b123 at hF
  refine j_iinc (lv' := [(2, .int (Ii (x2 + 1))), (0, .ref (ad c)), (1, .ref (ad p1))]) (k := 2) hJ dX8_needHolders_123 rfl (by decide) rfl ?_
  have g1 := hF.1; have hF := hF.2
  refine j_goto hJ 70 dX8_needHolders_126 (by decide) ?_
  exact j_sub hJ [1, 2, 0] rfl (hK70 (x2 + 1) _ g1 hF)
set_option maxHeartbeats 4000000 in
set_option maxRecDepth 100000 in
theorem k_X8_needHolders_b70 {l : Launch} {D : va_G} {cy : Nat → ClassId} {ad : Nat → Nat} {Q : Int → MM → Prop} {J : Nat → List (Nat × Value) → List Value → MM → Prop} (hin : jIn ad ksC.length) {c p1 : Nat} (hc : isS c) (hp1 : isP p1) (hJ : jOk l D vwCl (tyC cy) cy ad ftC ksC (XtC ad) Om RX8 cX8_needHolders 4 0 ({ frames := 2, cells := 0, slots := 0, locals := 46 } : Room) Q J)  : ∀ (x2 : Int) (M : MM), ri_ x2 → w_X8_needHolders_b70 c p1 Q  x2 M → J 70 [(0, .ref (ad c)), (1, .ref (ad p1)), (2, .int (Ii x2))] [] M := by
  have H9 : ∀ (n : Nat) (x2 : Int) (M : MM), ri_ x2 → jit (fun _ _ => False) (wb_X8_needHolders_b70 c p1 Q ) n x2 M → J 70 [(0, .ref (ad c)), (1, .ref (ad p1)), (2, .int (Ii x2))] [] M := by
    intro n
    induction n with
    | zero => intro x2 M gx2 hF; exact False.elim hF
    | succ n ih =>
    intro x2 M gx2 hF
    have hF : wb_X8_needHolders_b70 c p1 Q  (jit (fun _ _ => False) (wb_X8_needHolders_b70 c p1 Q ) n) x2 M := hF
    unfold wb_X8_needHolders_b70 at hF
    refine j_iload_n hJ dX8_needHolders_70 rfl 2 rfl ?_
    refine j_aload_n hJ dX8_needHolders_71 rfl 1 rfl ?_
    refine j_gr (e := (p1 + 4)) hJ (kP_0 hp1) fC_8_4 fl_X8_79 dX8_needHolders_72 rfl ?_
    refine j_aload_n hJ dX8_needHolders_75 rfl 1 rfl ?_
    refine j_gi hJ (kP_0 hp1) fC_8_0 rfl fl_X8_64 dX8_needHolders_76 (fun v1 ev1 gv1 => ?_)
    have hF := hF v1 ev1 gv1
    refine j_iald hJ gv1 (kP_4 hp1) hF.1 hF.2.1 dX8_needHolders_79 (fun v2 ev2 gv2 => ?_)
    have hF := hF.2.2 v2 ev2 gv2
    refine j_icmp_ge hJ 129 gx2 gv2 dX8_needHolders_80 (by decide) (fun z3 => ?_) (fun z3 => ?_)
    · have hF := hF.1 z3
      refine j_iconst hJ dX8_needHolders_129 ?_
      refine j_istore_n (lv' := [(2, .int (Ii 0)), (0, .ref (ad c)), (1, .ref (ad p1))]) hJ dX8_needHolders_130 rfl (by decide) rfl ?_
      exact j_sub hJ [1, 2, 0] rfl (k_X8_needHolders_b131 hin hc hp1 hJ  0 _ rk_0 hF)
    · have hF := hF.2 z3
      refine j_aload_n hJ dX8_needHolders_83 rfl 1 rfl ?_
      refine j_gr (e := (p1 + 10)) hJ (kP_0 hp1) fC_8_10 fl_X8_82 dX8_needHolders_84 rfl ?_
      refine j_iload_n hJ dX8_needHolders_87 rfl 2 rfl ?_
      refine j_zald hJ gx2 (kP_10 hp1) hF.1 hF.2.1 dX8_needHolders_88 (fun v4 ev4 gv4 => ?_)
      have hF := hF.2.2 v4 ev4 gv4
      refine j_if_eq hJ 123 (jz_ri gv4) dX8_needHolders_89 (by decide) (fun z5 => ?_) (fun z5 => ?_)
      · have hF := hF.1 z5
        exact j_sub hJ [0, 1, 2] rfl (k_X8_needHolders_b123 hin hc hp1 hJ ih x2 _ gx2 hF)
      · have hF := hF.2 z5
        refine j_aload_n hJ dX8_needHolders_92 rfl 1 rfl ?_
        refine j_gr (e := (p1 + 9)) hJ (kP_0 hp1) fC_8_9 fl_X8_86 dX8_needHolders_93 rfl ?_
        refine j_iload_n hJ dX8_needHolders_96 rfl 2 rfl ?_
        refine j_lald hJ gx2 (kP_9 hp1) hF.1 hF.2.1 dX8_needHolders_97 (fun v6 ev6 gv6 => ?_)
        have hF := hF.2.2 v6 ev6 gv6
        refine j_ldc2 hJ (-1) om_431 (by decide) dX8_needHolders_98 ?_
        refine j_lcmp_eq hJ 123 gv6 lk_m1 dX8_needHolders_101 dX8_needHolders_102 (by decide) (fun z7 => ?_) (fun z7 => ?_)
        · have hF := hF.1 z7
          exact j_sub hJ [0, 1, 2] rfl (k_X8_needHolders_b123 hin hc hp1 hJ ih x2 _ gx2 hF)
        · have hF := hF.2 z7
          refine j_aload_n hJ dX8_needHolders_105 rfl 0 rfl ?_
          refine j_gr (e := (c + 1)) hJ (kS_0 hc) fC_11_2 fl_X8_17 dX8_needHolders_106 rfl ?_
          refine j_aload_n hJ dX8_needHolders_109 rfl 1 rfl ?_
          refine j_gr (e := (p1 + 9)) hJ (kP_0 hp1) fC_8_9 fl_X8_86 dX8_needHolders_110 rfl ?_
          refine j_iload_n hJ dX8_needHolders_113 rfl 2 rfl ?_
          refine j_lald hJ gx2 (kP_9 hp1) hF.1 hF.2.1 dX8_needHolders_114 (fun v8 ev8 gv8 => ?_)
          have hF := hF.2.2 v8 ev8 gv8
          refine j_l2i hJ dX8_needHolders_115 ?_
          have g9 := hF.1; have hF := hF.2
          refine j_iconst hJ dX8_needHolders_116 ?_
          refine j_iadd hJ dX8_needHolders_117 ?_
          have g10 := hF.1; have hF := hF.2
          refine j_dup2_11 hJ dX8_needHolders_118 rfl rfl ?_
          refine j_iald hJ g10 (kS_1 hc) hF.1 hF.2.1 dX8_needHolders_119 (fun v11 ev11 gv11 => ?_)
          have hF := hF.2.2 v11 ev11 gv11
          refine j_iconst hJ dX8_needHolders_120 ?_
          refine j_iadd hJ dX8_needHolders_121 ?_
          have g12 := hF.1; have hF := hF.2
          refine j_iast hJ g10 g12 (kS_1 hc) hF.1 hF.2.1 dX8_needHolders_122 (fun M13 eM13 => ?_)
          have hF := hF.2.2 M13 eM13
          exact j_sub hJ [0, 1, 2] rfl (k_X8_needHolders_b123 hin hc hp1 hJ ih x2 _ gx2 hF)
  intro x2 M gx2 hF
  obtain ⟨n, hF⟩ := hF
  exact H9 n x2 M gx2 hF
set_option maxHeartbeats 4000000 in
set_option maxRecDepth 100000 in
theorem k_X8_needHolders_b37 {l : Launch} {D : va_G} {cy : Nat → ClassId} {ad : Nat → Nat} {Q : Int → MM → Prop} {J : Nat → List (Nat × Value) → List Value → MM → Prop} (hin : jIn ad ksC.length) {c p1 : Nat} (hc : isS c) (hp1 : isP p1) (hJ : jOk l D vwCl (tyC cy) cy ad ftC ksC (XtC ad) Om RX8 cX8_needHolders 4 0 ({ frames := 2, cells := 0, slots := 0, locals := 46 } : Room) Q J)  : ∀ (x2 : Int) (M : MM), ri_ x2 → w_X8_needHolders_b37 c p1 Q  x2 M → J 37 [(0, .ref (ad c)), (1, .ref (ad p1)), (2, .int (Ii x2))] [] M := by
  have H9 : ∀ (n : Nat) (x2 : Int) (M : MM), ri_ x2 → jit (fun _ _ => False) (wb_X8_needHolders_b37 c p1 Q ) n x2 M → J 37 [(0, .ref (ad c)), (1, .ref (ad p1)), (2, .int (Ii x2))] [] M := by
    intro n
    induction n with
    | zero => intro x2 M gx2 hF; exact False.elim hF
    | succ n ih =>
    intro x2 M gx2 hF
    have hF : wb_X8_needHolders_b37 c p1 Q  (jit (fun _ _ => False) (wb_X8_needHolders_b37 c p1 Q ) n) x2 M := hF
    unfold wb_X8_needHolders_b37 at hF
    refine j_iload_n hJ dX8_needHolders_37 rfl 2 rfl ?_
    refine j_aload_n hJ dX8_needHolders_38 rfl 1 rfl ?_
    refine j_gi hJ (kP_0 hp1) fC_8_11 rfl fl_X8_73 dX8_needHolders_39 (fun v1 ev1 gv1 => ?_)
    have hF := hF v1 ev1 gv1
    refine j_icmp_ge hJ 68 gx2 gv1 dX8_needHolders_42 (by decide) (fun z2 => ?_) (fun z2 => ?_)
    · have hF := hF.1 z2
      refine j_iconst hJ dX8_needHolders_68 ?_
      refine j_istore_n (lv' := [(2, .int (Ii 0)), (0, .ref (ad c)), (1, .ref (ad p1))]) hJ dX8_needHolders_69 rfl (by decide) rfl ?_
      exact j_sub hJ [1, 2, 0] rfl (k_X8_needHolders_b70 hin hc hp1 hJ  0 _ rk_0 hF)
    · have hF := hF.2 z2
      refine j_aload_n hJ dX8_needHolders_45 rfl 0 rfl ?_
      refine j_gr (e := (c + 1)) hJ (kS_0 hc) fC_11_2 fl_X8_17 dX8_needHolders_46 rfl ?_
      refine j_aload_n hJ dX8_needHolders_49 rfl 1 rfl ?_
      refine j_gr (e := (p1 + 12)) hJ (kP_0 hp1) fC_8_13 fl_X8_76 dX8_needHolders_50 rfl ?_
      refine j_iload_n hJ dX8_needHolders_53 rfl 2 rfl ?_
      refine j_iald hJ gx2 (kP_12 hp1) hF.1 hF.2.1 dX8_needHolders_54 (fun v3 ev3 gv3 => ?_)
      have hF := hF.2.2 v3 ev3 gv3
      refine j_iconst hJ dX8_needHolders_55 ?_
      refine j_iadd hJ dX8_needHolders_56 ?_
      have g4 := hF.1; have hF := hF.2
      refine j_dup2_11 hJ dX8_needHolders_57 rfl rfl ?_
      refine j_iald hJ g4 (kS_1 hc) hF.1 hF.2.1 dX8_needHolders_58 (fun v5 ev5 gv5 => ?_)
      have hF := hF.2.2 v5 ev5 gv5
      refine j_iconst hJ dX8_needHolders_59 ?_
      refine j_iadd hJ dX8_needHolders_60 ?_
      have g6 := hF.1; have hF := hF.2
      refine j_iast hJ g4 g6 (kS_1 hc) hF.1 hF.2.1 dX8_needHolders_61 (fun M7 eM7 => ?_)
      have hF := hF.2.2 M7 eM7
      refine j_iinc (lv' := [(2, .int (Ii (x2 + 1))), (0, .ref (ad c)), (1, .ref (ad p1))]) (k := 2) hJ dX8_needHolders_62 rfl (by decide) rfl ?_
      have g8 := hF.1; have hF := hF.2
      refine j_goto hJ 37 dX8_needHolders_65 (by decide) ?_
      exact j_sub hJ [1, 2, 0] rfl (ih (x2 + 1) _ g8 hF)
  intro x2 M gx2 hF
  obtain ⟨n, hF⟩ := hF
  exact H9 n x2 M gx2 hF
set_option maxHeartbeats 4000000 in
set_option maxRecDepth 100000 in
theorem c_X8_needHolders {l : Launch} {D : va_G} {cy : Nat → ClassId} {ad : Nat → Nat} (hin : jIn ad ksC.length) : jCN l D vwCl (tyC cy) cy ad ftC ksC (XtC ad) yX8_needHolders (.code yX8_needHolders cX8_needHolders 4 none :: Om) ({ frames := 2, cells := 0, slots := 0, locals := 46 } : Room) 0 (W_X8_needHolders ad) := by
  refine jCN_of (y := yX8_needHolders) (cc := cX8_needHolders) (nL := 4) (rk := 0) (rm := ({ frames := 2, cells := 0, slots := 0, locals := 46 } : Room)) (own := RX8) (tyC_ok cy) hin (XtC_ok ad) Om_good (by decide) rfl ?_
  intro Q av M hF
  obtain ⟨c, p1, rfl, hc, hp1, hF⟩ := hF
  refine ⟨Nat.le_of_ble_eq_true rfl, fun J hJ => ?_⟩
  show J 0 [(0, .ref (ad c)), (1, .ref (ad p1))] [] M
  unfold w_X8_needHolders at hF
  refine j_aload_n hJ dX8_needHolders_0 rfl 0 rfl ?_
  refine j_gi hJ (kS_0 hc) fC_11_1 rfl fl_X8_60 dX8_needHolders_1 (fun v1 ev1 gv1 => ?_)
  have hF := hF v1 ev1 gv1
  refine j_iconst hJ dX8_needHolders_4 ?_
  refine j_iand hJ dX8_needHolders_5 ?_
  refine j_if_eq hJ 10 (ri_of _) dX8_needHolders_6 (by decide) (fun z2 => ?_) (fun z2 => ?_)
  · have hF := hF.1 z2
    refine j_aload_n hJ dX8_needHolders_10 rfl 0 rfl ?_
    refine j_dup hJ dX8_needHolders_11 rfl ?_
    refine j_gi hJ (kS_0 hc) fC_11_1 rfl fl_X8_60 dX8_needHolders_12 (fun v3 ev3 gv3 => ?_)
    have hF := hF v3 ev3 gv3
    refine j_iconst hJ dX8_needHolders_15 ?_
    refine j_ior hJ dX8_needHolders_16 ?_
    refine j_pi hJ (ri_of _) (kS_0 hc) fC_11_1 rfl fp_X8_60 dX8_needHolders_17 (fun M4 eM4 => ?_)
    have hF := hF M4 eM4
    refine j_aload_n hJ dX8_needHolders_20 rfl 0 rfl ?_
    refine j_gr (e := (c + 1)) hJ (kS_0 hc) fC_11_2 fl_X8_17 dX8_needHolders_21 rfl ?_
    refine j_iconst hJ dX8_needHolders_24 ?_
    refine j_aload_n hJ dX8_needHolders_25 rfl 1 rfl ?_
    refine j_gi hJ (kP_0 hp1) fC_8_0 rfl fl_X8_64 dX8_needHolders_26 (fun v5 ev5 gv5 => ?_)
    have hF := hF v5 ev5 gv5
    refine j_iconst hJ dX8_needHolders_29 ?_
    refine j_iadd hJ dX8_needHolders_30 ?_
    have g6 := hF.1; have hF := hF.2
    refine j_iconst hJ dX8_needHolders_31 ?_
    refine j_callSv hJ (c_J7_fill_fda19_C (l := l) (D := D) (cy := cy) (ad := ad) hin) rfl om_214 ⟨rfl, rfl, Nat.le_of_ble_eq_true rfl, Nat.le_of_ble_eq_true rfl⟩ [.ref (ad (c + 1)), .int (Ii 0), .int (Ii (v5 + 1)), .int (Ii 0)] mv_X8_67 hd_J7_fill_fda19 rfl (Nat.le_of_ble_eq_true rfl) dX8_needHolders_32 ⟨(c + 1), 401, 0, (v5 + 1), 0, rfl, (kS_1 hc), (by decide), rk_0, g6, rk_0, hF⟩ (fun M8 qM8 => ?_)
    have hF := qM8
    refine j_iconst hJ dX8_needHolders_35 ?_
    refine j_istore_n (lv' := [(2, .int (Ii 0)), (0, .ref (ad c)), (1, .ref (ad p1))]) hJ dX8_needHolders_36 rfl (by decide) rfl ?_
    exact j_sub hJ [1, 2, 0] rfl (k_X8_needHolders_b37 hin hc hp1 hJ  0 _ rk_0 hF)
  · have hF := hF.2 z2
    exact j_vret hJ rfl dX8_needHolders_9 hF
def W_X4_run (ad : Nat → Nat) (Q : Int → MM → Prop) (av : List Value) (M : MM) : Prop := ∃ (p1 : Nat) (p2 : Nat), av = [.ref (ad 219), .ref (ad p1), .ref (ad p2)] ∧ isG p1 ∧ isP p2 ∧ w_X4_run p1 p2 Q  M
set_option maxHeartbeats 4000000 in
set_option maxRecDepth 100000 in
theorem k_X4_run_b95 {l : Launch} {D : va_G} {cy : Nat → ClassId} {ad : Nat → Nat} {Q : Int → MM → Prop} {J : Nat → List (Nat × Value) → List Value → MM → Prop} (hin : jIn ad ksC.length) {p1 p2 : Nat} (hp1 : isG p1) (hp2 : isP p2) (hJ : jOk l D vwCl (tyC cy) cy ad ftC ksC (XtC ad) Om RX4 cX4_run 5 3 ({ frames := 5, cells := 0, slots := 0, locals := 122 } : Room) Q J)  : ∀ (x3 : Int) (M : MM), ri_ x3 → w_X4_run_b95 p1 p2 Q  x3 M → J 95 [(0, .ref (ad 219)), (3, .int (Ii x3))] [] M := by
  intro x3 M gx3 hF
  unfold w_X4_run_b95 at hF
  refine j_iload_n hJ dX4_run_95 rfl 1 rfl ?_
  refine j_aload_n hJ dX4_run_96 rfl 0 rfl ?_
  obtain ⟨c1, ec1, hc1, hF⟩ := hF
  refine j_gq hJ kC_219 fC_7_2 rfl fl_X4_75 dX4_run_97 ec1 ?_
  refine j_gi hJ (kG_0 hc1) fC_9_5 rfl fl_X4_107 dX4_run_100 (fun v2 ev2 gv2 => ?_)
  have hF := hF v2 ev2 gv2
  refine j_icmp_lt hJ 120 gx3 gv2 dX4_run_103 (by decide) (fun z3 => ?_) (fun z3 => ?_)
  · have hF := hF.1 z3
    refine j_iconst hJ dX4_run_120 ?_
    exact j_zret hJ rfl (by decide) dX4_run_121 hF
  · have hF := hF.2 z3
    refine j_aload_n hJ dX4_run_106 rfl 0 rfl ?_
    refine j_gi hJ kC_219 fC_7_3 rfl fl_X4_83 dX4_run_107 (fun v4 ev4 gv4 => ?_)
    have hF := hF v4 ev4 gv4
    refine j_sipush hJ dX4_run_110 (by decide) ?_
    refine j_icmp_gt hJ 120 gv4 rk_30000 dX4_run_113 (by decide) (fun z5 => ?_) (fun z5 => ?_)
    · have hF := hF.1 z5
      refine j_iconst hJ dX4_run_120 ?_
      exact j_zret hJ rfl (by decide) dX4_run_121 hF
    · have hF := hF.2 z5
      refine j_iconst hJ dX4_run_116 ?_
      refine j_goto hJ 121 dX4_run_117 (by decide) ?_
      exact j_zret hJ rfl (by decide) dX4_run_121 hF
set_option maxHeartbeats 4000000 in
set_option maxRecDepth 100000 in
theorem k_X4_run_b55 {l : Launch} {D : va_G} {cy : Nat → ClassId} {ad : Nat → Nat} {Q : Int → MM → Prop} {J : Nat → List (Nat × Value) → List Value → MM → Prop} (hin : jIn ad ksC.length) {p1 p2 : Nat} (hp1 : isG p1) (hp2 : isP p2) (hJ : jOk l D vwCl (tyC cy) cy ad ftC ksC (XtC ad) Om RX4 cX4_run 5 3 ({ frames := 5, cells := 0, slots := 0, locals := 122 } : Room) Q J)  : ∀ (x3 x4 : Int) (M : MM), ri_ x3 → ri_ x4 → w_X4_run_b55 p1 p2 Q  x3 x4 M → J 55 [(0, .ref (ad 219)), (3, .int (Ii x3)), (4, .int (Ii x4))] [] M := by
  have H9 : ∀ (n : Nat) (x3 x4 : Int) (M : MM), ri_ x3 → ri_ x4 → jit (fun _ _ _ => False) (wb_X4_run_b55 p1 p2 Q ) n x3 x4 M → J 55 [(0, .ref (ad 219)), (3, .int (Ii x3)), (4, .int (Ii x4))] [] M := by
    intro n
    induction n with
    | zero => intro x3 x4 M gx3 gx4 hF; exact False.elim hF
    | succ n ih =>
    intro x3 x4 M gx3 gx4 hF
    have hF : wb_X4_run_b55 p1 p2 Q  (jit (fun _ _ _ => False) (wb_X4_run_b55 p1 p2 Q ) n) x3 x4 M := hF
    unfold wb_X4_run_b55 at hF
    refine j_iload hJ dX4_run_55 2 rfl ?_
    refine j_ldc hJ 1000000 om_290 (by decide) dX4_run_57 ?_
    refine j_icmp_ge hJ 95 gx4 rk_1000000 dX4_run_59 (by decide) (fun z1 => ?_) (fun z1 => ?_)
    · have hF := hF.1 z1
      exact j_sub hJ [0, 1] rfl (k_X4_run_b95 hin hp1 hp2 hJ  x3 _ gx3 hF)
    · have hF := hF.2 z1
      refine j_iload_n hJ dX4_run_62 rfl 1 rfl ?_
      refine j_aload_n hJ dX4_run_63 rfl 0 rfl ?_
      obtain ⟨c2, ec2, hc2, hF⟩ := hF
      refine j_gq hJ kC_219 fC_7_2 rfl fl_X4_75 dX4_run_64 ec2 ?_
      refine j_gi hJ (kG_0 hc2) fC_9_5 rfl fl_X4_107 dX4_run_67 (fun v3 ev3 gv3 => ?_)
      have hF := hF v3 ev3 gv3
      refine j_icmp_ge hJ 95 gx3 gv3 dX4_run_70 (by decide) (fun z4 => ?_) (fun z4 => ?_)
      · have hF := hF.1 z4
        exact j_sub hJ [0, 1] rfl (k_X4_run_b95 hin hp1 hp2 hJ  x3 _ gx3 hF)
      · have hF := hF.2 z4
        refine j_aload_n hJ dX4_run_73 rfl 0 rfl ?_
        refine j_gi hJ kC_219 fC_7_3 rfl fl_X4_83 dX4_run_74 (fun v5 ev5 gv5 => ?_)
        have hF := hF v5 ev5 gv5
        refine j_sipush hJ dX4_run_77 (by decide) ?_
        refine j_icmp_gt hJ 95 gv5 rk_30000 dX4_run_80 (by decide) (fun z6 => ?_) (fun z6 => ?_)
        · have hF := hF.1 z6
          exact j_sub hJ [0, 1] rfl (k_X4_run_b95 hin hp1 hp2 hJ  x3 _ gx3 hF)
        · have hF := hF.2 z6
          refine j_aload_n hJ dX4_run_83 rfl 0 rfl ?_
          refine j_iload_n hJ dX4_run_84 rfl 1 rfl ?_
          refine j_callVi hJ (c_X4_execute (l := l) (D := D) (cy := cy) (ad := ad) hin) rfl om_411 ⟨rfl, rfl, Nat.le_of_ble_eq_true rfl, Nat.le_of_ble_eq_true rfl⟩ [.int (Ii x3)] mv_X4_110 hd_X4_executev kC_219 rfl rfl rfl (Nat.le_of_ble_eq_true rfl) dX4_run_85 ⟨x3, rfl, gx3, hF⟩ (fun r7 M8 gr7 qM8 => ?_)
          have hF := qM8 gr7
          refine j_istore_n (lv' := [(3, .int (Ii r7)), (0, .ref (ad 219)), (4, .int (Ii x4))]) hJ dX4_run_88 rfl (by decide) rfl ?_
          refine j_iinc (lv' := [(4, .int (Ii (x4 + 1))), (3, .int (Ii r7)), (0, .ref (ad 219))]) (k := 2) hJ dX4_run_89 rfl (by decide) rfl ?_
          have g9 := hF.1; have hF := hF.2
          refine j_goto hJ 55 dX4_run_92 (by decide) ?_
          exact j_sub hJ [2, 1, 0] rfl (ih r7 (x4 + 1) _ gr7 g9 hF)
  intro x3 x4 M gx3 gx4 hF
  obtain ⟨n, hF⟩ := hF
  exact H9 n x3 x4 M gx3 gx4 hF
set_option maxHeartbeats 4000000 in
set_option maxRecDepth 100000 in
theorem k_X4_run_b50 {l : Launch} {D : va_G} {cy : Nat → ClassId} {ad : Nat → Nat} {Q : Int → MM → Prop} {J : Nat → List (Nat × Value) → List Value → MM → Prop} (hin : jIn ad ksC.length) {p1 p2 : Nat} (hp1 : isG p1) (hp2 : isP p2) (hJ : jOk l D vwCl (tyC cy) cy ad ftC ksC (XtC ad) Om RX4 cX4_run 5 3 ({ frames := 5, cells := 0, slots := 0, locals := 122 } : Room) Q J)  : ∀ (M : MM), w_X4_run_b50 p1 p2 Q   M → J 50 [(0, .ref (ad 219))] [] M := by
  intro  M  hF
  unfold w_X4_run_b50 at hF
  refine j_iconst hJ dX4_run_50 ?_
  refine j_istore_n (lv' := [(3, .int (Ii 0)), (0, .ref (ad 219))]) hJ dX4_run_51 rfl (by decide) rfl ?_
  refine j_iconst hJ dX4_run_52 ?_
  refine j_istore (lv' := [(4, .int (Ii 0)), (3, .int (Ii 0)), (0, .ref (ad 219))]) hJ dX4_run_53 (by decide) rfl ?_
  exact j_sub hJ [2, 1, 0] rfl (k_X4_run_b55 hin hp1 hp2 hJ  0 0 _ rk_0 rk_0 hF)
set_option maxHeartbeats 4000000 in
set_option maxRecDepth 100000 in
theorem k_X4_run_b35 {l : Launch} {D : va_G} {cy : Nat → ClassId} {ad : Nat → Nat} {Q : Int → MM → Prop} {J : Nat → List (Nat × Value) → List Value → MM → Prop} (hin : jIn ad ksC.length) {p1 p2 : Nat} (hp1 : isG p1) (hp2 : isP p2) (hJ : jOk l D vwCl (tyC cy) cy ad ftC ksC (XtC ad) Om RX4 cX4_run 5 3 ({ frames := 5, cells := 0, slots := 0, locals := 122 } : Room) Q J)  : ∀ (M : MM), w_X4_run_b35 p1 p2 Q   M → J 35 [(0, .ref (ad 219)), (1, .ref (ad p1)), (2, .ref (ad p2))] [] M := by
  intro  M  hF
  unfold w_X4_run_b35 at hF
  refine j_aload_n hJ dX4_run_35 rfl 1 rfl ?_
  refine j_gz hJ (kG_0 hp1) fC_9_9 rfl fl_X4_100 dX4_run_36 (fun v1 ev1 gv1 => ?_)
  have hF := hF v1 ev1 gv1
  refine j_if_eq hJ 50 (jz_ri gv1) dX4_run_39 (by decide) (fun z2 => ?_) (fun z2 => ?_)
  · have hF := hF.1 z2
    exact j_sub hJ [0] rfl (k_X4_run_b50 hin hp1 hp2 hJ   _  hF)
  · have hF := hF.2 z2
    refine j_aload_n hJ dX4_run_42 rfl 2 rfl ?_
    refine j_gr (e := (p2 + 18)) hJ (kP_0 hp2) fC_8_20 fl_X4_90 dX4_run_43 rfl ?_
    refine j_aload_n hJ dX4_run_46 rfl 2 rfl ?_
    refine j_callVv hJ (c_X8_needDominators (l := l) (D := D) (cy := cy) (ad := ad) hin) rfl om_427 ⟨rfl, rfl, Nat.le_of_ble_eq_true rfl, Nat.le_of_ble_eq_true rfl⟩ [.ref (ad p2)] mv_X4_103 hd_X8_needDominatorsv (kP_18 hp2) rfl rfl rfl (Nat.le_of_ble_eq_true rfl) dX4_run_47 ⟨(p2 + 18), p2, rfl, (isS_P hp2), hp2, hF⟩ (fun M4 qM4 => ?_)
    have hF := qM4
    exact j_sub hJ [0] rfl (k_X4_run_b50 hin hp1 hp2 hJ   _  hF)
set_option maxHeartbeats 4000000 in
set_option maxRecDepth 100000 in
theorem c_X4_run {l : Launch} {D : va_G} {cy : Nat → ClassId} {ad : Nat → Nat} (hin : jIn ad ksC.length) : jCN l D vwCl (tyC cy) cy ad ftC ksC (XtC ad) yX4_run (.code yX4_run cX4_run 5 (some .boolean) :: Om) ({ frames := 5, cells := 0, slots := 0, locals := 122 } : Room) 3 (W_X4_run ad) := by
  refine jCN_of (y := yX4_run) (cc := cX4_run) (nL := 5) (rk := 3) (rm := ({ frames := 5, cells := 0, slots := 0, locals := 122 } : Room)) (own := RX4) (tyC_ok cy) hin (XtC_ok ad) Om_good (by decide) rfl ?_
  intro Q av M hF
  obtain ⟨p1, p2, rfl, hp1, hp2, hF⟩ := hF
  refine ⟨Nat.le_of_ble_eq_true rfl, fun J hJ => ?_⟩
  show J 0 [(0, .ref (ad 219)), (1, .ref (ad p1)), (2, .ref (ad p2))] [] M
  unfold w_X4_run at hF
  refine j_aload_n hJ dX4_run_0 rfl 0 rfl ?_
  refine j_aload_n hJ dX4_run_1 rfl 1 rfl ?_
  refine j_pq hJ (ri_G hp1) kC_219 fC_7_2 rfl fp_X4_75 dX4_run_2 (fun M1 eM1 => ?_)
  have hF := hF M1 eM1
  refine j_aload_n hJ dX4_run_5 rfl 0 rfl ?_
  refine j_aload_n hJ dX4_run_6 rfl 2 rfl ?_
  refine j_pq hJ (ri_P hp2) kC_219 fC_7_1 rfl fp_X4_79 dX4_run_7 (fun M2 eM2 => ?_)
  have hF := hF M2 eM2
  refine j_aload_n hJ dX4_run_10 rfl 0 rfl ?_
  refine j_iconst hJ dX4_run_11 ?_
  refine j_pi hJ rk_0 kC_219 fC_7_3 rfl fp_X4_83 dX4_run_12 (fun M3 eM3 => ?_)
  have hF := hF M3 eM3
  refine j_aload_n hJ dX4_run_15 rfl 0 rfl ?_
  refine j_iconst hJ dX4_run_16 ?_
  refine j_pi hJ rk_0 kC_219 fC_7_6 rfl fp_X4_67 dX4_run_17 (fun M4 eM4 => ?_)
  have hF := hF M4 eM4
  refine j_aload_n hJ dX4_run_20 rfl 1 rfl ?_
  refine j_gz hJ (kG_0 hp1) fC_9_8 rfl fl_X4_86 dX4_run_21 (fun v5 ev5 gv5 => ?_)
  have hF := hF v5 ev5 gv5
  refine j_if_eq hJ 35 (jz_ri gv5) dX4_run_24 (by decide) (fun z6 => ?_) (fun z6 => ?_)
  · have hF := hF.1 z6
    exact j_sub hJ [0, 1, 2] rfl (k_X4_run_b35 hin hp1 hp2 hJ   _  hF)
  · have hF := hF.2 z6
    refine j_aload_n hJ dX4_run_27 rfl 2 rfl ?_
    refine j_gr (e := (p2 + 18)) hJ (kP_0 hp2) fC_8_20 fl_X4_90 dX4_run_28 rfl ?_
    refine j_aload_n hJ dX4_run_31 rfl 2 rfl ?_
    refine j_callVv hJ (c_X8_needHolders (l := l) (D := D) (cy := cy) (ad := ad) hin) rfl om_436 ⟨rfl, rfl, Nat.le_of_ble_eq_true rfl, Nat.le_of_ble_eq_true rfl⟩ [.ref (ad p2)] mv_X4_94 hd_X8_needHoldersv (kP_18 hp2) rfl rfl rfl (Nat.le_of_ble_eq_true rfl) dX4_run_32 ⟨(p2 + 18), p2, rfl, (isS_P hp2), hp2, hF⟩ (fun M8 qM8 => ?_)
    have hF := qM8
    exact j_sub hJ [0, 1, 2] rfl (k_X4_run_b35 hin hp1 hp2 hJ   _  hF)
def W_X5_meet (ad : Nat → Nat) (Q : Int → MM → Prop) (av : List Value) (M : MM) : Prop := ∃ (c : Nat) (p2 : Int) (p3 : Int) (p4 : Int), av = [.ref (ad c), .ref (ad 26), .int (Ii p2), .int (Ii p3), .int (Ii p4)] ∧ isP c ∧ ri_ p2 ∧ ri_ p3 ∧ ri_ p4 ∧ w_X5_meet c Q p2 p3 p4 M
set_option maxHeartbeats 4000000 in
set_option maxRecDepth 100000 in
theorem c_X5_meet {l : Launch} {D : va_G} {cy : Nat → ClassId} {ad : Nat → Nat} (hin : jIn ad ksC.length) : jCN l D vwCl (tyC cy) cy ad ftC ksC (XtC ad) yX5_meet (.code yX5_meet cX5_meet 6 (some .int) :: Om) ({ frames := 3, cells := 0, slots := 0, locals := 63 } : Room) 1 (W_X5_meet ad) := by
  refine jCN_of (y := yX5_meet) (cc := cX5_meet) (nL := 6) (rk := 1) (rm := ({ frames := 3, cells := 0, slots := 0, locals := 63 } : Room)) (own := RX5) (tyC_ok cy) hin (XtC_ok ad) Om_good (by decide) rfl ?_
  intro Q av M hF
  obtain ⟨c, p2, p3, p4, rfl, hc, gp2, gp3, gp4, hF⟩ := hF
  refine ⟨Nat.le_of_ble_eq_true rfl, fun J hJ => ?_⟩
  show J 0 [(0, .ref (ad c)), (1, .ref (ad 26)), (2, .int (Ii p2)), (3, .int (Ii p3)), (4, .int (Ii p4))] [] M
  unfold w_X5_meet at hF
  refine j_aload_n hJ dX5_meet_0 rfl 0 rfl ?_
  refine j_gr (e := (c + 8)) hJ (kP_0 hc) fC_8_8 fl_X5_35 dX5_meet_1 rfl ?_
  refine j_iload_n hJ dX5_meet_4 rfl 2 rfl ?_
  refine j_iald hJ gp2 (kP_8 hc) hF.1 hF.2.1 dX5_meet_5 (fun v1 ev1 gv1 => ?_)
  have hF := hF.2.2 v1 ev1 gv1
  refine j_iconst hJ dX5_meet_6 ?_
  refine j_icmp_eq hJ 17 gv1 rk_m1 dX5_meet_7 (by decide) (fun z2 => ?_) (fun z2 => ?_)
  · have hF := hF.1 z2
    refine j_aload_n hJ dX5_meet_17 rfl 0 rfl ?_
    refine j_iload_n hJ dX5_meet_18 rfl 2 rfl ?_
    refine j_aload_n hJ dX5_meet_19 rfl 1 rfl ?_
    refine j_gr (e := 27) hJ kC_26 fC_5_4 fl_X5_138 dX5_meet_20 rfl ?_
    refine j_iload_n hJ dX5_meet_23 rfl 2 rfl ?_
    refine j_iald hJ gp2 kC_27 hF.1 hF.2.1 dX5_meet_24 (fun v3 ev3 gv3 => ?_)
    have hF := hF.2.2 v3 ev3 gv3
    refine j_aload_n hJ dX5_meet_25 rfl 1 rfl ?_
    refine j_gr (e := 28) hJ kC_26 fC_5_5 fl_X5_139 dX5_meet_26 rfl ?_
    refine j_iload_n hJ dX5_meet_29 rfl 2 rfl ?_
    refine j_iald hJ gp2 kC_28 hF.1 hF.2.1 dX5_meet_30 (fun v4 ev4 gv4 => ?_)
    have hF := hF.2.2 v4 ev4 gv4
    refine j_aload_n hJ dX5_meet_31 rfl 1 rfl ?_
    refine j_iload_n hJ dX5_meet_32 rfl 2 rfl ?_
    refine j_callVi hJ (c_X2_slotsOf (l := l) (D := D) (cy := cy) (ad := ad) hin) rfl om_182 ⟨rfl, rfl, Nat.le_of_ble_eq_true rfl, Nat.le_of_ble_eq_true rfl⟩ [.int (Ii p2)] mv_X5_140 hd_X2_slotsOfv kC_26 rfl rfl rfl (Nat.le_of_ble_eq_true rfl) dX5_meet_33 ⟨p2, rfl, gp2, hF⟩ (fun r5 M6 gr5 qM6 => ?_)
    have hF := qM6 gr5
    refine j_callVi hJ (c_X5_addThing (l := l) (D := D) (cy := cy) (ad := ad) hin) rfl om_48 ⟨rfl, rfl, Nat.le_of_ble_eq_true rfl, Nat.le_of_ble_eq_true rfl⟩ [.int (Ii p2), .int (Ii v3), .int (Ii v4), .int (Ii r5)] mv_X5_144 hd_X5_addThingv (kP_0 hc) rfl rfl rfl (Nat.le_of_ble_eq_true rfl) dX5_meet_36 ⟨c, p2, v3, v4, r5, rfl, hc, gp2, gv3, gv4, gr5, hF⟩ (fun r7 M8 gr7 qM8 => ?_)
    have hF := qM8 gr7
    refine j_istore (lv' := [(5, .int (Ii r7)), (0, .ref (ad c)), (1, .ref (ad 26)), (2, .int (Ii p2)), (3, .int (Ii p3)), (4, .int (Ii p4))]) hJ dX5_meet_39 (by decide) rfl ?_
    refine j_aload_n hJ dX5_meet_41 rfl 1 rfl ?_
    refine j_iload hJ dX5_meet_42 0 rfl ?_
    refine j_iload_n hJ dX5_meet_44 rfl 4 rfl ?_
    refine j_iload hJ dX5_meet_45 5 rfl ?_
    refine j_callVv hJ (c_X5_setWay (l := l) (D := D) (cy := cy) (ad := ad) hin) rfl om_109 ⟨rfl, rfl, Nat.le_of_ble_eq_true rfl, Nat.le_of_ble_eq_true rfl⟩ [.int (Ii r7), .int (Ii p3), .int (Ii p4)] mv_X5_148 hd_X5_setWayv (kP_0 hc) rfl rfl rfl (Nat.le_of_ble_eq_true rfl) dX5_meet_47 ⟨c, r7, p3, p4, rfl, hc, gr7, gp3, gp4, hF⟩ (fun M10 qM10 => ?_)
    have hF := qM10
    refine j_iload hJ dX5_meet_50 0 rfl ?_
    exact j_iret hJ rfl gr7 dX5_meet_52 hF
  · have hF := hF.2 z2
    refine j_aload_n hJ dX5_meet_10 rfl 0 rfl ?_
    refine j_gr (e := (c + 8)) hJ (kP_0 hc) fC_8_8 fl_X5_35 dX5_meet_11 rfl ?_
    refine j_iload_n hJ dX5_meet_14 rfl 2 rfl ?_
    refine j_iald hJ gp2 (kP_8 hc) hF.1 hF.2.1 dX5_meet_15 (fun v11 ev11 gv11 => ?_)
    have hF := hF.2.2 v11 ev11 gv11
    exact j_iret hJ rfl gv11 dX5_meet_16 hF
def W_X5_takeSlots (ad : Nat → Nat) (Q : Int → MM → Prop) (av : List Value) (M : MM) : Prop := ∃ (c : Nat) (p2 : Int), av = [.ref (ad c), .ref (ad 26), .int (Ii p2)] ∧ isP c ∧ ri_ p2 ∧ w_X5_takeSlots c Q p2 M
set_option maxHeartbeats 4000000 in
set_option maxRecDepth 100000 in
theorem k_X5_takeSlots_b121 {l : Launch} {D : va_G} {cy : Nat → ClassId} {ad : Nat → Nat} {Q : Int → MM → Prop} {J : Nat → List (Nat × Value) → List Value → MM → Prop} (hin : jIn ad ksC.length) {c : Nat} (hc : isP c) (hJ : jOk l D vwCl (tyC cy) cy ad ftC ksC (XtC ad) Om RX5 cX5_takeSlots 9 0 ({ frames := 4, cells := 0, slots := 0, locals := 88 } : Room) Q J) {K32 : Int → Int → Int → Int → MM → Prop} (hK32 : ∀ (x2 x3 x4 x5 : Int) (M : MM), ri_ x2 → ri_ x3 → ri_ x4 → ri_ x5 → K32 x2 x3 x4 x5 M → J 32 [(0, .ref (ad c)), (1, .ref (ad 26)), (2, .int (Ii x2)), (3, .int (Ii x3)), (4, .int (Ii x4)), (5, .int (Ii x5))] [] M) : ∀ (x2 x3 x4 x5 s0 s1 : Int) (M : MM), ri_ x2 → ri_ x3 → ri_ x4 → ri_ x5 → rl_ s0 → ri_ s1 → w_X5_takeSlots_b121 c Q K32 x2 x3 x4 x5 s0 s1 M → J 121 [(0, .ref (ad c)), (1, .ref (ad 26)), (2, .int (Ii x2)), (3, .int (Ii x3)), (4, .int (Ii x4)), (5, .int (Ii x5))] [.long (Ll s0), .int (Ii s1), .ref (ad (c + 9))] M := by
  intro x2 x3 x4 x5 s0 s1 M gx2 gx3 gx4 gx5 gs0 gs1 hF
  unfold w_X5_takeSlots_b121 at hF
  refine j_last hJ gs1 gs0 (kP_9 hc) hF.1 hF.2.1 dX5_takeSlots_121 (fun M1 eM1 => ?_)
  have hF := hF.2.2 M1 eM1
  refine j_iinc (lv' := [(5, .int (Ii (x5 + 1))), (0, .ref (ad c)), (1, .ref (ad 26)), (2, .int (Ii x2)), (3, .int (Ii x3)), (4, .int (Ii x4))]) (k := 5) hJ dX5_takeSlots_122 rfl (by decide) rfl ?_
  have g2 := hF.1; have hF := hF.2
  refine j_goto hJ 32 dX5_takeSlots_125 (by decide) ?_
  exact j_sub hJ [1, 2, 3, 4, 5, 0] rfl (hK32 x2 x3 x4 (x5 + 1) _ gx2 gx3 gx4 g2 hF)
set_option maxHeartbeats 4000000 in
set_option maxRecDepth 100000 in
theorem k_X5_takeSlots_b119 {l : Launch} {D : va_G} {cy : Nat → ClassId} {ad : Nat → Nat} {Q : Int → MM → Prop} {J : Nat → List (Nat × Value) → List Value → MM → Prop} (hin : jIn ad ksC.length) {c : Nat} (hc : isP c) (hJ : jOk l D vwCl (tyC cy) cy ad ftC ksC (XtC ad) Om RX5 cX5_takeSlots 9 0 ({ frames := 4, cells := 0, slots := 0, locals := 88 } : Room) Q J) {K32 : Int → Int → Int → Int → MM → Prop} (hK32 : ∀ (x2 x3 x4 x5 : Int) (M : MM), ri_ x2 → ri_ x3 → ri_ x4 → ri_ x5 → K32 x2 x3 x4 x5 M → J 32 [(0, .ref (ad c)), (1, .ref (ad 26)), (2, .int (Ii x2)), (3, .int (Ii x3)), (4, .int (Ii x4)), (5, .int (Ii x5))] [] M) : ∀ (x2 x3 x4 x5 x6 s0 : Int) (M : MM), ri_ x2 → ri_ x3 → ri_ x4 → ri_ x5 → rl_ x6 → ri_ s0 → w_X5_takeSlots_b119 c Q K32 x2 x3 x4 x5 x6 s0 M → J 119 [(0, .ref (ad c)), (1, .ref (ad 26)), (2, .int (Ii x2)), (3, .int (Ii x3)), (4, .int (Ii x4)), (5, .int (Ii x5)), (6, .long (Ll x6))] [.int (Ii s0), .ref (ad (c + 9))] M := by
  intro x2 x3 x4 x5 x6 s0 M gx2 gx3 gx4 gx5 gx6 gs0 hF
  unfold w_X5_takeSlots_b119 at hF
  refine j_lload hJ dX5_takeSlots_119 6 rfl ?_
  exact j_sub hJ [0, 1, 2, 3, 4, 5] rfl (k_X5_takeSlots_b121 hin hc hJ hK32 x2 x3 x4 x5 x6 s0 _ gx2 gx3 gx4 gx5 gx6 gs0 hF)
set_option maxHeartbeats 4000000 in
set_option maxRecDepth 100000 in
theorem k_X5_takeSlots_b32 {l : Launch} {D : va_G} {cy : Nat → ClassId} {ad : Nat → Nat} {Q : Int → MM → Prop} {J : Nat → List (Nat × Value) → List Value → MM → Prop} (hin : jIn ad ksC.length) {c : Nat} (hc : isP c) (hJ : jOk l D vwCl (tyC cy) cy ad ftC ksC (XtC ad) Om RX5 cX5_takeSlots 9 0 ({ frames := 4, cells := 0, slots := 0, locals := 88 } : Room) Q J)  : ∀ (x2 x3 x4 x5 : Int) (M : MM), ri_ x2 → ri_ x3 → ri_ x4 → ri_ x5 → w_X5_takeSlots_b32 c Q  x2 x3 x4 x5 M → J 32 [(0, .ref (ad c)), (1, .ref (ad 26)), (2, .int (Ii x2)), (3, .int (Ii x3)), (4, .int (Ii x4)), (5, .int (Ii x5))] [] M := by
  have H9 : ∀ (n : Nat) (x2 x3 x4 x5 : Int) (M : MM), ri_ x2 → ri_ x3 → ri_ x4 → ri_ x5 → jit (fun _ _ _ _ _ => False) (wb_X5_takeSlots_b32 c Q ) n x2 x3 x4 x5 M → J 32 [(0, .ref (ad c)), (1, .ref (ad 26)), (2, .int (Ii x2)), (3, .int (Ii x3)), (4, .int (Ii x4)), (5, .int (Ii x5))] [] M := by
    intro n
    induction n with
    | zero => intro x2 x3 x4 x5 M gx2 gx3 gx4 gx5 hF; exact False.elim hF
    | succ n ih =>
    intro x2 x3 x4 x5 M gx2 gx3 gx4 gx5 hF
    have hF : wb_X5_takeSlots_b32 c Q  (jit (fun _ _ _ _ _ => False) (wb_X5_takeSlots_b32 c Q ) n) x2 x3 x4 x5 M := hF
    unfold wb_X5_takeSlots_b32 at hF
    refine j_iload hJ dX5_takeSlots_32 5 rfl ?_
    refine j_iload hJ dX5_takeSlots_34 4 rfl ?_
    refine j_icmp_ge hJ 128 gx5 gx4 dX5_takeSlots_36 (by decide) (fun z1 => ?_) (fun z1 => ?_)
    · have hF := hF.1 z1
      exact j_vret hJ rfl dX5_takeSlots_128 hF
    · have hF := hF.2 z1
      refine j_aload_n hJ dX5_takeSlots_39 rfl 1 rfl ?_
      refine j_gr (e := 30) hJ kC_26 fC_5_7 fl_X5_153 dX5_takeSlots_40 rfl ?_
      refine j_iload_n hJ dX5_takeSlots_43 rfl 3 rfl ?_
      refine j_iload hJ dX5_takeSlots_44 5 rfl ?_
      refine j_iadd hJ dX5_takeSlots_46 ?_
      have g2 := hF.1; have hF := hF.2
      refine j_lald hJ g2 kC_30 hF.1 hF.2.1 dX5_takeSlots_47 (fun v3 ev3 gv3 => ?_)
      have hF := hF.2.2 v3 ev3 gv3
      refine j_lstore (lv' := [(6, .long (Ll v3)), (0, .ref (ad c)), (1, .ref (ad 26)), (2, .int (Ii x2)), (3, .int (Ii x3)), (4, .int (Ii x4)), (5, .int (Ii x5))]) hJ dX5_takeSlots_48 (by decide) rfl ?_
      refine j_aload_n hJ dX5_takeSlots_50 rfl 2 rfl ?_
      refine j_gr (e := 31) hJ kC_26 fC_5_8 fl_X5_154 dX5_takeSlots_51 rfl ?_
      refine j_iload_n hJ dX5_takeSlots_54 rfl 4 rfl ?_
      refine j_iload hJ dX5_takeSlots_55 6 rfl ?_
      refine j_iadd hJ dX5_takeSlots_57 ?_
      have g4 := hF.1; have hF := hF.2
      refine j_zald hJ g4 kC_31 hF.1 hF.2.1 dX5_takeSlots_58 (fun v5 ev5 gv5 => ?_)
      have hF := hF.2.2 v5 ev5 gv5
      refine j_istore (lv' := [(8, .int (Ii v5)), (6, .long (Ll v3)), (0, .ref (ad c)), (1, .ref (ad 26)), (2, .int (Ii x2)), (3, .int (Ii x3)), (4, .int (Ii x4)), (5, .int (Ii x5))]) hJ dX5_takeSlots_59 (by decide) rfl ?_
      refine j_aload_n hJ dX5_takeSlots_61 rfl 2 rfl ?_
      refine j_gr (e := (c + 10)) hJ (kP_0 hc) fC_8_10 fl_X5_48 dX5_takeSlots_62 rfl ?_
      refine j_aload_n hJ dX5_takeSlots_65 rfl 2 rfl ?_
      refine j_gr (e := (c + 4)) hJ (kP_0 hc) fC_8_4 fl_X5_21 dX5_takeSlots_66 rfl ?_
      refine j_iload_n hJ dX5_takeSlots_69 rfl 4 rfl ?_
      refine j_iald hJ gx2 (kP_4 hc) hF.1 hF.2.1 dX5_takeSlots_70 (fun v6 ev6 gv6 => ?_)
      have hF := hF.2.2 v6 ev6 gv6
      refine j_iload hJ dX5_takeSlots_71 7 rfl ?_
      refine j_iadd hJ dX5_takeSlots_73 ?_
      have g7 := hF.1; have hF := hF.2
      refine j_iload hJ dX5_takeSlots_74 0 rfl ?_
      refine j_zast hJ g7 gv5 (kP_10 hc) hF.1 hF.2.1 dX5_takeSlots_76 (fun M8 eM8 => ?_)
      have hF := hF.2.2 M8 eM8
      refine j_aload_n hJ dX5_takeSlots_77 rfl 2 rfl ?_
      refine j_gr (e := (c + 9)) hJ (kP_0 hc) fC_8_9 fl_X5_44 dX5_takeSlots_78 rfl ?_
      refine j_aload_n hJ dX5_takeSlots_81 rfl 2 rfl ?_
      refine j_gr (e := (c + 4)) hJ (kP_0 hc) fC_8_4 fl_X5_21 dX5_takeSlots_82 rfl ?_
      refine j_iload_n hJ dX5_takeSlots_85 rfl 4 rfl ?_
      refine j_iald hJ gx2 (kP_4 hc) hF.1 hF.2.1 dX5_takeSlots_86 (fun v9 ev9 gv9 => ?_)
      have hF := hF.2.2 v9 ev9 gv9
      refine j_iload hJ dX5_takeSlots_87 7 rfl ?_
      refine j_iadd hJ dX5_takeSlots_89 ?_
      have g10 := hF.1; have hF := hF.2
      refine j_iload hJ dX5_takeSlots_90 0 rfl ?_
      refine j_if_eq hJ 119 (jz_ri gv5) dX5_takeSlots_92 (by decide) (fun z11 => ?_) (fun z11 => ?_)
      · have hF := hF.1 z11
        exact j_sub hJ [2, 3, 4, 5, 6, 7, 1] rfl (k_X5_takeSlots_b119 hin hc hJ ih x2 x3 x4 x5 v3 (v9 + x5) _ gx2 gx3 gx4 gx5 gv3 g10 hF)
      · have hF := hF.2 z11
        refine j_lload hJ dX5_takeSlots_95 1 rfl ?_
        refine j_ldc2 hJ (-1) om_442 (by decide) dX5_takeSlots_97 ?_
        refine j_lcmp_eq hJ 119 gv3 lk_m1 dX5_takeSlots_100 dX5_takeSlots_101 (by decide) (fun z12 => ?_) (fun z12 => ?_)
        · have hF := hF.1 z12
          exact j_sub hJ [2, 3, 4, 5, 6, 7, 1] rfl (k_X5_takeSlots_b119 hin hc hJ ih x2 x3 x4 x5 v3 (v9 + x5) _ gx2 gx3 gx4 gx5 gv3 g10 hF)
        · have hF := hF.2 z12
          refine j_aload_n hJ dX5_takeSlots_104 rfl 2 rfl ?_
          refine j_aload_n hJ dX5_takeSlots_105 rfl 3 rfl ?_
          refine j_lload hJ dX5_takeSlots_106 1 rfl ?_
          refine j_l2i hJ dX5_takeSlots_108 ?_
          have g13 := hF.1; have hF := hF.2
          refine j_iload_n hJ dX5_takeSlots_109 rfl 4 rfl ?_
          refine j_iload hJ dX5_takeSlots_110 7 rfl ?_
          refine j_callVi hJ (c_X5_meet (l := l) (D := D) (cy := cy) (ad := ad) hin) rfl om_445 ⟨rfl, rfl, Nat.le_of_ble_eq_true rfl, Nat.le_of_ble_eq_true rfl⟩ [.ref (ad 26), .int (Ii v3), .int (Ii x2), .int (Ii x5)] mv_X5_130 hd_X5_meetv (kP_0 hc) rfl rfl rfl (Nat.le_of_ble_eq_true rfl) dX5_takeSlots_112 ⟨c, v3, x2, x5, rfl, hc, g13, gx2, gx5, hF⟩ (fun r14 M15 gr14 qM15 => ?_)
          have hF := qM15 gr14
          refine j_i2l hJ gr14 dX5_takeSlots_115 ?_
          refine j_goto hJ 121 dX5_takeSlots_116 (by decide) ?_
          exact j_sub hJ [2, 3, 4, 5, 6, 7] rfl (k_X5_takeSlots_b121 hin hc hJ ih x2 x3 x4 x5 r14 (v9 + x5) _ gx2 gx3 gx4 gx5 (rl_ri gr14) g10 hF)
  intro x2 x3 x4 x5 M gx2 gx3 gx4 gx5 hF
  obtain ⟨n, hF⟩ := hF
  exact H9 n x2 x3 x4 x5 M gx2 gx3 gx4 gx5 hF
set_option maxHeartbeats 4000000 in
set_option maxRecDepth 100000 in
theorem c_X5_takeSlots {l : Launch} {D : va_G} {cy : Nat → ClassId} {ad : Nat → Nat} (hin : jIn ad ksC.length) : jCN l D vwCl (tyC cy) cy ad ftC ksC (XtC ad) yX5_takeSlots (.code yX5_takeSlots cX5_takeSlots 9 none :: Om) ({ frames := 4, cells := 0, slots := 0, locals := 88 } : Room) 0 (W_X5_takeSlots ad) := by
  refine jCN_of (y := yX5_takeSlots) (cc := cX5_takeSlots) (nL := 9) (rk := 0) (rm := ({ frames := 4, cells := 0, slots := 0, locals := 88 } : Room)) (own := RX5) (tyC_ok cy) hin (XtC_ok ad) Om_good (by decide) rfl ?_
  intro Q av M hF
  obtain ⟨c, p2, rfl, hc, gp2, hF⟩ := hF
  refine ⟨Nat.le_of_ble_eq_true rfl, fun J hJ => ?_⟩
  show J 0 [(0, .ref (ad c)), (1, .ref (ad 26)), (2, .int (Ii p2))] [] M
  unfold w_X5_takeSlots at hF
  refine j_aload_n hJ dX5_takeSlots_0 rfl 1 rfl ?_
  refine j_gr (e := 29) hJ kC_26 fC_5_6 fl_X5_152 dX5_takeSlots_1 rfl ?_
  refine j_aload_n hJ dX5_takeSlots_4 rfl 0 rfl ?_
  refine j_gr (e := (c + 1)) hJ (kP_0 hc) fC_8_1 fl_X5_11 dX5_takeSlots_5 rfl ?_
  refine j_iload_n hJ dX5_takeSlots_8 rfl 2 rfl ?_
  refine j_iald hJ gp2 (kP_1 hc) hF.1 hF.2.1 dX5_takeSlots_9 (fun v1 ev1 gv1 => ?_)
  have hF := hF.2.2 v1 ev1 gv1
  refine j_iald hJ gv1 kC_29 hF.1 hF.2.1 dX5_takeSlots_10 (fun v2 ev2 gv2 => ?_)
  have hF := hF.2.2 v2 ev2 gv2
  refine j_istore_n (lv' := [(3, .int (Ii v2)), (0, .ref (ad c)), (1, .ref (ad 26)), (2, .int (Ii p2))]) hJ dX5_takeSlots_11 rfl (by decide) rfl ?_
  refine j_aload_n hJ dX5_takeSlots_12 rfl 1 rfl ?_
  refine j_gr (e := (c + 4)) hJ (kP_0 hc) fC_8_4 fl_X5_21 dX5_takeSlots_13 rfl ?_
  refine j_iload_n hJ dX5_takeSlots_16 rfl 3 rfl ?_
  refine j_iconst hJ dX5_takeSlots_17 ?_
  refine j_iadd hJ dX5_takeSlots_18 ?_
  have g3 := hF.1; have hF := hF.2
  refine j_iald hJ g3 (kP_4 hc) hF.1 hF.2.1 dX5_takeSlots_19 (fun v4 ev4 gv4 => ?_)
  have hF := hF.2.2 v4 ev4 gv4
  refine j_aload_n hJ dX5_takeSlots_20 rfl 1 rfl ?_
  refine j_gr (e := (c + 4)) hJ (kP_0 hc) fC_8_4 fl_X5_21 dX5_takeSlots_21 rfl ?_
  refine j_iload_n hJ dX5_takeSlots_24 rfl 3 rfl ?_
  refine j_iald hJ gp2 (kP_4 hc) hF.1 hF.2.1 dX5_takeSlots_25 (fun v5 ev5 gv5 => ?_)
  have hF := hF.2.2 v5 ev5 gv5
  refine j_isub hJ dX5_takeSlots_26 ?_
  have g6 := hF.1; have hF := hF.2
  refine j_istore (lv' := [(4, .int (Ii (v4 - v5))), (3, .int (Ii v2)), (0, .ref (ad c)), (1, .ref (ad 26)), (2, .int (Ii p2))]) hJ dX5_takeSlots_27 (by decide) rfl ?_
  refine j_iconst hJ dX5_takeSlots_29 ?_
  refine j_istore (lv' := [(5, .int (Ii 0)), (4, .int (Ii (v4 - v5))), (3, .int (Ii v2)), (0, .ref (ad c)), (1, .ref (ad 26)), (2, .int (Ii p2))]) hJ dX5_takeSlots_30 (by decide) rfl ?_
  exact j_sub hJ [3, 4, 5, 2, 1, 0] rfl (k_X5_takeSlots_b32 hin hc hJ  p2 v2 (v4 - v5) 0 _ gp2 gv2 g6 rk_0 hF)
