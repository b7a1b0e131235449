def W_X0_put (ad : Nat → Nat) (Q : Int → MM → Prop) (av : List Value) (M : MM) : Prop := ∃ (p1 : Int), av = [.ref (ad 280), .int (Ii p1)] ∧ ri_ p1 ∧ w_X0_put  Q p1 M
set_option maxHeartbeats 4000000 in
set_option maxRecDepth 100000 in
theorem k_X0_put_b22 {l : Launch} {D : va_G} {cy : Nat → ClassId} {ad : Nat → Nat} {Q : Int → MM → Prop} {J : Nat → List (Nat × Value) → List Value → MM → Prop} (hin : jIn ad ksC.length)   (hJ : jOk l D vwCl (tyC cy) cy ad ftC ksC (XtC ad) Om RX0 cX0_put 2 0 ({ frames := 0, cells := 0, slots := 0, locals := 0 } : Room) Q J)  : ∀ (M : MM), w_X0_put_b22  Q   M → J 22 [(0, .ref (ad 280))] [] M := by
  intro  M  hF
  unfold w_X0_put_b22 at hF
  refine j_aload_n hJ dX0_put_22 rfl 0 rfl ?_
  refine j_dup hJ dX0_put_23 rfl ?_
  refine j_gi hJ kC_280 fC_3_2 rfl fl_X0_35 dX0_put_24 (fun v1 ev1 gv1 => ?_)
  have hF := hF v1 ev1 gv1
  refine j_iconst hJ dX0_put_27 ?_
  refine j_iadd hJ dX0_put_28 ?_
  have g2 := hF.1; have hF := hF.2
  refine j_pi hJ g2 kC_280 fC_3_2 rfl fp_X0_35 dX0_put_29 (fun M3 eM3 => ?_)
  have hF := hF M3 eM3
  exact j_vret hJ rfl dX0_put_32 hF
set_option maxHeartbeats 4000000 in
set_option maxRecDepth 100000 in
theorem c_X0_put {l : Launch} {D : va_G} {cy : Nat → ClassId} {ad : Nat → Nat} (hin : jIn ad ksC.length) : jCN l D vwCl (tyC cy) cy ad ftC ksC (XtC ad) yX0_put (.code yX0_put cX0_put 2 none :: Om) ({ frames := 0, cells := 0, slots := 0, locals := 0 } : Room) 0 (W_X0_put ad) := by
  refine jCN_of (y := yX0_put) (cc := cX0_put) (nL := 2) (rk := 0) (rm := ({ frames := 0, cells := 0, slots := 0, locals := 0 } : Room)) (own := RX0) (tyC_ok cy) hin (XtC_ok ad) Om_good (by decide) rfl ?_
  intro Q av M hF
  obtain ⟨p1, rfl, gp1, hF⟩ := hF
  refine ⟨Nat.le_of_ble_eq_true rfl, fun J hJ => ?_⟩
  show J 0 [(0, .ref (ad 280)), (1, .int (Ii p1))] [] M
  unfold w_X0_put at hF
  refine j_aload_n hJ dX0_put_0 rfl 0 rfl ?_
  refine j_gi hJ kC_280 fC_3_2 rfl fl_X0_35 dX0_put_1 (fun v1 ev1 gv1 => ?_)
  have hF := hF v1 ev1 gv1
  refine j_aload_n hJ dX0_put_4 rfl 0 rfl ?_
  refine j_gr (e := 281) hJ kC_280 fC_3_1 fl_X0_19 dX0_put_5 rfl ?_
  refine j_alen0 hJ kC_281 dX0_put_8 ?_
  refine j_icmp_ge hJ 22 gv1 (by unfold ri_; omega) dX0_put_9 (by decide) (fun z2 => ?_) (fun z2 => ?_)
  · have hF := hF.1 z2
    exact j_sub hJ [0] rfl (k_X0_put_b22 hin  hJ   _  hF)
  · have hF := hF.2 z2
    refine j_aload_n hJ dX0_put_12 rfl 0 rfl ?_
    refine j_gr (e := 281) hJ kC_280 fC_3_1 fl_X0_19 dX0_put_13 rfl ?_
    refine j_aload_n hJ dX0_put_16 rfl 0 rfl ?_
    refine j_gi hJ kC_280 fC_3_2 rfl fl_X0_35 dX0_put_17 (fun v3 ev3 gv3 => ?_)
    have hF := hF v3 ev3 gv3
    refine j_iload_n hJ dX0_put_20 rfl 1 rfl ?_
    refine j_iast hJ gv3 gp1 kC_281 hF.1 hF.2.1 dX0_put_21 (fun M4 eM4 => ?_)
    have hF := hF.2.2 M4 eM4
    exact j_sub hJ [0] rfl (k_X0_put_b22 hin  hJ   _  hF)
def W_X0_putNumber (ad : Nat → Nat) (Q : Int → MM → Prop) (av : List Value) (M : MM) : Prop := ∃ (p1 : Int), av = [.ref (ad 280), .long (Ll p1)] ∧ rl_ p1 ∧ w_X0_putNumber  Q p1 M
set_option maxHeartbeats 4000000 in
set_option maxRecDepth 100000 in
theorem k_X0_putNumber_b46 {l : Launch} {D : va_G} {cy : Nat → ClassId} {ad : Nat → Nat} {Q : Int → MM → Prop} {J : Nat → List (Nat × Value) → List Value → MM → Prop} (hin : jIn ad ksC.length)   (hJ : jOk l D vwCl (tyC cy) cy ad ftC ksC (XtC ad) Om RX0 cX0_putNumber 6 0 ({ frames := 1, cells := 0, slots := 0, locals := 21 } : Room) Q J)  : ∀ (x3 : Int) (M : MM), rl_ x3 → w_X0_putNumber_b46  Q  x3 M → J 46 [(0, .ref (ad 280)), (3, .long (Ll x3))] [] M := by
  intro x3 M gx3 hF
  unfold w_X0_putNumber_b46 at hF
  refine j_aload_n hJ dX0_putNumber_46 rfl 0 rfl ?_
  refine j_lload_n hJ dX0_putNumber_47 rfl 1 rfl ?_
  refine j_l2i hJ dX0_putNumber_48 ?_
  have g1 := hF.1; have hF := hF.2
  refine j_callVv hJ (c_X0_put (l := l) (D := D) (cy := cy) (ad := ad) hin) rfl om_0 ⟨rfl, rfl, Nat.le_of_ble_eq_true rfl, Nat.le_of_ble_eq_true rfl⟩ [.int (Ii x3)] mv_X0_39 hd_X0_putv kC_280 rfl rfl rfl (Nat.le_of_ble_eq_true rfl) dX0_putNumber_49 ⟨x3, rfl, g1, hF⟩ (fun M3 qM3 => ?_)
  have hF := qM3
  exact j_vret hJ rfl dX0_putNumber_52 hF
set_option maxHeartbeats 4000000 in
set_option maxRecDepth 100000 in
theorem k_X0_putNumber_b5 {l : Launch} {D : va_G} {cy : Nat → ClassId} {ad : Nat → Nat} {Q : Int → MM → Prop} {J : Nat → List (Nat × Value) → List Value → MM → Prop} (hin : jIn ad ksC.length)   (hJ : jOk l D vwCl (tyC cy) cy ad ftC ksC (XtC ad) Om RX0 cX0_putNumber 6 0 ({ frames := 1, cells := 0, slots := 0, locals := 21 } : Room) Q J)  : ∀ (x3 x5 : Int) (M : MM), rl_ x3 → ri_ x5 → w_X0_putNumber_b5  Q  x3 x5 M → J 5 [(0, .ref (ad 280)), (3, .long (Ll x3)), (5, .int (Ii x5))] [] M := by
  have H9 : ∀ (n : Nat) (x3 x5 : Int) (M : MM), rl_ x3 → ri_ x5 → jit (fun _ _ _ => False) (wb_X0_putNumber_b5  Q ) n x3 x5 M → J 5 [(0, .ref (ad 280)), (3, .long (Ll x3)), (5, .int (Ii x5))] [] M := by
    intro n
    induction n with
    | zero => intro x3 x5 M gx3 gx5 hF; exact False.elim hF
    | succ n ih =>
    intro x3 x5 M gx3 gx5 hF
    have hF : wb_X0_putNumber_b5  Q  (jit (fun _ _ _ => False) (wb_X0_putNumber_b5  Q ) n) x3 x5 M := hF
    unfold wb_X0_putNumber_b5 at hF
    refine j_iload hJ dX0_putNumber_5 2 rfl ?_
    refine j_bipush hJ dX0_putNumber_7 (by decide) ?_
    refine j_icmp_ge hJ 46 gx5 rk_10 dX0_putNumber_9 (by decide) (fun z1 => ?_) (fun z1 => ?_)
    · have hF := hF.1 z1
      exact j_sub hJ [0, 1] rfl (k_X0_putNumber_b46 hin  hJ  x3 _ gx3 hF)
    · have hF := hF.2 z1
      refine j_lload_n hJ dX0_putNumber_12 rfl 1 rfl ?_
      refine j_bipush hJ dX0_putNumber_13 (by decide) ?_
      refine j_lushr hJ dX0_putNumber_15 ?_
      refine j_lconst (x := 0) hJ dX0_putNumber_16 rfl ?_
      refine j_lcmp_eq hJ 46 (rl_of _) lkm_0 dX0_putNumber_17 dX0_putNumber_18 (by decide) (fun z2 => ?_) (fun z2 => ?_)
      · have hF := hF.1 z2
        exact j_sub hJ [0, 1] rfl (k_X0_putNumber_b46 hin  hJ  x3 _ gx3 hF)
      · have hF := hF.2 z2
        refine j_aload_n hJ dX0_putNumber_21 rfl 0 rfl ?_
        refine j_lload_n hJ dX0_putNumber_22 rfl 1 rfl ?_
        refine j_ldc2 hJ 127 om_5 (by decide) dX0_putNumber_23 ?_
        refine j_land hJ dX0_putNumber_26 ?_
        refine j_l2i hJ dX0_putNumber_27 ?_
        have g3 := hF.1; have hF := hF.2
        refine j_sipush hJ dX0_putNumber_28 (by decide) ?_
        refine j_iadd hJ dX0_putNumber_31 ?_
        have g4 := hF.1; have hF := hF.2
        refine j_callVv hJ (c_X0_put (l := l) (D := D) (cy := cy) (ad := ad) hin) rfl om_0 ⟨rfl, rfl, Nat.le_of_ble_eq_true rfl, Nat.le_of_ble_eq_true rfl⟩ [.int (Ii ((jland x3 127) + 128))] mv_X0_39 hd_X0_putv kC_280 rfl rfl rfl (Nat.le_of_ble_eq_true rfl) dX0_putNumber_32 ⟨((jland x3 127) + 128), rfl, g4, hF⟩ (fun M6 qM6 => ?_)
        have hF := qM6
        refine j_lload_n hJ dX0_putNumber_35 rfl 1 rfl ?_
        refine j_bipush hJ dX0_putNumber_36 (by decide) ?_
        refine j_lushr hJ dX0_putNumber_38 ?_
        refine j_lstore_n (lv' := [(3, .long (Ll (jlushr x3 7))), (0, .ref (ad 280)), (5, .int (Ii x5))]) hJ dX0_putNumber_39 rfl (by decide) rfl ?_
        refine j_iinc (lv' := [(5, .int (Ii (x5 + 1))), (3, .long (Ll (jlushr x3 7))), (0, .ref (ad 280))]) (k := 2) hJ dX0_putNumber_40 rfl (by decide) rfl ?_
        have g7 := hF.1; have hF := hF.2
        refine j_goto hJ 5 dX0_putNumber_43 (by decide) ?_
        exact j_sub hJ [2, 1, 0] rfl (ih (jlushr x3 7) (x5 + 1) _ (rl_of _) g7 hF)
  intro x3 x5 M gx3 gx5 hF
  obtain ⟨n, hF⟩ := hF
  exact H9 n x3 x5 M gx3 gx5 hF
set_option maxHeartbeats 4000000 in
set_option maxRecDepth 100000 in
theorem c_X0_putNumber {l : Launch} {D : va_G} {cy : Nat → ClassId} {ad : Nat → Nat} (hin : jIn ad ksC.length) : jCN l D vwCl (tyC cy) cy ad ftC ksC (XtC ad) yX0_putNumber (.code yX0_putNumber cX0_putNumber 6 none :: Om) ({ frames := 1, cells := 0, slots := 0, locals := 21 } : Room) 0 (W_X0_putNumber ad) := by
  refine jCN_of (y := yX0_putNumber) (cc := cX0_putNumber) (nL := 6) (rk := 0) (rm := ({ frames := 1, cells := 0, slots := 0, locals := 21 } : Room)) (own := RX0) (tyC_ok cy) hin (XtC_ok ad) Om_good (by decide) rfl ?_
  intro Q av M hF
  obtain ⟨p1, rfl, gp1, hF⟩ := hF
  refine ⟨Nat.le_of_ble_eq_true rfl, fun J hJ => ?_⟩
  show J 0 [(0, .ref (ad 280)), (1, .long (Ll p1))] [] M
  unfold w_X0_putNumber at hF
  refine j_lload_n hJ dX0_putNumber_0 rfl 1 rfl ?_
  refine j_lstore_n (lv' := [(3, .long (Ll p1)), (0, .ref (ad 280)), (1, .long (Ll p1))]) hJ dX0_putNumber_1 rfl (by decide) rfl ?_
  refine j_iconst hJ dX0_putNumber_2 ?_
  refine j_istore (lv' := [(5, .int (Ii 0)), (3, .long (Ll p1)), (0, .ref (ad 280)), (1, .long (Ll p1))]) hJ dX0_putNumber_3 (by decide) rfl ?_
  exact j_sub hJ [2, 1, 0] rfl (k_X0_putNumber_b5 hin  hJ  p1 0 _ gp1 rk_0 hF)
def W_X0_checkOf (ad : Nat → Nat) (Q : Int → MM → Prop) (av : List Value) (M : MM) : Prop := ∃ (p1 : Nat) (np1 : Nat) (p2 : Int) (p3 : Int), av = [.ref (ad p1), .int (Ii p2), .int (Ii p3)] ∧ ksC[p1]? = some (0, np1) ∧ np1 < 2147483648 ∧ ri_ p2 ∧ ri_ p3 ∧ w_X0_checkOf p1 np1 Q p2 p3 M
set_option maxHeartbeats 4000000 in
set_option maxRecDepth 100000 in
theorem k_X0_checkOf_b5 {l : Launch} {D : va_G} {cy : Nat → ClassId} {ad : Nat → Nat} {Q : Int → MM → Prop} {J : Nat → List (Nat × Value) → List Value → MM → Prop} (hin : jIn ad ksC.length) {p1 np1 : Nat} (hp1 : ksC[p1]? = some (0, np1)) (lp1 : np1 < 2147483648) (hJ : jOk l D vwCl (tyC cy) cy ad ftC ksC (XtC ad) Om RX0 cX0_checkOf 5 1 ({ frames := 0, cells := 0, slots := 0, locals := 0 } : Room) Q J)  : ∀ (x2 x3 x4 : Int) (M : MM), ri_ x2 → ri_ x3 → ri_ x4 → w_X0_checkOf_b5 p1 np1 Q  x2 x3 x4 M → J 5 [(0, .ref (ad p1)), (2, .int (Ii x2)), (3, .int (Ii x3)), (4, .int (Ii x4))] [] M := by
  have H9 : ∀ (n : Nat) (x2 x3 x4 : Int) (M : MM), ri_ x2 → ri_ x3 → ri_ x4 → jit (fun _ _ _ _ => False) (wb_X0_checkOf_b5 p1 np1 Q ) n x2 x3 x4 M → J 5 [(0, .ref (ad p1)), (2, .int (Ii x2)), (3, .int (Ii x3)), (4, .int (Ii x4))] [] M := by
    intro n
    induction n with
    | zero => intro x2 x3 x4 M gx2 gx3 gx4 hF; exact False.elim hF
    | succ n ih =>
    intro x2 x3 x4 M gx2 gx3 gx4 hF
    have hF : wb_X0_checkOf_b5 p1 np1 Q  (jit (fun _ _ _ _ => False) (wb_X0_checkOf_b5 p1 np1 Q ) n) x2 x3 x4 M := hF
    unfold wb_X0_checkOf_b5 at hF
    refine j_iload hJ dX0_checkOf_5 3 rfl ?_
    refine j_iload_n hJ dX0_checkOf_7 rfl 1 rfl ?_
    refine j_icmp_ge hJ 27 gx4 gx2 dX0_checkOf_8 (by decide) (fun z1 => ?_) (fun z1 => ?_)
    · have hF := hF.1 z1
      refine j_iload_n hJ dX0_checkOf_27 rfl 2 rfl ?_
      exact j_iret hJ rfl gx3 dX0_checkOf_28 hF
    · have hF := hF.2 z1
      refine j_iload_n hJ dX0_checkOf_11 rfl 2 rfl ?_
      refine j_ldc hJ 16777619 om_14 (by decide) dX0_checkOf_12 ?_
      refine j_imulw hJ dX0_checkOf_14 ?_
      refine j_aload_n hJ dX0_checkOf_15 rfl 0 rfl ?_
      refine j_iload hJ dX0_checkOf_16 3 rfl ?_
      refine j_iald hJ gx4 hp1 hF.1 hF.2.1 dX0_checkOf_18 (fun v2 ev2 gv2 => ?_)
      have hF := hF.2.2 v2 ev2 gv2
      refine j_ixor hJ dX0_checkOf_19 ?_
      refine j_istore_n (lv' := [(3, .int (Ii (jxor (w32 (x3 * 16777619)) v2))), (0, .ref (ad p1)), (2, .int (Ii x2)), (4, .int (Ii x4))]) hJ dX0_checkOf_20 rfl (by decide) rfl ?_
      refine j_iinc (lv' := [(4, .int (Ii (x4 + 1))), (3, .int (Ii (jxor (w32 (x3 * 16777619)) v2))), (0, .ref (ad p1)), (2, .int (Ii x2))]) (k := 3) hJ dX0_checkOf_21 rfl (by decide) rfl ?_
      have g3 := hF.1; have hF := hF.2
      refine j_goto hJ 5 dX0_checkOf_24 (by decide) ?_
      exact j_sub hJ [2, 3, 1, 0] rfl (ih x2 (jxor (w32 (x3 * 16777619)) v2) (x4 + 1) _ gx2 (ri_of _) g3 hF)
  intro x2 x3 x4 M gx2 gx3 gx4 hF
  obtain ⟨n, hF⟩ := hF
  exact H9 n x2 x3 x4 M gx2 gx3 gx4 hF
set_option maxHeartbeats 4000000 in
set_option maxRecDepth 100000 in
theorem c_X0_checkOf {l : Launch} {D : va_G} {cy : Nat → ClassId} {ad : Nat → Nat} (hin : jIn ad ksC.length) : jCN l D vwCl (tyC cy) cy ad ftC ksC (XtC ad) yX0_checkOf (.code yX0_checkOf cX0_checkOf 5 (some .int) :: Om) ({ frames := 0, cells := 0, slots := 0, locals := 0 } : Room) 1 (W_X0_checkOf ad) := by
  refine jCN_of (y := yX0_checkOf) (cc := cX0_checkOf) (nL := 5) (rk := 1) (rm := ({ frames := 0, cells := 0, slots := 0, locals := 0 } : Room)) (own := RX0) (tyC_ok cy) hin (XtC_ok ad) Om_good (by decide) rfl ?_
  intro Q av M hF
  obtain ⟨p1, np1, p2, p3, rfl, hp1, lp1, gp2, gp3, hF⟩ := hF
  refine ⟨Nat.le_of_ble_eq_true rfl, fun J hJ => ?_⟩
  show J 0 [(0, .ref (ad p1)), (1, .int (Ii p2)), (2, .int (Ii p3))] [] M
  unfold w_X0_checkOf at hF
  refine j_iconst hJ dX0_checkOf_0 ?_
  refine j_istore_n (lv' := [(3, .int (Ii 1)), (0, .ref (ad p1)), (1, .int (Ii p2)), (2, .int (Ii p3))]) hJ dX0_checkOf_1 rfl (by decide) rfl ?_
  refine j_iload_n hJ dX0_checkOf_2 rfl 2 rfl ?_
  refine j_istore (lv' := [(4, .int (Ii p2)), (3, .int (Ii 1)), (0, .ref (ad p1)), (1, .int (Ii p2)), (2, .int (Ii p3))]) hJ dX0_checkOf_3 (by decide) rfl ?_
  exact j_sub hJ [2, 4, 1, 0] rfl (k_X0_checkOf_b5 hin hp1 lp1 hJ  p3 1 p2 _ gp3 rk_1 gp2 hF)
def W_X0_encode (ad : Nat → Nat) (Q : Int → MM → Prop) (av : List Value) (M : MM) : Prop := ∃ (p1 : Nat), av = [.ref (ad 280), .ref (ad p1)] ∧ isP p1 ∧ w_X0_encode p1 Q  M
set_option maxHeartbeats 4000000 in
set_option maxRecDepth 100000 in
theorem k_X0_encode_b208 {l : Launch} {D : va_G} {cy : Nat → ClassId} {ad : Nat → Nat} {Q : Int → MM → Prop} {J : Nat → List (Nat × Value) → List Value → MM → Prop} (hin : jIn ad ksC.length) {p1 : Nat} (hp1 : isP p1) (hJ : jOk l D vwCl (tyC cy) cy ad ftC ksC (XtC ad) Om RX0 cX0_encode 6 1 ({ frames := 2, cells := 0, slots := 0, locals := 46 } : Room) Q J)  : ∀ (x2 x3 : Int) (M : MM), ri_ x2 → ri_ x3 → w_X0_encode_b208 p1 Q  x2 x3 M → J 208 [(0, .ref (ad 280)), (2, .int (Ii x2)), (3, .int (Ii x3))] [] M := by
  have H9 : ∀ (n : Nat) (x2 x3 : Int) (M : MM), ri_ x2 → ri_ x3 → jit (fun _ _ _ => False) (wb_X0_encode_b208 p1 Q ) n x2 x3 M → J 208 [(0, .ref (ad 280)), (2, .int (Ii x2)), (3, .int (Ii x3))] [] M := by
    intro n
    induction n with
    | zero => intro x2 x3 M gx2 gx3 hF; exact False.elim hF
    | succ n ih =>
    intro x2 x3 M gx2 gx3 hF
    have hF : wb_X0_encode_b208 p1 Q  (jit (fun _ _ _ => False) (wb_X0_encode_b208 p1 Q ) n) x2 x3 M := hF
    unfold wb_X0_encode_b208 at hF
    refine j_iload_n hJ dX0_encode_208 rfl 2 rfl ?_
    refine j_iconst hJ dX0_encode_209 ?_
    refine j_icmp_ge hJ 233 gx3 rk_4 dX0_encode_210 (by decide) (fun z1 => ?_) (fun z1 => ?_)
    · have hF := hF.1 z1
      refine j_aload_n hJ dX0_encode_233 rfl 0 rfl ?_
      refine j_gi hJ kC_280 fC_3_2 rfl fl_X0_35 dX0_encode_234 (fun v2 ev2 gv2 => ?_)
      have hF := hF v2 ev2 gv2
      exact j_iret hJ rfl gv2 dX0_encode_237 hF
    · have hF := hF.2 z1
      refine j_aload_n hJ dX0_encode_213 rfl 0 rfl ?_
      refine j_iload_n hJ dX0_encode_214 rfl 1 rfl ?_
      refine j_bipush hJ dX0_encode_215 (by decide) ?_
      refine j_iload_n hJ dX0_encode_217 rfl 2 rfl ?_
      refine j_imul hJ dX0_encode_218 ?_
      have g3 := hF.1; have hF := hF.2
      refine j_iushr hJ dX0_encode_219 ?_
      refine j_sipush hJ dX0_encode_220 (by decide) ?_
      refine j_iand hJ dX0_encode_223 ?_
      refine j_callVv hJ (c_X0_put (l := l) (D := D) (cy := cy) (ad := ad) hin) rfl om_0 ⟨rfl, rfl, Nat.le_of_ble_eq_true rfl, Nat.le_of_ble_eq_true rfl⟩ [.int (Ii (jand (jushr x2 (8 * x3)) 255))] mv_X0_39 hd_X0_putv kC_280 rfl rfl rfl (Nat.le_of_ble_eq_true rfl) dX0_encode_224 ⟨(jand (jushr x2 (8 * x3)) 255), rfl, (ri_of _), hF⟩ (fun M5 qM5 => ?_)
      have hF := qM5
      refine j_iinc (lv' := [(3, .int (Ii (x3 + 1))), (0, .ref (ad 280)), (2, .int (Ii x2))]) (k := 2) hJ dX0_encode_227 rfl (by decide) rfl ?_
      have g6 := hF.1; have hF := hF.2
      refine j_goto hJ 208 dX0_encode_230 (by decide) ?_
      exact j_sub hJ [1, 2, 0] rfl (ih x2 (x3 + 1) _ gx2 g6 hF)
  intro x2 x3 M gx2 gx3 hF
  obtain ⟨n, hF⟩ := hF
  exact H9 n x2 x3 M gx2 gx3 hF
set_option maxHeartbeats 4000000 in
set_option maxRecDepth 100000 in
theorem k_X0_encode_b149 {l : Launch} {D : va_G} {cy : Nat → ClassId} {ad : Nat → Nat} {Q : Int → MM → Prop} {J : Nat → List (Nat × Value) → List Value → MM → Prop} (hin : jIn ad ksC.length) {p1 : Nat} (hp1 : isP p1) (hJ : jOk l D vwCl (tyC cy) cy ad ftC ksC (XtC ad) Om RX0 cX0_encode 6 1 ({ frames := 2, cells := 0, slots := 0, locals := 46 } : Room) Q J)  : ∀ (x2 : Int) (M : MM), ri_ x2 → w_X0_encode_b149 p1 Q  x2 M → J 149 [(0, .ref (ad 280)), (1, .ref (ad p1)), (2, .int (Ii x2))] [] M := by
  have H9 : ∀ (n : Nat) (x2 : Int) (M : MM), ri_ x2 → jit (fun _ _ => False) (wb_X0_encode_b149 p1 Q ) n x2 M → J 149 [(0, .ref (ad 280)), (1, .ref (ad p1)), (2, .int (Ii x2))] [] M := by
    intro n
    induction n with
    | zero => intro x2 M gx2 hF; exact False.elim hF
    | succ n ih =>
    intro x2 M gx2 hF
    have hF : wb_X0_encode_b149 p1 Q  (jit (fun _ _ => False) (wb_X0_encode_b149 p1 Q ) n) x2 M := hF
    unfold wb_X0_encode_b149 at hF
    refine j_iload_n hJ dX0_encode_149 rfl 2 rfl ?_
    refine j_aload_n hJ dX0_encode_150 rfl 1 rfl ?_
    refine j_gi hJ (kP_0 hp1) fC_8_11 rfl fl_X0_70 dX0_encode_151 (fun v1 ev1 gv1 => ?_)
    have hF := hF v1 ev1 gv1
    refine j_icmp_ge hJ 185 gx2 gv1 dX0_encode_154 (by decide) (fun z2 => ?_) (fun z2 => ?_)
    · have hF := hF.1 z2
      refine j_aload_n hJ dX0_encode_185 rfl 0 rfl ?_
      refine j_gr (e := 281) hJ kC_280 fC_3_1 fl_X0_19 dX0_encode_186 rfl ?_
      refine j_iconst hJ dX0_encode_189 ?_
      refine j_aload_n hJ dX0_encode_190 rfl 0 rfl ?_
      refine j_gi hJ kC_280 fC_3_2 rfl fl_X0_35 dX0_encode_191 (fun v3 ev3 gv3 => ?_)
      have hF := hF v3 ev3 gv3
      refine j_aload_n hJ dX0_encode_194 rfl 0 rfl ?_
      refine j_gr (e := 281) hJ kC_280 fC_3_1 fl_X0_19 dX0_encode_195 rfl ?_
      refine j_alen0 hJ kC_281 dX0_encode_198 ?_
      refine j_mmin hJ gv3 (by unfold ri_; omega) ⟨om_10, om_11, om_12, om_13⟩ ⟨Nat.le_of_ble_eq_true rfl, Nat.le_of_ble_eq_true rfl⟩ dX0_encode_199 ?_
      refine j_callSi hJ (c_X0_checkOf (l := l) (D := D) (cy := cy) (ad := ad) hin) rfl om_15 ⟨rfl, rfl, Nat.le_of_ble_eq_true rfl, Nat.le_of_ble_eq_true rfl⟩ [.ref (ad 281), .int (Ii 0), .int (Ii (min v3 ((4000 : Nat) : Int)))] mv_X0_85 hd_X0_checkOf rfl (Nat.le_of_ble_eq_true rfl) dX0_encode_202 ⟨281, 4000, 0, (min v3 ((4000 : Nat) : Int)), rfl, kC_281, (by decide), rk_0, (ri_min gv3 (by unfold ri_; omega)), hF⟩ (fun r4 M5 gr4 qM5 => ?_)
      have hF := qM5 gr4
      refine j_istore_n (lv' := [(2, .int (Ii r4)), (0, .ref (ad 280)), (1, .ref (ad p1))]) hJ dX0_encode_205 rfl (by decide) rfl ?_
      refine j_iconst hJ dX0_encode_206 ?_
      refine j_istore_n (lv' := [(3, .int (Ii 0)), (2, .int (Ii r4)), (0, .ref (ad 280)), (1, .ref (ad p1))]) hJ dX0_encode_207 rfl (by decide) rfl ?_
      exact j_sub hJ [2, 1, 0] rfl (k_X0_encode_b208 hin hp1 hJ  r4 0 _ gr4 rk_0 hF)
    · have hF := hF.2 z2
      refine j_aload_n hJ dX0_encode_157 rfl 0 rfl ?_
      refine j_aload_n hJ dX0_encode_158 rfl 1 rfl ?_
      refine j_gr (e := (p1 + 11)) hJ (kP_0 hp1) fC_8_12 fl_X0_73 dX0_encode_159 rfl ?_
      refine j_iload_n hJ dX0_encode_162 rfl 2 rfl ?_
      refine j_iald hJ gx2 (kP_11 hp1) hF.1 hF.2.1 dX0_encode_163 (fun v6 ev6 gv6 => ?_)
      have hF := hF.2.2 v6 ev6 gv6
      refine j_i2l hJ gv6 dX0_encode_164 ?_
      refine j_callVv hJ (c_X0_putNumber (l := l) (D := D) (cy := cy) (ad := ad) hin) rfl om_6 ⟨rfl, rfl, Nat.le_of_ble_eq_true rfl, Nat.le_of_ble_eq_true rfl⟩ [.long (Ll v6)] mv_X0_46 hd_X0_putNumberv kC_280 rfl rfl rfl (Nat.le_of_ble_eq_true rfl) dX0_encode_165 ⟨v6, rfl, (rl_ri gv6), hF⟩ (fun M8 qM8 => ?_)
      have hF := qM8
      refine j_aload_n hJ dX0_encode_168 rfl 0 rfl ?_
      refine j_aload_n hJ dX0_encode_169 rfl 1 rfl ?_
      refine j_gr (e := (p1 + 12)) hJ (kP_0 hp1) fC_8_13 fl_X0_76 dX0_encode_170 rfl ?_
      refine j_iload_n hJ dX0_encode_173 rfl 2 rfl ?_
      refine j_iald hJ gx2 (kP_12 hp1) hF.1 hF.2.1 dX0_encode_174 (fun v9 ev9 gv9 => ?_)
      have hF := hF.2.2 v9 ev9 gv9
      refine j_i2l hJ gv9 dX0_encode_175 ?_
      refine j_callVv hJ (c_X0_putNumber (l := l) (D := D) (cy := cy) (ad := ad) hin) rfl om_6 ⟨rfl, rfl, Nat.le_of_ble_eq_true rfl, Nat.le_of_ble_eq_true rfl⟩ [.long (Ll v9)] mv_X0_46 hd_X0_putNumberv kC_280 rfl rfl rfl (Nat.le_of_ble_eq_true rfl) dX0_encode_176 ⟨v9, rfl, (rl_ri gv9), hF⟩ (fun M11 qM11 => ?_)
      have hF := qM11
      refine j_iinc (lv' := [(2, .int (Ii (x2 + 1))), (0, .ref (ad 280)), (1, .ref (ad p1))]) (k := 2) hJ dX0_encode_179 rfl (by decide) rfl ?_
      have g12 := hF.1; have hF := hF.2
      refine j_goto hJ 149 dX0_encode_182 (by decide) ?_
      exact j_sub hJ [1, 2, 0] rfl (ih (x2 + 1) _ g12 hF)
  intro x2 M gx2 hF
  obtain ⟨n, hF⟩ := hF
  exact H9 n x2 M gx2 hF
set_option maxHeartbeats 4000000 in
set_option maxRecDepth 100000 in
theorem k_X0_encode_b123 {l : Launch} {D : va_G} {cy : Nat → ClassId} {ad : Nat → Nat} {Q : Int → MM → Prop} {J : Nat → List (Nat × Value) → List Value → MM → Prop} (hin : jIn ad ksC.length) {p1 : Nat} (hp1 : isP p1) (hJ : jOk l D vwCl (tyC cy) cy ad ftC ksC (XtC ad) Om RX0 cX0_encode 6 1 ({ frames := 2, cells := 0, slots := 0, locals := 46 } : Room) Q J) {K28 : Int → MM → Prop} (hK28 : ∀ (x2 : Int) (M : MM), ri_ x2 → K28 x2 M → J 28 [(0, .ref (ad 280)), (1, .ref (ad p1)), (2, .int (Ii x2))] [] M) {K76 : Int → Int → MM → Prop} (hK76 : ∀ (x2 x3 : Int) (M : MM), ri_ x2 → ri_ x3 → K76 x2 x3 M → J 76 [(0, .ref (ad 280)), (1, .ref (ad p1)), (2, .int (Ii x2)), (3, .int (Ii x3))] [] M) : ∀ (x2 x3 s0 : Int) (M : MM), ri_ x2 → ri_ x3 → rl_ s0 → w_X0_encode_b123 p1 Q K28 K76 x2 x3 s0 M → J 123 [(0, .ref (ad 280)), (1, .ref (ad p1)), (2, .int (Ii x2)), (3, .int (Ii x3))] [.long (Ll s0), .ref (ad 280)] M := by
  intro x2 x3 s0 M gx2 gx3 gs0 hF
  unfold w_X0_encode_b123 at hF
  refine j_callVv hJ (c_X0_putNumber (l := l) (D := D) (cy := cy) (ad := ad) hin) rfl om_6 ⟨rfl, rfl, Nat.le_of_ble_eq_true rfl, Nat.le_of_ble_eq_true rfl⟩ [.long (Ll s0)] mv_X0_46 hd_X0_putNumberv kC_280 rfl rfl rfl (Nat.le_of_ble_eq_true rfl) dX0_encode_123 ⟨s0, rfl, gs0, hF⟩ (fun M2 qM2 => ?_)
  have hF := qM2
  refine j_iinc (lv' := [(3, .int (Ii (x3 + 1))), (0, .ref (ad 280)), (1, .ref (ad p1)), (2, .int (Ii x2))]) (k := 3) hJ dX0_encode_126 rfl (by decide) rfl ?_
  have g3 := hF.1; have hF := hF.2
  refine j_goto hJ 76 dX0_encode_129 (by decide) ?_
  exact j_sub hJ [1, 2, 3, 0] rfl (hK76 x2 (x3 + 1) _ gx2 g3 hF)
set_option maxHeartbeats 4000000 in
set_option maxRecDepth 100000 in
theorem k_X0_encode_b76 {l : Launch} {D : va_G} {cy : Nat → ClassId} {ad : Nat → Nat} {Q : Int → MM → Prop} {J : Nat → List (Nat × Value) → List Value → MM → Prop} (hin : jIn ad ksC.length) {p1 : Nat} (hp1 : isP p1) (hJ : jOk l D vwCl (tyC cy) cy ad ftC ksC (XtC ad) Om RX0 cX0_encode 6 1 ({ frames := 2, cells := 0, slots := 0, locals := 46 } : Room) Q J) {K28 : Int → MM → Prop} (hK28 : ∀ (x2 : Int) (M : MM), ri_ x2 → K28 x2 M → J 28 [(0, .ref (ad 280)), (1, .ref (ad p1)), (2, .int (Ii x2))] [] M) : ∀ (x2 x3 : Int) (M : MM), ri_ x2 → ri_ x3 → w_X0_encode_b76 p1 Q K28 x2 x3 M → J 76 [(0, .ref (ad 280)), (1, .ref (ad p1)), (2, .int (Ii x2)), (3, .int (Ii x3))] [] M := by
  have H9 : ∀ (n : Nat) (x2 x3 : Int) (M : MM), ri_ x2 → ri_ x3 → jit (fun _ _ _ => False) (wb_X0_encode_b76 p1 Q K28) n x2 x3 M → J 76 [(0, .ref (ad 280)), (1, .ref (ad p1)), (2, .int (Ii x2)), (3, .int (Ii x3))] [] M := by
    intro n
    induction n with
    | zero => intro x2 x3 M gx2 gx3 hF; exact False.elim hF
    | succ n ih =>
    intro x2 x3 M gx2 gx3 hF
    have hF : wb_X0_encode_b76 p1 Q K28 (jit (fun _ _ _ => False) (wb_X0_encode_b76 p1 Q K28) n) x2 x3 M := hF
    unfold wb_X0_encode_b76 at hF
    refine j_iload_n hJ dX0_encode_76 rfl 3 rfl ?_
    refine j_aload_n hJ dX0_encode_77 rfl 1 rfl ?_
    refine j_gr (e := (p1 + 4)) hJ (kP_0 hp1) fC_8_4 fl_X0_59 dX0_encode_78 rfl ?_
    refine j_iload_n hJ dX0_encode_81 rfl 2 rfl ?_
    refine j_iconst hJ dX0_encode_82 ?_
    refine j_iadd hJ dX0_encode_83 ?_
    have g1 := hF.1; have hF := hF.2
    refine j_iald hJ g1 (kP_4 hp1) hF.1 hF.2.1 dX0_encode_84 (fun v2 ev2 gv2 => ?_)
    have hF := hF.2.2 v2 ev2 gv2
    refine j_icmp_ge hJ 132 gx3 gv2 dX0_encode_85 (by decide) (fun z3 => ?_) (fun z3 => ?_)
    · have hF := hF.1 z3
      refine j_iinc (lv' := [(2, .int (Ii (x2 + 1))), (0, .ref (ad 280)), (1, .ref (ad p1)), (3, .int (Ii x3))]) (k := 2) hJ dX0_encode_132 rfl (by decide) rfl ?_
      have g4 := hF.1; have hF := hF.2
      refine j_goto hJ 28 dX0_encode_135 (by decide) ?_
      exact j_sub hJ [1, 2, 0] rfl (hK28 (x2 + 1) _ g4 hF)
    · have hF := hF.2 z3
      refine j_aload_n hJ dX0_encode_88 rfl 1 rfl ?_
      refine j_gr (e := (p1 + 9)) hJ (kP_0 hp1) fC_8_9 fl_X0_62 dX0_encode_89 rfl ?_
      refine j_iload_n hJ dX0_encode_92 rfl 3 rfl ?_
      refine j_lald hJ gx3 (kP_9 hp1) hF.1 hF.2.1 dX0_encode_93 (fun v5 ev5 gv5 => ?_)
      have hF := hF.2.2 v5 ev5 gv5
      refine j_lstore (lv' := [(4, .long (Ll v5)), (0, .ref (ad 280)), (1, .ref (ad p1)), (2, .int (Ii x2)), (3, .int (Ii x3))]) hJ dX0_encode_94 (by decide) rfl ?_
      refine j_aload_n hJ dX0_encode_96 rfl 1 rfl ?_
      refine j_aload_n hJ dX0_encode_97 rfl 2 rfl ?_
      refine j_gr (e := (p1 + 10)) hJ (kP_0 hp1) fC_8_10 fl_X0_66 dX0_encode_98 rfl ?_
      refine j_iload_n hJ dX0_encode_101 rfl 4 rfl ?_
      refine j_zald hJ gx3 (kP_10 hp1) hF.1 hF.2.1 dX0_encode_102 (fun v6 ev6 gv6 => ?_)
      have hF := hF.2.2 v6 ev6 gv6
      refine j_if_eq hJ 113 (jz_ri gv6) dX0_encode_103 (by decide) (fun z7 => ?_) (fun z7 => ?_)
      · have hF := hF.1 z7
        refine j_lload hJ dX0_encode_113 0 rfl ?_
        refine j_iconst hJ dX0_encode_115 ?_
        refine j_lshl hJ dX0_encode_116 ?_
        refine j_lload hJ dX0_encode_117 0 rfl ?_
        refine j_bipush hJ dX0_encode_119 (by decide) ?_
        refine j_lshr hJ dX0_encode_121 ?_
        refine j_lxor hJ dX0_encode_122 ?_
        exact j_sub hJ [1, 2, 3, 4] rfl (k_X0_encode_b123 hin hp1 hJ hK28 ih x2 x3 (jlxor (jlshl v5 1) (jlshr v5 63)) _ gx2 gx3 (rl_of _) hF)
      · have hF := hF.2 z7
        refine j_lload hJ dX0_encode_106 0 rfl ?_
        refine j_lconst (x := 1) hJ dX0_encode_108 rfl ?_
        refine j_laddw hJ dX0_encode_109 ?_
        refine j_goto hJ 123 dX0_encode_110 (by decide) ?_
        exact j_sub hJ [1, 2, 3, 4] rfl (k_X0_encode_b123 hin hp1 hJ hK28 ih x2 x3 (w64 (v5 + 1)) _ gx2 gx3 (rl_w _) hF)
  intro x2 x3 M gx2 gx3 hF
  obtain ⟨n, hF⟩ := hF
  exact H9 n x2 x3 M gx2 gx3 hF
set_option maxHeartbeats 4000000 in
set_option maxRecDepth 100000 in
theorem k_X0_encode_b28 {l : Launch} {D : va_G} {cy : Nat → ClassId} {ad : Nat → Nat} {Q : Int → MM → Prop} {J : Nat → List (Nat × Value) → List Value → MM → Prop} (hin : jIn ad ksC.length) {p1 : Nat} (hp1 : isP p1) (hJ : jOk l D vwCl (tyC cy) cy ad ftC ksC (XtC ad) Om RX0 cX0_encode 6 1 ({ frames := 2, cells := 0, slots := 0, locals := 46 } : Room) Q J)  : ∀ (x2 : Int) (M : MM), ri_ x2 → w_X0_encode_b28 p1 Q  x2 M → J 28 [(0, .ref (ad 280)), (1, .ref (ad p1)), (2, .int (Ii x2))] [] M := by
  have H9 : ∀ (n : Nat) (x2 : Int) (M : MM), ri_ x2 → jit (fun _ _ => False) (wb_X0_encode_b28 p1 Q ) n x2 M → J 28 [(0, .ref (ad 280)), (1, .ref (ad p1)), (2, .int (Ii x2))] [] M := by
    intro n
    induction n with
    | zero => intro x2 M gx2 hF; exact False.elim hF
    | succ n ih =>
    intro x2 M gx2 hF
    have hF : wb_X0_encode_b28 p1 Q  (jit (fun _ _ => False) (wb_X0_encode_b28 p1 Q ) n) x2 M := hF
    unfold wb_X0_encode_b28 at hF
    refine j_iload_n hJ dX0_encode_28 rfl 2 rfl ?_
    refine j_aload_n hJ dX0_encode_29 rfl 1 rfl ?_
    refine j_gi hJ (kP_0 hp1) fC_8_0 rfl fl_X0_43 dX0_encode_30 (fun v1 ev1 gv1 => ?_)
    have hF := hF v1 ev1 gv1
    refine j_icmp_ge hJ 138 gx2 gv1 dX0_encode_33 (by decide) (fun z2 => ?_) (fun z2 => ?_)
    · have hF := hF.1 z2
      refine j_aload_n hJ dX0_encode_138 rfl 0 rfl ?_
      refine j_aload_n hJ dX0_encode_139 rfl 1 rfl ?_
      refine j_gi hJ (kP_0 hp1) fC_8_11 rfl fl_X0_70 dX0_encode_140 (fun v3 ev3 gv3 => ?_)
      have hF := hF v3 ev3 gv3
      refine j_i2l hJ gv3 dX0_encode_143 ?_
      refine j_callVv hJ (c_X0_putNumber (l := l) (D := D) (cy := cy) (ad := ad) hin) rfl om_6 ⟨rfl, rfl, Nat.le_of_ble_eq_true rfl, Nat.le_of_ble_eq_true rfl⟩ [.long (Ll v3)] mv_X0_46 hd_X0_putNumberv kC_280 rfl rfl rfl (Nat.le_of_ble_eq_true rfl) dX0_encode_144 ⟨v3, rfl, (rl_ri gv3), hF⟩ (fun M5 qM5 => ?_)
      have hF := qM5
      refine j_iconst hJ dX0_encode_147 ?_
      refine j_istore_n (lv' := [(2, .int (Ii 0)), (0, .ref (ad 280)), (1, .ref (ad p1))]) hJ dX0_encode_148 rfl (by decide) rfl ?_
      exact j_sub hJ [1, 2, 0] rfl (k_X0_encode_b149 hin hp1 hJ  0 _ rk_0 hF)
    · have hF := hF.2 z2
      refine j_aload_n hJ dX0_encode_36 rfl 0 rfl ?_
      refine j_aload_n hJ dX0_encode_37 rfl 1 rfl ?_
      refine j_gr (e := (p1 + 1)) hJ (kP_0 hp1) fC_8_1 fl_X0_50 dX0_encode_38 rfl ?_
      refine j_iload_n hJ dX0_encode_41 rfl 2 rfl ?_
      refine j_iald hJ gx2 (kP_1 hp1) hF.1 hF.2.1 dX0_encode_42 (fun v6 ev6 gv6 => ?_)
      have hF := hF.2.2 v6 ev6 gv6
      refine j_i2l hJ gv6 dX0_encode_43 ?_
      refine j_callVv hJ (c_X0_putNumber (l := l) (D := D) (cy := cy) (ad := ad) hin) rfl om_6 ⟨rfl, rfl, Nat.le_of_ble_eq_true rfl, Nat.le_of_ble_eq_true rfl⟩ [.long (Ll v6)] mv_X0_46 hd_X0_putNumberv kC_280 rfl rfl rfl (Nat.le_of_ble_eq_true rfl) dX0_encode_44 ⟨v6, rfl, (rl_ri gv6), hF⟩ (fun M8 qM8 => ?_)
      have hF := qM8
      refine j_aload_n hJ dX0_encode_47 rfl 0 rfl ?_
      refine j_aload_n hJ dX0_encode_48 rfl 1 rfl ?_
      refine j_gr (e := (p1 + 2)) hJ (kP_0 hp1) fC_8_2 fl_X0_53 dX0_encode_49 rfl ?_
      refine j_iload_n hJ dX0_encode_52 rfl 2 rfl ?_
      refine j_iald hJ gx2 (kP_2 hp1) hF.1 hF.2.1 dX0_encode_53 (fun v9 ev9 gv9 => ?_)
      have hF := hF.2.2 v9 ev9 gv9
      refine j_i2l hJ gv9 dX0_encode_54 ?_
      refine j_callVv hJ (c_X0_putNumber (l := l) (D := D) (cy := cy) (ad := ad) hin) rfl om_6 ⟨rfl, rfl, Nat.le_of_ble_eq_true rfl, Nat.le_of_ble_eq_true rfl⟩ [.long (Ll v9)] mv_X0_46 hd_X0_putNumberv kC_280 rfl rfl rfl (Nat.le_of_ble_eq_true rfl) dX0_encode_55 ⟨v9, rfl, (rl_ri gv9), hF⟩ (fun M11 qM11 => ?_)
      have hF := qM11
      refine j_aload_n hJ dX0_encode_58 rfl 0 rfl ?_
      refine j_aload_n hJ dX0_encode_59 rfl 1 rfl ?_
      refine j_gr (e := (p1 + 3)) hJ (kP_0 hp1) fC_8_3 fl_X0_56 dX0_encode_60 rfl ?_
      refine j_iload_n hJ dX0_encode_63 rfl 2 rfl ?_
      refine j_iald hJ gx2 (kP_3 hp1) hF.1 hF.2.1 dX0_encode_64 (fun v12 ev12 gv12 => ?_)
      have hF := hF.2.2 v12 ev12 gv12
      refine j_i2l hJ gv12 dX0_encode_65 ?_
      refine j_callVv hJ (c_X0_putNumber (l := l) (D := D) (cy := cy) (ad := ad) hin) rfl om_6 ⟨rfl, rfl, Nat.le_of_ble_eq_true rfl, Nat.le_of_ble_eq_true rfl⟩ [.long (Ll v12)] mv_X0_46 hd_X0_putNumberv kC_280 rfl rfl rfl (Nat.le_of_ble_eq_true rfl) dX0_encode_66 ⟨v12, rfl, (rl_ri gv12), hF⟩ (fun M14 qM14 => ?_)
      have hF := qM14
      refine j_aload_n hJ dX0_encode_69 rfl 1 rfl ?_
      refine j_gr (e := (p1 + 4)) hJ (kP_0 hp1) fC_8_4 fl_X0_59 dX0_encode_70 rfl ?_
      refine j_iload_n hJ dX0_encode_73 rfl 2 rfl ?_
      refine j_iald hJ gx2 (kP_4 hp1) hF.1 hF.2.1 dX0_encode_74 (fun v15 ev15 gv15 => ?_)
      have hF := hF.2.2 v15 ev15 gv15
      refine j_istore_n (lv' := [(3, .int (Ii v15)), (0, .ref (ad 280)), (1, .ref (ad p1)), (2, .int (Ii x2))]) hJ dX0_encode_75 rfl (by decide) rfl ?_
      exact j_sub hJ [1, 2, 3, 0] rfl (k_X0_encode_b76 hin hp1 hJ ih x2 v15 _ gx2 gv15 hF)
  intro x2 M gx2 hF
  obtain ⟨n, hF⟩ := hF
  exact H9 n x2 M gx2 hF
set_option maxHeartbeats 4000000 in
set_option maxRecDepth 100000 in
theorem c_X0_encode {l : Launch} {D : va_G} {cy : Nat → ClassId} {ad : Nat → Nat} (hin : jIn ad ksC.length) : jCN l D vwCl (tyC cy) cy ad ftC ksC (XtC ad) yX0_encode (.code yX0_encode cX0_encode 6 (some .int) :: Om) ({ frames := 2, cells := 0, slots := 0, locals := 46 } : Room) 1 (W_X0_encode ad) := by
  refine jCN_of (y := yX0_encode) (cc := cX0_encode) (nL := 6) (rk := 1) (rm := ({ frames := 2, cells := 0, slots := 0, locals := 46 } : Room)) (own := RX0) (tyC_ok cy) hin (XtC_ok ad) Om_good (by decide) rfl ?_
  intro Q av M hF
  obtain ⟨p1, rfl, hp1, hF⟩ := hF
  refine ⟨Nat.le_of_ble_eq_true rfl, fun J hJ => ?_⟩
  show J 0 [(0, .ref (ad 280)), (1, .ref (ad p1))] [] M
  unfold w_X0_encode at hF
  refine j_aload_n hJ dX0_encode_0 rfl 0 rfl ?_
  refine j_iconst hJ dX0_encode_1 ?_
  refine j_pi hJ rk_0 kC_280 fC_3_2 rfl fp_X0_35 dX0_encode_2 (fun M1 eM1 => ?_)
  have hF := hF M1 eM1
  refine j_aload_n hJ dX0_encode_5 rfl 0 rfl ?_
  refine j_bipush hJ dX0_encode_6 (by decide) ?_
  refine j_callVv hJ (c_X0_put (l := l) (D := D) (cy := cy) (ad := ad) hin) rfl om_0 ⟨rfl, rfl, Nat.le_of_ble_eq_true rfl, Nat.le_of_ble_eq_true rfl⟩ [.int (Ii 72)] mv_X0_39 hd_X0_putv kC_280 rfl rfl rfl (Nat.le_of_ble_eq_true rfl) dX0_encode_8 ⟨72, rfl, rk_72, hF⟩ (fun M3 qM3 => ?_)
  have hF := qM3
  refine j_aload_n hJ dX0_encode_11 rfl 0 rfl ?_
  refine j_bipush hJ dX0_encode_12 (by decide) ?_
  refine j_callVv hJ (c_X0_put (l := l) (D := D) (cy := cy) (ad := ad) hin) rfl om_0 ⟨rfl, rfl, Nat.le_of_ble_eq_true rfl, Nat.le_of_ble_eq_true rfl⟩ [.int (Ii 80)] mv_X0_39 hd_X0_putv kC_280 rfl rfl rfl (Nat.le_of_ble_eq_true rfl) dX0_encode_14 ⟨80, rfl, rk_80, hF⟩ (fun M5 qM5 => ?_)
  have hF := qM5
  refine j_aload_n hJ dX0_encode_17 rfl 0 rfl ?_
  refine j_aload_n hJ dX0_encode_18 rfl 1 rfl ?_
  refine j_gi hJ (kP_0 hp1) fC_8_0 rfl fl_X0_43 dX0_encode_19 (fun v6 ev6 gv6 => ?_)
  have hF := hF v6 ev6 gv6
  refine j_i2l hJ gv6 dX0_encode_22 ?_
  refine j_callVv hJ (c_X0_putNumber (l := l) (D := D) (cy := cy) (ad := ad) hin) rfl om_6 ⟨rfl, rfl, Nat.le_of_ble_eq_true rfl, Nat.le_of_ble_eq_true rfl⟩ [.long (Ll v6)] mv_X0_46 hd_X0_putNumberv kC_280 rfl rfl rfl (Nat.le_of_ble_eq_true rfl) dX0_encode_23 ⟨v6, rfl, (rl_ri gv6), hF⟩ (fun M8 qM8 => ?_)
  have hF := qM8
  refine j_iconst hJ dX0_encode_26 ?_
  refine j_istore_n (lv' := [(2, .int (Ii 0)), (0, .ref (ad 280)), (1, .ref (ad p1))]) hJ dX0_encode_27 rfl (by decide) rfl ?_
  exact j_sub hJ [1, 2, 0] rfl (k_X0_encode_b28 hin hp1 hJ  0 _ rk_0 hF)
def W_X5_forget (ad : Nat → Nat) (Q : Int → MM → Prop) (av : List Value) (M : MM) : Prop := ∃ (c : Nat), av = [.ref (ad c)] ∧ isP c ∧ w_X5_forget c Q  M
set_option maxHeartbeats 4000000 in
set_option maxRecDepth 100000 in
theorem k_X5_forget_b2 {l : Launch} {D : va_G} {cy : Nat → ClassId} {ad : Nat → Nat} {Q : Int → MM → Prop} {J : Nat → List (Nat × Value) → List Value → MM → Prop} (hin : jIn ad ksC.length) {c : Nat} (hc : isP c) (hJ : jOk l D vwCl (tyC cy) cy ad ftC ksC (XtC ad) Om RX5 cX5_forget 2 0 ({ frames := 0, cells := 0, slots := 0, locals := 0 } : Room) Q J)  : ∀ (x1 : Int) (M : MM), ri_ x1 → w_X5_forget_b2 c Q  x1 M → J 2 [(0, .ref (ad c)), (1, .int (Ii x1))] [] M := by
  have H9 : ∀ (n : Nat) (x1 : Int) (M : MM), ri_ x1 → jit (fun _ _ => False) (wb_X5_forget_b2 c Q ) n x1 M → J 2 [(0, .ref (ad c)), (1, .int (Ii x1))] [] M := by
    intro n
    induction n with
    | zero => intro x1 M gx1 hF; exact False.elim hF
    | succ n ih =>
    intro x1 M gx1 hF
    have hF : wb_X5_forget_b2 c Q  (jit (fun _ _ => False) (wb_X5_forget_b2 c Q ) n) x1 M := hF
    unfold wb_X5_forget_b2 at hF
    refine j_iload_n hJ dX5_forget_2 rfl 1 rfl ?_
    refine j_aload_n hJ dX5_forget_3 rfl 0 rfl ?_
    refine j_gi hJ (kP_0 hc) fC_8_0 rfl fl_X5_82 dX5_forget_4 (fun v1 ev1 gv1 => ?_)
    have hF := hF v1 ev1 gv1
    refine j_icmp_ge hJ 35 gx1 gv1 dX5_forget_7 (by decide) (fun z2 => ?_) (fun z2 => ?_)
    · have hF := hF.1 z2
      refine j_aload_n hJ dX5_forget_35 rfl 0 rfl ?_
      refine j_iconst hJ dX5_forget_36 ?_
      refine j_pi hJ rk_0 (kP_0 hc) fC_8_0 rfl fp_X5_82 dX5_forget_37 (fun M3 eM3 => ?_)
      have hF := hF M3 eM3
      refine j_aload_n hJ dX5_forget_40 rfl 0 rfl ?_
      refine j_iconst hJ dX5_forget_41 ?_
      refine j_pi hJ rk_0 (kP_0 hc) fC_8_11 rfl fp_X5_86 dX5_forget_42 (fun M4 eM4 => ?_)
      have hF := hF M4 eM4
      refine j_aload_n hJ dX5_forget_45 rfl 0 rfl ?_
      refine j_iconst hJ dX5_forget_46 ?_
      refine j_pi hJ rk_0 (kP_0 hc) fC_8_16 rfl fp_X5_89 dX5_forget_47 (fun M5 eM5 => ?_)
      have hF := hF M5 eM5
      refine j_aload_n hJ dX5_forget_50 rfl 0 rfl ?_
      refine j_gr (e := (c + 18)) hJ (kP_0 hc) fC_8_20 fl_X5_78 dX5_forget_51 rfl ?_
      refine j_iconst hJ dX5_forget_54 ?_
      refine j_pi hJ rk_0 (kP_18 hc) fC_11_1 rfl fp_X5_92 dX5_forget_55 (fun M6 eM6 => ?_)
      have hF := hF M6 eM6
      exact j_vret hJ rfl dX5_forget_58 hF
    · have hF := hF.2 z2
      refine j_aload_n hJ dX5_forget_10 rfl 0 rfl ?_
      refine j_gr (e := (c + 8)) hJ (kP_0 hc) fC_8_8 fl_X5_35 dX5_forget_11 rfl ?_
      refine j_aload_n hJ dX5_forget_14 rfl 0 rfl ?_
      refine j_gr (e := (c + 1)) hJ (kP_0 hc) fC_8_1 fl_X5_11 dX5_forget_15 rfl ?_
      refine j_iload_n hJ dX5_forget_18 rfl 1 rfl ?_
      refine j_iald hJ gx1 (kP_1 hc) hF.1 hF.2.1 dX5_forget_19 (fun v7 ev7 gv7 => ?_)
      have hF := hF.2.2 v7 ev7 gv7
      refine j_iconst hJ dX5_forget_20 ?_
      refine j_iast hJ gv7 rk_m1 (kP_8 hc) hF.1 hF.2.1 dX5_forget_21 (fun M8 eM8 => ?_)
      have hF := hF.2.2 M8 eM8
      refine j_aload_n hJ dX5_forget_22 rfl 0 rfl ?_
      refine j_gr (e := (c + 13)) hJ (kP_0 hc) fC_8_14 fl_X5_58 dX5_forget_23 rfl ?_
      refine j_iload_n hJ dX5_forget_26 rfl 1 rfl ?_
      refine j_iconst hJ dX5_forget_27 ?_
      refine j_zast hJ gx1 (by decide) (kP_13 hc) hF.1 hF.2.1 dX5_forget_28 (fun M9 eM9 => ?_)
      have hF := hF.2.2 M9 eM9
      refine j_iinc (lv' := [(1, .int (Ii (x1 + 1))), (0, .ref (ad c))]) (k := 1) hJ dX5_forget_29 rfl (by decide) rfl ?_
      have g10 := hF.1; have hF := hF.2
      refine j_goto hJ 2 dX5_forget_32 (by decide) ?_
      exact j_sub hJ [1, 0] rfl (ih (x1 + 1) _ g10 hF)
  intro x1 M gx1 hF
  obtain ⟨n, hF⟩ := hF
  exact H9 n x1 M gx1 hF
set_option maxHeartbeats 4000000 in
set_option maxRecDepth 100000 in
theorem c_X5_forget {l : Launch} {D : va_G} {cy : Nat → ClassId} {ad : Nat → Nat} (hin : jIn ad ksC.length) : jCN l D vwCl (tyC cy) cy ad ftC ksC (XtC ad) yX5_forget (.code yX5_forget cX5_forget 2 none :: Om) ({ frames := 0, cells := 0, slots := 0, locals := 0 } : Room) 0 (W_X5_forget ad) := by
  refine jCN_of (y := yX5_forget) (cc := cX5_forget) (nL := 2) (rk := 0) (rm := ({ frames := 0, cells := 0, slots := 0, locals := 0 } : Room)) (own := RX5) (tyC_ok cy) hin (XtC_ok ad) Om_good (by decide) rfl ?_
  intro Q av M hF
  obtain ⟨c, rfl, hc, hF⟩ := hF
  refine ⟨Nat.le_of_ble_eq_true rfl, fun J hJ => ?_⟩
  show J 0 [(0, .ref (ad c))] [] M
  unfold w_X5_forget at hF
  refine j_iconst hJ dX5_forget_0 ?_
  refine j_istore_n (lv' := [(1, .int (Ii 0)), (0, .ref (ad c))]) hJ dX5_forget_1 rfl (by decide) rfl ?_
  exact j_sub hJ [1, 0] rfl (k_X5_forget_b2 hin hc hJ  0 _ rk_0 hF)
def W_X0_fail (ad : Nat → Nat) (Q : Int → MM → Prop) (av : List Value) (M : MM) : Prop := ∃ (p1 : Int) (p2 : Int), av = [.ref (ad 280), .int (Ii p1), .int (Ii p2)] ∧ ri_ p1 ∧ ri_ p2 ∧ w_X0_fail  Q p1 p2 M
set_option maxHeartbeats 4000000 in
set_option maxRecDepth 100000 in
theorem c_X0_fail {l : Launch} {D : va_G} {cy : Nat → ClassId} {ad : Nat → Nat} (hin : jIn ad ksC.length) : jCN l D vwCl (tyC cy) cy ad ftC ksC (XtC ad) yX0_fail (.code yX0_fail cX0_fail 3 (some .boolean) :: Om) ({ frames := 0, cells := 0, slots := 0, locals := 0 } : Room) 3 (W_X0_fail ad) := by
  refine jCN_of (y := yX0_fail) (cc := cX0_fail) (nL := 3) (rk := 3) (rm := ({ frames := 0, cells := 0, slots := 0, locals := 0 } : Room)) (own := RX0) (tyC_ok cy) hin (XtC_ok ad) Om_good (by decide) rfl ?_
  intro Q av M hF
  obtain ⟨p1, p2, rfl, gp1, gp2, hF⟩ := hF
  refine ⟨Nat.le_of_ble_eq_true rfl, fun J hJ => ?_⟩
  show J 0 [(0, .ref (ad 280)), (1, .int (Ii p1)), (2, .int (Ii p2))] [] M
  unfold w_X0_fail at hF
  refine j_aload_n hJ dX0_fail_0 rfl 0 rfl ?_
  refine j_iload_n hJ dX0_fail_1 rfl 1 rfl ?_
  refine j_pi hJ gp1 kC_280 fC_3_13 rfl fp_X0_101 dX0_fail_2 (fun M1 eM1 => ?_)
  have hF := hF M1 eM1
  refine j_aload_n hJ dX0_fail_5 rfl 0 rfl ?_
  refine j_iload_n hJ dX0_fail_6 rfl 2 rfl ?_
  refine j_aload_n hJ dX0_fail_7 rfl 0 rfl ?_
  refine j_gi hJ kC_280 fC_3_7 rfl fl_X0_92 dX0_fail_8 (fun v2 ev2 gv2 => ?_)
  have hF := hF v2 ev2 gv2
  refine j_isub hJ dX0_fail_11 ?_
  have g3 := hF.1; have hF := hF.2
  refine j_pi hJ g3 kC_280 fC_3_14 rfl fp_X0_104 dX0_fail_12 (fun M4 eM4 => ?_)
  have hF := hF M4 eM4
  refine j_iconst hJ dX0_fail_15 ?_
  exact j_zret hJ rfl (by decide) dX0_fail_16 hF
def W_X0_readMarks (ad : Nat → Nat) (Q : Int → MM → Prop) (av : List Value) (M : MM) : Prop := av = [.ref (ad 280)] ∧ w_X0_readMarks  Q  M
set_option maxHeartbeats 4000000 in
set_option maxRecDepth 100000 in
theorem k_X0_readMarks_b48 {l : Launch} {D : va_G} {cy : Nat → ClassId} {ad : Nat → Nat} {Q : Int → MM → Prop} {J : Nat → List (Nat × Value) → List Value → MM → Prop} (hin : jIn ad ksC.length)   (hJ : jOk l D vwCl (tyC cy) cy ad ftC ksC (XtC ad) Om RX0 cX0_readMarks 2 3 ({ frames := 1, cells := 0, slots := 0, locals := 22 } : Room) Q J) {K2 : Int → MM → Prop} (hK2 : ∀ (x1 : Int) (M : MM), ri_ x1 → K2 x1 M → J 2 [(0, .ref (ad 280)), (1, .int (Ii x1))] [] M) : ∀ (x1 s0 s1 : Int) (M : MM), ri_ x1 → ri_ s0 → ri_ s1 → w_X0_readMarks_b48  Q K2 x1 s0 s1 M → J 48 [(0, .ref (ad 280)), (1, .int (Ii x1))] [.int (Ii s0), .int (Ii s1)] M := by
  intro x1 s0 s1 M gx1 gs0 gs1 hF
  unfold w_X0_readMarks_b48 at hF
  refine j_icmp_eq hJ 61 gs1 gs0 dX0_readMarks_48 (by decide) (fun z1 => ?_) (fun z1 => ?_)
  · have hF := hF.1 z1
    refine j_aload_n hJ dX0_readMarks_61 rfl 0 rfl ?_
    refine j_dup hJ dX0_readMarks_62 rfl ?_
    refine j_gi hJ kC_280 fC_3_9 rfl fl_X0_98 dX0_readMarks_63 (fun v2 ev2 gv2 => ?_)
    have hF := hF v2 ev2 gv2
    refine j_iconst hJ dX0_readMarks_66 ?_
    refine j_iadd hJ dX0_readMarks_67 ?_
    have g3 := hF.1; have hF := hF.2
    refine j_pi hJ g3 kC_280 fC_3_9 rfl fp_X0_98 dX0_readMarks_68 (fun M4 eM4 => ?_)
    have hF := hF M4 eM4
    refine j_iinc (lv' := [(1, .int (Ii (x1 + 1))), (0, .ref (ad 280))]) (k := 1) hJ dX0_readMarks_71 rfl (by decide) rfl ?_
    have g5 := hF.1; have hF := hF.2
    refine j_goto hJ 2 dX0_readMarks_74 (by decide) ?_
    exact j_sub hJ [1, 0] rfl (hK2 (x1 + 1) _ g5 hF)
  · have hF := hF.2 z1
    refine j_aload_n hJ dX0_readMarks_51 rfl 0 rfl ?_
    refine j_iconst hJ dX0_readMarks_52 ?_
    refine j_aload_n hJ dX0_readMarks_53 rfl 0 rfl ?_
    refine j_gi hJ kC_280 fC_3_9 rfl fl_X0_98 dX0_readMarks_54 (fun v6 ev6 gv6 => ?_)
    have hF := hF v6 ev6 gv6
    refine j_callVz hJ (c_X0_fail (l := l) (D := D) (cy := cy) (ad := ad) hin) rfl om_23 ⟨rfl, rfl, Nat.le_of_ble_eq_true rfl, Nat.le_of_ble_eq_true rfl⟩ [.int (Ii 2), .int (Ii v6)] mv_X0_130 hd_X0_failv kC_280 rfl rfl rfl (Nat.le_of_ble_eq_true rfl) dX0_readMarks_57 ⟨2, v6, rfl, rk_2, gv6, hF⟩ (fun r7 M8 gr7 qM8 => ?_)
    have hF := qM8 gr7
    exact j_zret hJ rfl gr7 dX0_readMarks_60 hF
set_option maxHeartbeats 4000000 in
set_option maxRecDepth 100000 in
theorem k_X0_readMarks_b2 {l : Launch} {D : va_G} {cy : Nat → ClassId} {ad : Nat → Nat} {Q : Int → MM → Prop} {J : Nat → List (Nat × Value) → List Value → MM → Prop} (hin : jIn ad ksC.length)   (hJ : jOk l D vwCl (tyC cy) cy ad ftC ksC (XtC ad) Om RX0 cX0_readMarks 2 3 ({ frames := 1, cells := 0, slots := 0, locals := 22 } : Room) Q J)  : ∀ (x1 : Int) (M : MM), ri_ x1 → w_X0_readMarks_b2  Q  x1 M → J 2 [(0, .ref (ad 280)), (1, .int (Ii x1))] [] M := by
  have H9 : ∀ (n : Nat) (x1 : Int) (M : MM), ri_ x1 → jit (fun _ _ => False) (wb_X0_readMarks_b2  Q ) n x1 M → J 2 [(0, .ref (ad 280)), (1, .int (Ii x1))] [] M := by
    intro n
    induction n with
    | zero => intro x1 M gx1 hF; exact False.elim hF
    | succ n ih =>
    intro x1 M gx1 hF
    have hF : wb_X0_readMarks_b2  Q  (jit (fun _ _ => False) (wb_X0_readMarks_b2  Q ) n) x1 M := hF
    unfold wb_X0_readMarks_b2 at hF
    refine j_iload_n hJ dX0_readMarks_2 rfl 1 rfl ?_
    refine j_iconst hJ dX0_readMarks_3 ?_
    refine j_icmp_ge hJ 77 gx1 rk_2 dX0_readMarks_4 (by decide) (fun z1 => ?_) (fun z1 => ?_)
    · have hF := hF.1 z1
      refine j_iconst hJ dX0_readMarks_77 ?_
      exact j_zret hJ rfl (by decide) dX0_readMarks_78 hF
    · have hF := hF.2 z1
      refine j_aload_n hJ dX0_readMarks_7 rfl 0 rfl ?_
      refine j_gi hJ kC_280 fC_3_9 rfl fl_X0_98 dX0_readMarks_8 (fun v2 ev2 gv2 => ?_)
      have hF := hF v2 ev2 gv2
      refine j_aload_n hJ dX0_readMarks_11 rfl 0 rfl ?_
      refine j_gi hJ kC_280 fC_3_8 rfl fl_X0_95 dX0_readMarks_12 (fun v3 ev3 gv3 => ?_)
      have hF := hF v3 ev3 gv3
      refine j_icmp_lt hJ 28 gv2 gv3 dX0_readMarks_15 (by decide) (fun z4 => ?_) (fun z4 => ?_)
      · have hF := hF.1 z4
        refine j_aload_n hJ dX0_readMarks_28 rfl 0 rfl ?_
        obtain ⟨c5, nc5, ec5, hc5, lc5, hF⟩ := hF
        refine j_gq hJ kC_280 fC_3_6 rfl fl_X0_26 dX0_readMarks_29 ec5 ?_
        refine j_aload_n hJ dX0_readMarks_32 rfl 0 rfl ?_
        refine j_gi hJ kC_280 fC_3_9 rfl fl_X0_98 dX0_readMarks_33 (fun v6 ev6 gv6 => ?_)
        have hF := hF v6 ev6 gv6
        refine j_iald hJ gv6 hc5 hF.1 hF.2.1 dX0_readMarks_36 (fun v7 ev7 gv7 => ?_)
        have hF := hF.2.2 v7 ev7 gv7
        refine j_iload_n hJ dX0_readMarks_37 rfl 1 rfl ?_
        refine j_if_ne hJ 46 gx1 dX0_readMarks_38 (by decide) (fun z8 => ?_) (fun z8 => ?_)
        · have hF := hF.1 z8
          refine j_bipush hJ dX0_readMarks_46 (by decide) ?_
          exact j_sub hJ [0, 1] rfl (k_X0_readMarks_b48 hin  hJ ih x1 80 v7 _ gx1 rk_80 gv7 hF)
        · have hF := hF.2 z8
          refine j_bipush hJ dX0_readMarks_41 (by decide) ?_
          refine j_goto hJ 48 dX0_readMarks_43 (by decide) ?_
          exact j_sub hJ [0, 1] rfl (k_X0_readMarks_b48 hin  hJ ih x1 72 v7 _ gx1 rk_72 gv7 hF)
      · have hF := hF.2 z4
        refine j_aload_n hJ dX0_readMarks_18 rfl 0 rfl ?_
        refine j_iconst hJ dX0_readMarks_19 ?_
        refine j_aload_n hJ dX0_readMarks_20 rfl 0 rfl ?_
        refine j_gi hJ kC_280 fC_3_8 rfl fl_X0_95 dX0_readMarks_21 (fun v9 ev9 gv9 => ?_)
        have hF := hF v9 ev9 gv9
        refine j_callVz hJ (c_X0_fail (l := l) (D := D) (cy := cy) (ad := ad) hin) rfl om_23 ⟨rfl, rfl, Nat.le_of_ble_eq_true rfl, Nat.le_of_ble_eq_true rfl⟩ [.int (Ii 1), .int (Ii v9)] mv_X0_130 hd_X0_failv kC_280 rfl rfl rfl (Nat.le_of_ble_eq_true rfl) dX0_readMarks_24 ⟨1, v9, rfl, rk_1, gv9, hF⟩ (fun r10 M11 gr10 qM11 => ?_)
        have hF := qM11 gr10
        exact j_zret hJ rfl gr10 dX0_readMarks_27 hF
  intro x1 M gx1 hF
  obtain ⟨n, hF⟩ := hF
  exact H9 n x1 M gx1 hF
set_option maxHeartbeats 4000000 in
set_option maxRecDepth 100000 in
theorem c_X0_readMarks {l : Launch} {D : va_G} {cy : Nat → ClassId} {ad : Nat → Nat} (hin : jIn ad ksC.length) : jCN l D vwCl (tyC cy) cy ad ftC ksC (XtC ad) yX0_readMarks (.code yX0_readMarks cX0_readMarks 2 (some .boolean) :: Om) ({ frames := 1, cells := 0, slots := 0, locals := 22 } : Room) 3 (W_X0_readMarks ad) := by
  refine jCN_of (y := yX0_readMarks) (cc := cX0_readMarks) (nL := 2) (rk := 3) (rm := ({ frames := 1, cells := 0, slots := 0, locals := 22 } : Room)) (own := RX0) (tyC_ok cy) hin (XtC_ok ad) Om_good (by decide) rfl ?_
  intro Q av M hF
  obtain ⟨rfl, hF⟩ := hF
  refine ⟨Nat.le_of_ble_eq_true rfl, fun J hJ => ?_⟩
  show J 0 [(0, .ref (ad 280))] [] M
  unfold w_X0_readMarks at hF
  refine j_iconst hJ dX0_readMarks_0 ?_
  refine j_istore_n (lv' := [(1, .int (Ii 0)), (0, .ref (ad 280))]) hJ dX0_readMarks_1 rfl (by decide) rfl ?_
  exact j_sub hJ [1, 0] rfl (k_X0_readMarks_b2 hin  hJ  0 _ rk_0 hF)
def W_X0_readNumber (ad : Nat → Nat) (Q : Int → MM → Prop) (av : List Value) (M : MM) : Prop := av = [.ref (ad 280)] ∧ w_X0_readNumber  Q  M
set_option maxHeartbeats 4000000 in
set_option maxRecDepth 100000 in
theorem k_X0_readNumber_b117 {l : Launch} {D : va_G} {cy : Nat → ClassId} {ad : Nat → Nat} {Q : Int → MM → Prop} {J : Nat → List (Nat × Value) → List Value → MM → Prop} (hin : jIn ad ksC.length)   (hJ : jOk l D vwCl (tyC cy) cy ad ftC ksC (XtC ad) Om RX0 cX0_readNumber 5 2 ({ frames := 1, cells := 0, slots := 0, locals := 22 } : Room) Q J)  : ∀ (M : MM), w_X0_readNumber_b117  Q   M → J 117 [(0, .ref (ad 280))] [] M := by
  intro  M  hF
  unfold w_X0_readNumber_b117 at hF
  refine j_aload_n hJ dX0_readNumber_117 rfl 0 rfl ?_
  refine j_iconst hJ dX0_readNumber_118 ?_
  refine j_aload_n hJ dX0_readNumber_119 rfl 0 rfl ?_
  refine j_gi hJ kC_280 fC_3_10 rfl fl_X0_134 dX0_readNumber_120 (fun v1 ev1 gv1 => ?_)
  have hF := hF v1 ev1 gv1
  refine j_callVz hJ (c_X0_fail (l := l) (D := D) (cy := cy) (ad := ad) hin) rfl om_23 ⟨rfl, rfl, Nat.le_of_ble_eq_true rfl, Nat.le_of_ble_eq_true rfl⟩ [.int (Ii 3), .int (Ii v1)] mv_X0_130 hd_X0_failv kC_280 rfl rfl rfl (Nat.le_of_ble_eq_true rfl) dX0_readNumber_123 ⟨3, v1, rfl, rk_3, gv1, hF⟩ (fun r2 M3 gr2 qM3 => ?_)
  have hF := qM3 gr2
  refine j_pop hJ dX0_readNumber_126 rfl ?_
  refine j_lconst (x := 0) hJ dX0_readNumber_127 rfl ?_
  exact j_lret hJ rfl lkm_0 dX0_readNumber_128 hF
set_option maxHeartbeats 4000000 in
set_option maxRecDepth 100000 in
theorem k_X0_readNumber_b86 {l : Launch} {D : va_G} {cy : Nat → ClassId} {ad : Nat → Nat} {Q : Int → MM → Prop} {J : Nat → List (Nat × Value) → List Value → MM → Prop} (hin : jIn ad ksC.length)   (hJ : jOk l D vwCl (tyC cy) cy ad ftC ksC (XtC ad) Om RX0 cX0_readNumber 5 2 ({ frames := 1, cells := 0, slots := 0, locals := 22 } : Room) Q J) {K12 : Int → Int → MM → Prop} (hK12 : ∀ (x1 x3 : Int) (M : MM), rl_ x1 → ri_ x3 → K12 x1 x3 M → J 12 [(0, .ref (ad 280)), (1, .long (Ll x1)), (3, .int (Ii x3))] [] M) : ∀ (x1 x3 x4 : Int) (M : MM), rl_ x1 → ri_ x3 → ri_ x4 → w_X0_readNumber_b86  Q K12 x1 x3 x4 M → J 86 [(0, .ref (ad 280)), (1, .long (Ll x1)), (3, .int (Ii x3)), (4, .int (Ii x4))] [] M := by
  intro x1 x3 x4 M gx1 gx3 gx4 hF
  unfold w_X0_readNumber_b86 at hF
  refine j_lload_n hJ dX0_readNumber_86 rfl 1 rfl ?_
  refine j_iload hJ dX0_readNumber_87 3 rfl ?_
  refine j_i2l hJ gx4 dX0_readNumber_89 ?_
  refine j_ldc2 hJ 127 om_5 (by decide) dX0_readNumber_90 ?_
  refine j_land hJ dX0_readNumber_93 ?_
  refine j_bipush hJ dX0_readNumber_94 (by decide) ?_
  refine j_iload_n hJ dX0_readNumber_96 rfl 2 rfl ?_
  refine j_imul hJ dX0_readNumber_97 ?_
  have g1 := hF.1; have hF := hF.2
  refine j_lshl hJ dX0_readNumber_98 ?_
  refine j_lor hJ dX0_readNumber_99 ?_
  refine j_lstore_n (lv' := [(1, .long (Ll (jlor x1 (jlshl (jland x4 127) (7 * x3))))), (0, .ref (ad 280)), (3, .int (Ii x3)), (4, .int (Ii x4))]) hJ dX0_readNumber_100 rfl (by decide) rfl ?_
  refine j_iload hJ dX0_readNumber_101 3 rfl ?_
  refine j_sipush hJ dX0_readNumber_103 (by decide) ?_
  refine j_icmp_ge hJ 111 gx4 rk_128 dX0_readNumber_106 (by decide) (fun z2 => ?_) (fun z2 => ?_)
  · have hF := hF.1 z2
    refine j_iinc (lv' := [(3, .int (Ii (x3 + 1))), (1, .long (Ll (jlor x1 (jlshl (jland x4 127) (7 * x3))))), (0, .ref (ad 280)), (4, .int (Ii x4))]) (k := 2) hJ dX0_readNumber_111 rfl (by decide) rfl ?_
    have g3 := hF.1; have hF := hF.2
    refine j_goto hJ 12 dX0_readNumber_114 (by decide) ?_
    exact j_sub hJ [2, 1, 0] rfl (hK12 (jlor x1 (jlshl (jland x4 127) (7 * x3))) (x3 + 1) _ (rl_of _) g3 hF)
  · have hF := hF.2 z2
    refine j_lload_n hJ dX0_readNumber_109 rfl 0 rfl ?_
    exact j_lret hJ rfl (rl_of _) dX0_readNumber_110 hF
set_option maxHeartbeats 4000000 in
set_option maxRecDepth 100000 in
theorem k_X0_readNumber_b74 {l : Launch} {D : va_G} {cy : Nat → ClassId} {ad : Nat → Nat} {Q : Int → MM → Prop} {J : Nat → List (Nat × Value) → List Value → MM → Prop} (hin : jIn ad ksC.length)   (hJ : jOk l D vwCl (tyC cy) cy ad ftC ksC (XtC ad) Om RX0 cX0_readNumber 5 2 ({ frames := 1, cells := 0, slots := 0, locals := 22 } : Room) Q J) {K12 : Int → Int → MM → Prop} (hK12 : ∀ (x1 x3 : Int) (M : MM), rl_ x1 → ri_ x3 → K12 x1 x3 M → J 12 [(0, .ref (ad 280)), (1, .long (Ll x1)), (3, .int (Ii x3))] [] M) : ∀ (x1 x3 x4 : Int) (M : MM), rl_ x1 → ri_ x3 → ri_ x4 → w_X0_readNumber_b74  Q K12 x1 x3 x4 M → J 74 [(0, .ref (ad 280)), (1, .long (Ll x1)), (3, .int (Ii x3)), (4, .int (Ii x4))] [] M := by
  intro x1 x3 x4 M gx1 gx3 gx4 hF
  unfold w_X0_readNumber_b74 at hF
  refine j_iload_n hJ dX0_readNumber_74 rfl 2 rfl ?_
  refine j_if_le hJ 86 gx3 dX0_readNumber_75 (by decide) (fun z1 => ?_) (fun z1 => ?_)
  · have hF := hF.1 z1
    exact j_sub hJ [0, 1, 2, 3] rfl (k_X0_readNumber_b86 hin  hJ hK12 x1 x3 x4 _ gx1 gx3 gx4 hF)
  · have hF := hF.2 z1
    refine j_iload hJ dX0_readNumber_78 3 rfl ?_
    refine j_if_ne hJ 86 gx4 dX0_readNumber_80 (by decide) (fun z2 => ?_) (fun z2 => ?_)
    · have hF := hF.1 z2
      exact j_sub hJ [0, 1, 2, 3] rfl (k_X0_readNumber_b86 hin  hJ hK12 x1 x3 x4 _ gx1 gx3 gx4 hF)
    · have hF := hF.2 z2
      refine j_goto hJ 117 dX0_readNumber_83 (by decide) ?_
      exact j_sub hJ [0] rfl (k_X0_readNumber_b117 hin  hJ   _  hF)
set_option maxHeartbeats 4000000 in
set_option maxRecDepth 100000 in
theorem k_X0_readNumber_b12 {l : Launch} {D : va_G} {cy : Nat → ClassId} {ad : Nat → Nat} {Q : Int → MM → Prop} {J : Nat → List (Nat × Value) → List Value → MM → Prop} (hin : jIn ad ksC.length)   (hJ : jOk l D vwCl (tyC cy) cy ad ftC ksC (XtC ad) Om RX0 cX0_readNumber 5 2 ({ frames := 1, cells := 0, slots := 0, locals := 22 } : Room) Q J)  : ∀ (x1 x3 : Int) (M : MM), rl_ x1 → ri_ x3 → w_X0_readNumber_b12  Q  x1 x3 M → J 12 [(0, .ref (ad 280)), (1, .long (Ll x1)), (3, .int (Ii x3))] [] M := by
  have H9 : ∀ (n : Nat) (x1 x3 : Int) (M : MM), rl_ x1 → ri_ x3 → jit (fun _ _ _ => False) (wb_X0_readNumber_b12  Q ) n x1 x3 M → J 12 [(0, .ref (ad 280)), (1, .long (Ll x1)), (3, .int (Ii x3))] [] M := by
    intro n
    induction n with
    | zero => intro x1 x3 M gx1 gx3 hF; exact False.elim hF
    | succ n ih =>
    intro x1 x3 M gx1 gx3 hF
    have hF : wb_X0_readNumber_b12  Q  (jit (fun _ _ _ => False) (wb_X0_readNumber_b12  Q ) n) x1 x3 M := hF
    unfold wb_X0_readNumber_b12 at hF
    refine j_iload_n hJ dX0_readNumber_12 rfl 2 rfl ?_
    refine j_bipush hJ dX0_readNumber_13 (by decide) ?_
    refine j_icmp_ge hJ 117 gx3 rk_10 dX0_readNumber_15 (by decide) (fun z1 => ?_) (fun z1 => ?_)
    · have hF := hF.1 z1
      exact j_sub hJ [0] rfl (k_X0_readNumber_b117 hin  hJ   _  hF)
    · have hF := hF.2 z1
      refine j_aload_n hJ dX0_readNumber_18 rfl 0 rfl ?_
      refine j_gi hJ kC_280 fC_3_9 rfl fl_X0_98 dX0_readNumber_19 (fun v2 ev2 gv2 => ?_)
      have hF := hF v2 ev2 gv2
      refine j_aload_n hJ dX0_readNumber_22 rfl 0 rfl ?_
      refine j_gi hJ kC_280 fC_3_8 rfl fl_X0_95 dX0_readNumber_23 (fun v3 ev3 gv3 => ?_)
      have hF := hF v3 ev3 gv3
      refine j_icmp_lt hJ 41 gv2 gv3 dX0_readNumber_26 (by decide) (fun z4 => ?_) (fun z4 => ?_)
      · have hF := hF.1 z4
        refine j_aload_n hJ dX0_readNumber_41 rfl 0 rfl ?_
        obtain ⟨c5, nc5, ec5, hc5, lc5, hF⟩ := hF
        refine j_gq hJ kC_280 fC_3_6 rfl fl_X0_26 dX0_readNumber_42 ec5 ?_
        refine j_aload_n hJ dX0_readNumber_45 rfl 0 rfl ?_
        refine j_gi hJ kC_280 fC_3_9 rfl fl_X0_98 dX0_readNumber_46 (fun v6 ev6 gv6 => ?_)
        have hF := hF v6 ev6 gv6
        refine j_iald hJ gv6 hc5 hF.1 hF.2.1 dX0_readNumber_49 (fun v7 ev7 gv7 => ?_)
        have hF := hF.2.2 v7 ev7 gv7
        refine j_istore (lv' := [(4, .int (Ii v7)), (0, .ref (ad 280)), (1, .long (Ll x1)), (3, .int (Ii x3))]) hJ dX0_readNumber_50 (by decide) rfl ?_
        refine j_aload_n hJ dX0_readNumber_52 rfl 1 rfl ?_
        refine j_dup hJ dX0_readNumber_53 rfl ?_
        refine j_gi hJ kC_280 fC_3_9 rfl fl_X0_98 dX0_readNumber_54 (fun v8 ev8 gv8 => ?_)
        have hF := hF v8 ev8 gv8
        refine j_iconst hJ dX0_readNumber_57 ?_
        refine j_iadd hJ dX0_readNumber_58 ?_
        have g9 := hF.1; have hF := hF.2
        refine j_pi hJ g9 kC_280 fC_3_9 rfl fp_X0_98 dX0_readNumber_59 (fun M10 eM10 => ?_)
        have hF := hF M10 eM10
        refine j_iload_n hJ dX0_readNumber_62 rfl 3 rfl ?_
        refine j_bipush hJ dX0_readNumber_63 (by decide) ?_
        refine j_icmp_ne hJ 74 gx3 rk_9 dX0_readNumber_65 (by decide) (fun z11 => ?_) (fun z11 => ?_)
        · have hF := hF.1 z11
          exact j_sub hJ [1, 2, 3, 0] rfl (k_X0_readNumber_b74 hin  hJ ih x1 x3 v7 _ gx1 gx3 gv7 hF)
        · have hF := hF.2 z11
          refine j_iload hJ dX0_readNumber_68 0 rfl ?_
          refine j_iconst hJ dX0_readNumber_70 ?_
          refine j_icmp_gt hJ 117 gv7 rk_1 dX0_readNumber_71 (by decide) (fun z12 => ?_) (fun z12 => ?_)
          · have hF := hF.1 z12
            exact j_sub hJ [1] rfl (k_X0_readNumber_b117 hin  hJ   _  hF)
          · have hF := hF.2 z12
            exact j_sub hJ [1, 2, 3, 0] rfl (k_X0_readNumber_b74 hin  hJ ih x1 x3 v7 _ gx1 gx3 gv7 hF)
      · have hF := hF.2 z4
        refine j_aload_n hJ dX0_readNumber_29 rfl 0 rfl ?_
        refine j_iconst hJ dX0_readNumber_30 ?_
        refine j_aload_n hJ dX0_readNumber_31 rfl 0 rfl ?_
        refine j_gi hJ kC_280 fC_3_8 rfl fl_X0_95 dX0_readNumber_32 (fun v13 ev13 gv13 => ?_)
        have hF := hF v13 ev13 gv13
        refine j_callVz hJ (c_X0_fail (l := l) (D := D) (cy := cy) (ad := ad) hin) rfl om_23 ⟨rfl, rfl, Nat.le_of_ble_eq_true rfl, Nat.le_of_ble_eq_true rfl⟩ [.int (Ii 1), .int (Ii v13)] mv_X0_130 hd_X0_failv kC_280 rfl rfl rfl (Nat.le_of_ble_eq_true rfl) dX0_readNumber_35 ⟨1, v13, rfl, rk_1, gv13, hF⟩ (fun r14 M15 gr14 qM15 => ?_)
        have hF := qM15 gr14
        refine j_pop hJ dX0_readNumber_38 rfl ?_
        refine j_lconst (x := 0) hJ dX0_readNumber_39 rfl ?_
        exact j_lret hJ rfl lkm_0 dX0_readNumber_40 hF
  intro x1 x3 M gx1 gx3 hF
  obtain ⟨n, hF⟩ := hF
  exact H9 n x1 x3 M gx1 gx3 hF
set_option maxHeartbeats 4000000 in
set_option maxRecDepth 100000 in
theorem c_X0_readNumber {l : Launch} {D : va_G} {cy : Nat → ClassId} {ad : Nat → Nat} (hin : jIn ad ksC.length) : jCN l D vwCl (tyC cy) cy ad ftC ksC (XtC ad) yX0_readNumber (.code yX0_readNumber cX0_readNumber 5 (some .long) :: Om) ({ frames := 1, cells := 0, slots := 0, locals := 22 } : Room) 2 (W_X0_readNumber ad) := by
  refine jCN_of (y := yX0_readNumber) (cc := cX0_readNumber) (nL := 5) (rk := 2) (rm := ({ frames := 1, cells := 0, slots := 0, locals := 22 } : Room)) (own := RX0) (tyC_ok cy) hin (XtC_ok ad) Om_good (by decide) rfl ?_
  intro Q av M hF
  obtain ⟨rfl, hF⟩ := hF
  refine ⟨Nat.le_of_ble_eq_true rfl, fun J hJ => ?_⟩
  show J 0 [(0, .ref (ad 280))] [] M
  unfold w_X0_readNumber at hF
  refine j_aload_n hJ dX0_readNumber_0 rfl 0 rfl ?_
  refine j_aload_n hJ dX0_readNumber_1 rfl 0 rfl ?_
  refine j_gi hJ kC_280 fC_3_9 rfl fl_X0_98 dX0_readNumber_2 (fun v1 ev1 gv1 => ?_)
  have hF := hF v1 ev1 gv1
  refine j_pi hJ gv1 kC_280 fC_3_10 rfl fp_X0_134 dX0_readNumber_5 (fun M2 eM2 => ?_)
  have hF := hF M2 eM2
  refine j_lconst (x := 0) hJ dX0_readNumber_8 rfl ?_
  refine j_lstore_n (lv' := [(1, .long (Ll 0)), (0, .ref (ad 280))]) hJ dX0_readNumber_9 rfl (by decide) rfl ?_
  refine j_iconst hJ dX0_readNumber_10 ?_
  refine j_istore_n (lv' := [(3, .int (Ii 0)), (1, .long (Ll 0)), (0, .ref (ad 280))]) hJ dX0_readNumber_11 rfl (by decide) rfl ?_
  exact j_sub hJ [2, 1, 0] rfl (k_X0_readNumber_b12 hin  hJ  0 0 _ lkm_0 rk_0 hF)
def W_X0_readUpTo (ad : Nat → Nat) (Q : Int → MM → Prop) (av : List Value) (M : MM) : Prop := ∃ (p1 : Int), av = [.ref (ad 280), .int (Ii p1)] ∧ ri_ p1 ∧ w_X0_readUpTo  Q p1 M
set_option maxHeartbeats 4000000 in
set_option maxRecDepth 100000 in
theorem k_X0_readUpTo_b35 {l : Launch} {D : va_G} {cy : Nat → ClassId} {ad : Nat → Nat} {Q : Int → MM → Prop} {J : Nat → List (Nat × Value) → List Value → MM → Prop} (hin : jIn ad ksC.length)   (hJ : jOk l D vwCl (tyC cy) cy ad ftC ksC (XtC ad) Om RX0 cX0_readUpTo 4 1 ({ frames := 2, cells := 0, slots := 0, locals := 46 } : Room) Q J)  : ∀ (x2 : Int) (M : MM), rl_ x2 → w_X0_readUpTo_b35  Q  x2 M → J 35 [(0, .ref (ad 280)), (2, .long (Ll x2))] [] M := by
  intro x2 M gx2 hF
  unfold w_X0_readUpTo_b35 at hF
  refine j_aload_n hJ dX0_readUpTo_35 rfl 0 rfl ?_
  refine j_gi hJ kC_280 fC_3_13 rfl fl_X0_101 dX0_readUpTo_36 (fun v1 ev1 gv1 => ?_)
  have hF := hF v1 ev1 gv1
  refine j_if_ne hJ 47 gv1 dX0_readUpTo_39 (by decide) (fun z2 => ?_) (fun z2 => ?_)
  · have hF := hF.1 z2
    refine j_iconst hJ dX0_readUpTo_47 ?_
    exact j_iret hJ rfl rk_m1 dX0_readUpTo_48 hF
  · have hF := hF.2 z2
    refine j_lload_n hJ dX0_readUpTo_42 rfl 1 rfl ?_
    refine j_l2i hJ dX0_readUpTo_43 ?_
    have g3 := hF.1; have hF := hF.2
    refine j_goto hJ 48 dX0_readUpTo_44 (by decide) ?_
    exact j_iret hJ rfl g3 dX0_readUpTo_48 hF
set_option maxHeartbeats 4000000 in
set_option maxRecDepth 100000 in
theorem k_X0_readUpTo_b25 {l : Launch} {D : va_G} {cy : Nat → ClassId} {ad : Nat → Nat} {Q : Int → MM → Prop} {J : Nat → List (Nat × Value) → List Value → MM → Prop} (hin : jIn ad ksC.length)   (hJ : jOk l D vwCl (tyC cy) cy ad ftC ksC (XtC ad) Om RX0 cX0_readUpTo 4 1 ({ frames := 2, cells := 0, slots := 0, locals := 46 } : Room) Q J)  : ∀ (x2 : Int) (M : MM), rl_ x2 → w_X0_readUpTo_b25  Q  x2 M → J 25 [(0, .ref (ad 280)), (2, .long (Ll x2))] [] M := by
  intro x2 M gx2 hF
  unfold w_X0_readUpTo_b25 at hF
  refine j_aload_n hJ dX0_readUpTo_25 rfl 0 rfl ?_
  refine j_iconst hJ dX0_readUpTo_26 ?_
  refine j_aload_n hJ dX0_readUpTo_27 rfl 0 rfl ?_
  refine j_gi hJ kC_280 fC_3_10 rfl fl_X0_134 dX0_readUpTo_28 (fun v1 ev1 gv1 => ?_)
  have hF := hF v1 ev1 gv1
  refine j_callVz hJ (c_X0_fail (l := l) (D := D) (cy := cy) (ad := ad) hin) rfl om_23 ⟨rfl, rfl, Nat.le_of_ble_eq_true rfl, Nat.le_of_ble_eq_true rfl⟩ [.int (Ii 4), .int (Ii v1)] mv_X0_130 hd_X0_failv kC_280 rfl rfl rfl (Nat.le_of_ble_eq_true rfl) dX0_readUpTo_31 ⟨4, v1, rfl, rk_4, gv1, hF⟩ (fun r2 M3 gr2 qM3 => ?_)
  have hF := qM3 gr2
  refine j_pop hJ dX0_readUpTo_34 rfl ?_
  exact j_sub hJ [0, 1] rfl (k_X0_readUpTo_b35 hin  hJ  x2 _ gx2 hF)
set_option maxHeartbeats 4000000 in
set_option maxRecDepth 100000 in
theorem c_X0_readUpTo {l : Launch} {D : va_G} {cy : Nat → ClassId} {ad : Nat → Nat} (hin : jIn ad ksC.length) : jCN l D vwCl (tyC cy) cy ad ftC ksC (XtC ad) yX0_readUpTo (.code yX0_readUpTo cX0_readUpTo 4 (some .int) :: Om) ({ frames := 2, cells := 0, slots := 0, locals := 46 } : Room) 1 (W_X0_readUpTo ad) := by
  refine jCN_of (y := yX0_readUpTo) (cc := cX0_readUpTo) (nL := 4) (rk := 1) (rm := ({ frames := 2, cells := 0, slots := 0, locals := 46 } : Room)) (own := RX0) (tyC_ok cy) hin (XtC_ok ad) Om_good (by decide) rfl ?_
  intro Q av M hF
  obtain ⟨p1, rfl, gp1, hF⟩ := hF
  refine ⟨Nat.le_of_ble_eq_true rfl, fun J hJ => ?_⟩
  show J 0 [(0, .ref (ad 280)), (1, .int (Ii p1))] [] M
  unfold w_X0_readUpTo at hF
  refine j_aload_n hJ dX0_readUpTo_0 rfl 0 rfl ?_
  refine j_callVl hJ (c_X0_readNumber (l := l) (D := D) (cy := cy) (ad := ad) hin) rfl om_31 ⟨rfl, rfl, Nat.le_of_ble_eq_true rfl, Nat.le_of_ble_eq_true rfl⟩ [] mv_X0_137 hd_X0_readNumberv kC_280 rfl rfl rfl (Nat.le_of_ble_eq_true rfl) dX0_readUpTo_1 ⟨rfl, hF⟩ (fun r1 M2 gr1 qM2 => ?_)
  have hF := qM2 gr1
  refine j_lstore_n (lv' := [(2, .long (Ll r1)), (0, .ref (ad 280)), (1, .int (Ii p1))]) hJ dX0_readUpTo_4 rfl (by decide) rfl ?_
  refine j_aload_n hJ dX0_readUpTo_5 rfl 1 rfl ?_
  refine j_gi hJ kC_280 fC_3_13 rfl fl_X0_101 dX0_readUpTo_6 (fun v3 ev3 gv3 => ?_)
  have hF := hF v3 ev3 gv3
  refine j_if_ne hJ 35 gv3 dX0_readUpTo_9 (by decide) (fun z4 => ?_) (fun z4 => ?_)
  · have hF := hF.1 z4
    exact j_sub hJ [1, 0] rfl (k_X0_readUpTo_b35 hin  hJ  r1 _ gr1 hF)
  · have hF := hF.2 z4
    refine j_lload_n hJ dX0_readUpTo_12 rfl 0 rfl ?_
    refine j_lconst (x := 0) hJ dX0_readUpTo_13 rfl ?_
    refine j_lcmp_lt hJ 25 gr1 lkm_0 dX0_readUpTo_14 dX0_readUpTo_15 (by decide) (fun z5 => ?_) (fun z5 => ?_)
    · have hF := hF.1 z5
      exact j_sub hJ [1, 0] rfl (k_X0_readUpTo_b25 hin  hJ  r1 _ gr1 hF)
    · have hF := hF.2 z5
      refine j_lload_n hJ dX0_readUpTo_18 rfl 0 rfl ?_
      refine j_iload_n hJ dX0_readUpTo_19 rfl 2 rfl ?_
      refine j_i2l hJ gp1 dX0_readUpTo_20 ?_
      refine j_lcmp_le hJ 35 gr1 (rl_ri gp1) dX0_readUpTo_21 dX0_readUpTo_22 (by decide) (fun z6 => ?_) (fun z6 => ?_)
      · have hF := hF.1 z6
        exact j_sub hJ [1, 0] rfl (k_X0_readUpTo_b35 hin  hJ  r1 _ gr1 hF)
      · have hF := hF.2 z6
        exact j_sub hJ [1, 0] rfl (k_X0_readUpTo_b25 hin  hJ  r1 _ gr1 hF)
def W_X10_isArray (ad : Nat → Nat) (Q : Int → MM → Prop) (av : List Value) (M : MM) : Prop := ∃ (p1 : Int), av = [.int (Ii p1)] ∧ ri_ p1 ∧ w_X10_isArray  Q p1 M
set_option maxHeartbeats 4000000 in
set_option maxRecDepth 100000 in
theorem c_X10_isArray {l : Launch} {D : va_G} {cy : Nat → ClassId} {ad : Nat → Nat} (hin : jIn ad ksC.length) : jCN l D vwCl (tyC cy) cy ad ftC ksC (XtC ad) yX10_isArray (.code yX10_isArray cX10_isArray 1 (some .boolean) :: Om) ({ frames := 0, cells := 0, slots := 0, locals := 0 } : Room) 3 (W_X10_isArray ad) := by
  refine jCN_of (y := yX10_isArray) (cc := cX10_isArray) (nL := 1) (rk := 3) (rm := ({ frames := 0, cells := 0, slots := 0, locals := 0 } : Room)) (own := RX10) (tyC_ok cy) hin (XtC_ok ad) Om_good (by decide) rfl ?_
  intro Q av M hF
  obtain ⟨p1, rfl, gp1, hF⟩ := hF
  refine ⟨Nat.le_of_ble_eq_true rfl, fun J hJ => ?_⟩
  show J 0 [(0, .int (Ii p1))] [] M
  unfold w_X10_isArray at hF
  refine j_iload_n hJ dX10_isArray_0 rfl 0 rfl ?_
  refine j_bipush hJ dX10_isArray_1 (by decide) ?_
  refine j_icmp_lt hJ 10 gp1 rk_20 dX10_isArray_3 (by decide) (fun z1 => ?_) (fun z1 => ?_)
  · have hF := hF.1 z1
    refine j_iconst hJ dX10_isArray_10 ?_
    exact j_zret hJ rfl (by decide) dX10_isArray_11 hF
  · have hF := hF.2 z1
    refine j_iconst hJ dX10_isArray_6 ?_
    refine j_goto hJ 11 dX10_isArray_7 (by decide) ?_
    exact j_zret hJ rfl (by decide) dX10_isArray_11 hF
def W_X10_slotsOf (ad : Nat → Nat) (Q : Int → MM → Prop) (av : List Value) (M : MM) : Prop := ∃ (p1 : Int) (p2 : Int), av = [.ref (ad 8), .int (Ii p1), .int (Ii p2)] ∧ ri_ p1 ∧ ri_ p2 ∧ w_X10_slotsOf  Q p1 p2 M
set_option maxHeartbeats 4000000 in
set_option maxRecDepth 100000 in
theorem c_X10_slotsOf {l : Launch} {D : va_G} {cy : Nat → ClassId} {ad : Nat → Nat} (hin : jIn ad ksC.length) : jCN l D vwCl (tyC cy) cy ad ftC ksC (XtC ad) yX10_slotsOf (.code yX10_slotsOf cX10_slotsOf 3 (some .int) :: Om) ({ frames := 1, cells := 0, slots := 0, locals := 20 } : Room) 1 (W_X10_slotsOf ad) := by
  refine jCN_of (y := yX10_slotsOf) (cc := cX10_slotsOf) (nL := 3) (rk := 1) (rm := ({ frames := 1, cells := 0, slots := 0, locals := 20 } : Room)) (own := RX10) (tyC_ok cy) hin (XtC_ok ad) Om_good (by decide) rfl ?_
  intro Q av M hF
  obtain ⟨p1, p2, rfl, gp1, gp2, hF⟩ := hF
  refine ⟨Nat.le_of_ble_eq_true rfl, fun J hJ => ?_⟩
  show J 0 [(0, .ref (ad 8)), (1, .int (Ii p1)), (2, .int (Ii p2))] [] M
  unfold w_X10_slotsOf at hF
  refine j_iload_n hJ dX10_slotsOf_0 rfl 1 rfl ?_
  refine j_callSz hJ (c_X10_isArray (l := l) (D := D) (cy := cy) (ad := ad) hin) rfl om_39 ⟨rfl, rfl, Nat.le_of_ble_eq_true rfl, Nat.le_of_ble_eq_true rfl⟩ [.int (Ii p1)] mv_X10_86 hd_X10_isArray rfl (Nat.le_of_ble_eq_true rfl) dX10_slotsOf_1 ⟨p1, rfl, gp1, hF⟩ (fun r1 M2 gr1 qM2 => ?_)
  have hF := qM2 gr1
  refine j_if_eq hJ 11 (jz_ri gr1) dX10_slotsOf_4 (by decide) (fun z3 => ?_) (fun z3 => ?_)
  · have hF := hF.1 z3
    refine j_aload_n hJ dX10_slotsOf_11 rfl 0 rfl ?_
    refine j_gr (e := 16) hJ kC_8 fC_13_8 fl_X10_35 dX10_slotsOf_12 rfl ?_
    refine j_iload_n hJ dX10_slotsOf_15 rfl 1 rfl ?_
    refine j_iald hJ gp1 kC_16 hF.1 hF.2.1 dX10_slotsOf_16 (fun v4 ev4 gv4 => ?_)
    have hF := hF.2.2 v4 ev4 gv4
    exact j_iret hJ rfl gv4 dX10_slotsOf_17 hF
  · have hF := hF.2 z3
    refine j_iload_n hJ dX10_slotsOf_7 rfl 2 rfl ?_
    refine j_goto hJ 17 dX10_slotsOf_8 (by decide) ?_
    exact j_iret hJ rfl gp2 dX10_slotsOf_17 hF
def W_X5_addThing (ad : Nat → Nat) (Q : Int → MM → Prop) (av : List Value) (M : MM) : Prop := ∃ (c : Nat) (p1 : Int) (p2 : Int) (p3 : Int) (p4 : Int), av = [.ref (ad c), .int (Ii p1), .int (Ii p2), .int (Ii p3), .int (Ii p4)] ∧ isP c ∧ ri_ p1 ∧ ri_ p2 ∧ ri_ p3 ∧ ri_ p4 ∧ w_X5_addThing c Q p1 p2 p3 p4 M
set_option maxHeartbeats 4000000 in
set_option maxRecDepth 100000 in
theorem c_X5_addThing {l : Launch} {D : va_G} {cy : Nat → ClassId} {ad : Nat → Nat} (hin : jIn ad ksC.length) : jCN l D vwCl (tyC cy) cy ad ftC ksC (XtC ad) yX5_addThing (.code yX5_addThing cX5_addThing 6 (some .int) :: Om) ({ frames := 0, cells := 0, slots := 0, locals := 0 } : Room) 1 (W_X5_addThing ad) := by
  refine jCN_of (y := yX5_addThing) (cc := cX5_addThing) (nL := 6) (rk := 1) (rm := ({ frames := 0, cells := 0, slots := 0, locals := 0 } : Room)) (own := RX5) (tyC_ok cy) hin (XtC_ok ad) Om_good (by decide) rfl ?_
  intro Q av M hF
  obtain ⟨c, p1, p2, p3, p4, rfl, hc, gp1, gp2, gp3, gp4, hF⟩ := hF
  refine ⟨Nat.le_of_ble_eq_true rfl, fun J hJ => ?_⟩
  show J 0 [(0, .ref (ad c)), (1, .int (Ii p1)), (2, .int (Ii p2)), (3, .int (Ii p3)), (4, .int (Ii p4))] [] M
  unfold w_X5_addThing at hF
  refine j_aload_n hJ dX5_addThing_0 rfl 0 rfl ?_
  refine j_gi hJ (kP_0 hc) fC_8_0 rfl fl_X5_82 dX5_addThing_1 (fun v1 ev1 gv1 => ?_)
  have hF := hF v1 ev1 gv1
  refine j_istore (lv' := [(5, .int (Ii v1)), (0, .ref (ad c)), (1, .int (Ii p1)), (2, .int (Ii p2)), (3, .int (Ii p3)), (4, .int (Ii p4))]) hJ dX5_addThing_4 (by decide) rfl ?_
  refine j_aload_n hJ dX5_addThing_6 rfl 1 rfl ?_
  refine j_dup hJ dX5_addThing_7 rfl ?_
  refine j_gi hJ (kP_0 hc) fC_8_0 rfl fl_X5_82 dX5_addThing_8 (fun v2 ev2 gv2 => ?_)
  have hF := hF v2 ev2 gv2
  refine j_iconst hJ dX5_addThing_11 ?_
  refine j_iadd hJ dX5_addThing_12 ?_
  have g3 := hF.1; have hF := hF.2
  refine j_pi hJ g3 (kP_0 hc) fC_8_0 rfl fp_X5_82 dX5_addThing_13 (fun M4 eM4 => ?_)
  have hF := hF M4 eM4
  refine j_aload_n hJ dX5_addThing_16 rfl 1 rfl ?_
  refine j_gr (e := (c + 8)) hJ (kP_0 hc) fC_8_8 fl_X5_35 dX5_addThing_17 rfl ?_
  refine j_iload_n hJ dX5_addThing_20 rfl 2 rfl ?_
  refine j_iload hJ dX5_addThing_21 0 rfl ?_
  refine j_iast hJ gp1 gv1 (kP_8 hc) hF.1 hF.2.1 dX5_addThing_23 (fun M5 eM5 => ?_)
  have hF := hF.2.2 M5 eM5
  refine j_aload_n hJ dX5_addThing_24 rfl 1 rfl ?_
  refine j_gr (e := (c + 1)) hJ (kP_0 hc) fC_8_1 fl_X5_11 dX5_addThing_25 rfl ?_
  refine j_iload hJ dX5_addThing_28 0 rfl ?_
  refine j_iload_n hJ dX5_addThing_30 rfl 2 rfl ?_
  refine j_iast hJ gv1 gp1 (kP_1 hc) hF.1 hF.2.1 dX5_addThing_31 (fun M6 eM6 => ?_)
  have hF := hF.2.2 M6 eM6
  refine j_aload_n hJ dX5_addThing_32 rfl 1 rfl ?_
  refine j_gr (e := (c + 2)) hJ (kP_0 hc) fC_8_2 fl_X5_15 dX5_addThing_33 rfl ?_
  refine j_iload hJ dX5_addThing_36 0 rfl ?_
  refine j_iload_n hJ dX5_addThing_38 rfl 3 rfl ?_
  refine j_iast hJ gv1 gp2 (kP_2 hc) hF.1 hF.2.1 dX5_addThing_39 (fun M7 eM7 => ?_)
  have hF := hF.2.2 M7 eM7
  refine j_aload_n hJ dX5_addThing_40 rfl 1 rfl ?_
  refine j_gr (e := (c + 3)) hJ (kP_0 hc) fC_8_3 fl_X5_18 dX5_addThing_41 rfl ?_
  refine j_iload hJ dX5_addThing_44 0 rfl ?_
  refine j_iload_n hJ dX5_addThing_46 rfl 4 rfl ?_
  refine j_iast hJ gv1 gp3 (kP_3 hc) hF.1 hF.2.1 dX5_addThing_47 (fun M8 eM8 => ?_)
  have hF := hF.2.2 M8 eM8
  refine j_aload_n hJ dX5_addThing_48 rfl 1 rfl ?_
  refine j_gr (e := (c + 4)) hJ (kP_0 hc) fC_8_4 fl_X5_21 dX5_addThing_49 rfl ?_
  refine j_iload hJ dX5_addThing_52 0 rfl ?_
  refine j_iconst hJ dX5_addThing_54 ?_
  refine j_iadd hJ dX5_addThing_55 ?_
  have g9 := hF.1; have hF := hF.2
  refine j_aload_n hJ dX5_addThing_56 rfl 1 rfl ?_
  refine j_gr (e := (c + 4)) hJ (kP_0 hc) fC_8_4 fl_X5_21 dX5_addThing_57 rfl ?_
  refine j_iload hJ dX5_addThing_60 0 rfl ?_
  refine j_iald hJ gv1 (kP_4 hc) hF.1 hF.2.1 dX5_addThing_62 (fun v10 ev10 gv10 => ?_)
  have hF := hF.2.2 v10 ev10 gv10
  refine j_iload hJ dX5_addThing_63 5 rfl ?_
  refine j_iadd hJ dX5_addThing_65 ?_
  have g11 := hF.1; have hF := hF.2
  refine j_iast hJ g9 g11 (kP_4 hc) hF.1 hF.2.1 dX5_addThing_66 (fun M12 eM12 => ?_)
  have hF := hF.2.2 M12 eM12
  refine j_iload hJ dX5_addThing_67 0 rfl ?_
  exact j_iret hJ rfl gv1 dX5_addThing_69 hF
def W_X10_isClass (ad : Nat → Nat) (Q : Int → MM → Prop) (av : List Value) (M : MM) : Prop := ∃ (p1 : Int), av = [.ref (ad 8), .int (Ii p1)] ∧ ri_ p1 ∧ w_X10_isClass  Q p1 M
set_option maxHeartbeats 4000000 in
set_option maxRecDepth 100000 in
theorem c_X10_isClass {l : Launch} {D : va_G} {cy : Nat → ClassId} {ad : Nat → Nat} (hin : jIn ad ksC.length) : jCN l D vwCl (tyC cy) cy ad ftC ksC (XtC ad) yX10_isClass (.code yX10_isClass cX10_isClass 2 (some .boolean) :: Om) ({ frames := 0, cells := 0, slots := 0, locals := 0 } : Room) 3 (W_X10_isClass ad) := by
  refine jCN_of (y := yX10_isClass) (cc := cX10_isClass) (nL := 2) (rk := 3) (rm := ({ frames := 0, cells := 0, slots := 0, locals := 0 } : Room)) (own := RX10) (tyC_ok cy) hin (XtC_ok ad) Om_good (by decide) rfl ?_
  intro Q av M hF
  obtain ⟨p1, rfl, gp1, hF⟩ := hF
  refine ⟨Nat.le_of_ble_eq_true rfl, fun J hJ => ?_⟩
  show J 0 [(0, .ref (ad 8)), (1, .int (Ii p1))] [] M
  unfold w_X10_isClass at hF
  refine j_iload_n hJ dX10_isClass_0 rfl 1 rfl ?_
  refine j_if_lt hJ 16 gp1 dX10_isClass_1 (by decide) (fun z1 => ?_) (fun z1 => ?_)
  · have hF := hF.1 z1
    refine j_iconst hJ dX10_isClass_16 ?_
    exact j_zret hJ rfl (by decide) dX10_isClass_17 hF
  · have hF := hF.2 z1
    refine j_iload_n hJ dX10_isClass_4 rfl 1 rfl ?_
    refine j_aload_n hJ dX10_isClass_5 rfl 0 rfl ?_
    refine j_gi hJ kC_8 fC_13_0 rfl fl_X10_65 dX10_isClass_6 (fun v2 ev2 gv2 => ?_)
    have hF := hF v2 ev2 gv2
    refine j_icmp_ge hJ 16 gp1 gv2 dX10_isClass_9 (by decide) (fun z3 => ?_) (fun z3 => ?_)
    · have hF := hF.1 z3
      refine j_iconst hJ dX10_isClass_16 ?_
      exact j_zret hJ rfl (by decide) dX10_isClass_17 hF
    · have hF := hF.2 z3
      refine j_iconst hJ dX10_isClass_12 ?_
      refine j_goto hJ 17 dX10_isClass_13 (by decide) ?_
      exact j_zret hJ rfl (by decide) dX10_isClass_17 hF
def W_X10_isType (ad : Nat → Nat) (Q : Int → MM → Prop) (av : List Value) (M : MM) : Prop := ∃ (p1 : Int), av = [.ref (ad 8), .int (Ii p1)] ∧ ri_ p1 ∧ w_X10_isType  Q p1 M
set_option maxHeartbeats 4000000 in
set_option maxRecDepth 100000 in
theorem k_X10_isType_b20 {l : Launch} {D : va_G} {cy : Nat → ClassId} {ad : Nat → Nat} {Q : Int → MM → Prop} {J : Nat → List (Nat × Value) → List Value → MM → Prop} (hin : jIn ad ksC.length)   (hJ : jOk l D vwCl (tyC cy) cy ad ftC ksC (XtC ad) Om RX10 cX10_isType 2 3 ({ frames := 1, cells := 0, slots := 0, locals := 21 } : Room) Q J)  : ∀ (x1 : Int) (M : MM), ri_ x1 → w_X10_isType_b20  Q  x1 M → J 20 [(0, .ref (ad 8)), (1, .int (Ii x1))] [] M := by
  intro x1 M gx1 hF
  unfold w_X10_isType_b20 at hF
  refine j_iload_n hJ dX10_isType_20 rfl 1 rfl ?_
  refine j_bipush hJ dX10_isType_21 (by decide) ?_
  refine j_icmp_eq hJ 43 gx1 rk_29 dX10_isType_23 (by decide) (fun z1 => ?_) (fun z1 => ?_)
  · have hF := hF.1 z1
    refine j_iconst hJ dX10_isType_43 ?_
    refine j_goto hJ 48 dX10_isType_44 (by decide) ?_
    exact j_zret hJ rfl (by decide) dX10_isType_48 hF
  · have hF := hF.2 z1
    refine j_iload_n hJ dX10_isType_26 rfl 1 rfl ?_
    refine j_bipush hJ dX10_isType_27 (by decide) ?_
    refine j_icmp_lt hJ 47 gx1 rk_30 dX10_isType_29 (by decide) (fun z2 => ?_) (fun z2 => ?_)
    · have hF := hF.1 z2
      refine j_iconst hJ dX10_isType_47 ?_
      exact j_zret hJ rfl (by decide) dX10_isType_48 hF
    · have hF := hF.2 z2
      refine j_aload_n hJ dX10_isType_32 rfl 0 rfl ?_
      refine j_iload_n hJ dX10_isType_33 rfl 1 rfl ?_
      refine j_bipush hJ dX10_isType_34 (by decide) ?_
      refine j_isub hJ dX10_isType_36 ?_
      have g3 := hF.1; have hF := hF.2
      refine j_callVz hJ (c_X10_isClass (l := l) (D := D) (cy := cy) (ad := ad) hin) rfl om_52 ⟨rfl, rfl, Nat.le_of_ble_eq_true rfl, Nat.le_of_ble_eq_true rfl⟩ [.int (Ii (x1 - 30))] mv_X10_69 hd_X10_isClassv kC_8 rfl rfl rfl (Nat.le_of_ble_eq_true rfl) dX10_isType_37 ⟨(x1 - 30), rfl, g3, hF⟩ (fun r4 M5 gr4 qM5 => ?_)
      have hF := qM5 gr4
      refine j_if_eq hJ 47 (jz_ri gr4) dX10_isType_40 (by decide) (fun z6 => ?_) (fun z6 => ?_)
      · have hF := hF.1 z6
        refine j_iconst hJ dX10_isType_47 ?_
        exact j_zret hJ rfl (by decide) dX10_isType_48 hF
      · have hF := hF.2 z6
        refine j_iconst hJ dX10_isType_43 ?_
        refine j_goto hJ 48 dX10_isType_44 (by decide) ?_
        exact j_zret hJ rfl (by decide) dX10_isType_48 hF
set_option maxHeartbeats 4000000 in
set_option maxRecDepth 100000 in
theorem c_X10_isType {l : Launch} {D : va_G} {cy : Nat → ClassId} {ad : Nat → Nat} (hin : jIn ad ksC.length) : jCN l D vwCl (tyC cy) cy ad ftC ksC (XtC ad) yX10_isType (.code yX10_isType cX10_isType 2 (some .boolean) :: Om) ({ frames := 1, cells := 0, slots := 0, locals := 21 } : Room) 3 (W_X10_isType ad) := by
  refine jCN_of (y := yX10_isType) (cc := cX10_isType) (nL := 2) (rk := 3) (rm := ({ frames := 1, cells := 0, slots := 0, locals := 21 } : Room)) (own := RX10) (tyC_ok cy) hin (XtC_ok ad) Om_good (by decide) rfl ?_
  intro Q av M hF
  obtain ⟨p1, rfl, gp1, hF⟩ := hF
  refine ⟨Nat.le_of_ble_eq_true rfl, fun J hJ => ?_⟩
  show J 0 [(0, .ref (ad 8)), (1, .int (Ii p1))] [] M
  unfold w_X10_isType at hF
  refine j_aload_n hJ dX10_isType_0 rfl 0 rfl ?_
  refine j_iload_n hJ dX10_isType_1 rfl 1 rfl ?_
  refine j_callVz hJ (c_X10_isClass (l := l) (D := D) (cy := cy) (ad := ad) hin) rfl om_52 ⟨rfl, rfl, Nat.le_of_ble_eq_true rfl, Nat.le_of_ble_eq_true rfl⟩ [.int (Ii p1)] mv_X10_69 hd_X10_isClassv kC_8 rfl rfl rfl (Nat.le_of_ble_eq_true rfl) dX10_isType_2 ⟨p1, rfl, gp1, hF⟩ (fun r1 M2 gr1 qM2 => ?_)
  have hF := qM2 gr1
  refine j_if_ne hJ 43 (jz_ri gr1) dX10_isType_5 (by decide) (fun z3 => ?_) (fun z3 => ?_)
  · have hF := hF.1 z3
    refine j_iconst hJ dX10_isType_43 ?_
    refine j_goto hJ 48 dX10_isType_44 (by decide) ?_
    exact j_zret hJ rfl (by decide) dX10_isType_48 hF
  · have hF := hF.2 z3
    refine j_iload_n hJ dX10_isType_8 rfl 1 rfl ?_
    refine j_bipush hJ dX10_isType_9 (by decide) ?_
    refine j_icmp_lt hJ 20 gp1 rk_20 dX10_isType_11 (by decide) (fun z4 => ?_) (fun z4 => ?_)
    · have hF := hF.1 z4
      exact j_sub hJ [0, 1] rfl (k_X10_isType_b20 hin  hJ  p1 _ gp1 hF)
    · have hF := hF.2 z4
      refine j_iload_n hJ dX10_isType_14 rfl 1 rfl ?_
      refine j_bipush hJ dX10_isType_15 (by decide) ?_
      refine j_icmp_le hJ 43 gp1 rk_24 dX10_isType_17 (by decide) (fun z5 => ?_) (fun z5 => ?_)
      · have hF := hF.1 z5
        refine j_iconst hJ dX10_isType_43 ?_
        refine j_goto hJ 48 dX10_isType_44 (by decide) ?_
        exact j_zret hJ rfl (by decide) dX10_isType_48 hF
      · have hF := hF.2 z5
        exact j_sub hJ [0, 1] rfl (k_X10_isType_b20 hin  hJ  p1 _ gp1 hF)
def W_X0_readThing (ad : Nat → Nat) (Q : Int → MM → Prop) (av : List Value) (M : MM) : Prop := ∃ (p1 : Nat) (p2 : Int), av = [.ref (ad 280), .ref (ad p1), .int (Ii p2)] ∧ isP p1 ∧ ri_ p2 ∧ w_X0_readThing p1 Q p2 M
set_option maxHeartbeats 4000000 in
set_option maxRecDepth 100000 in
theorem k_X0_readThing_b116 {l : Launch} {D : va_G} {cy : Nat → ClassId} {ad : Nat → Nat} {Q : Int → MM → Prop} {J : Nat → List (Nat × Value) → List Value → MM → Prop} (hin : jIn ad ksC.length) {p1 : Nat} (hp1 : isP p1) (hJ : jOk l D vwCl (tyC cy) cy ad ftC ksC (XtC ad) Om RX0 cX0_readThing 7 3 ({ frames := 3, cells := 0, slots := 0, locals := 69 } : Room) Q J)  : ∀ (x2 x3 x4 s0 : Int) (M : MM), ri_ x2 → ri_ x3 → ri_ x4 → ri_ s0 → w_X0_readThing_b116 p1 Q  x2 x3 x4 s0 M → J 116 [(0, .ref (ad 280)), (1, .ref (ad p1)), (2, .int (Ii x2)), (3, .int (Ii x3)), (4, .int (Ii x4))] [.int (Ii s0)] M := by
  intro x2 x3 x4 s0 M gx2 gx3 gx4 gs0 hF
  unfold w_X0_readThing_b116 at hF
  refine j_istore (lv' := [(5, .int (Ii s0)), (0, .ref (ad 280)), (1, .ref (ad p1)), (2, .int (Ii x2)), (3, .int (Ii x3)), (4, .int (Ii x4))]) hJ dX0_readThing_116 (by decide) rfl ?_
  refine j_iload hJ dX0_readThing_118 0 rfl ?_
  refine j_iconst hJ dX0_readThing_120 ?_
  refine j_icmp_ne hJ 126 gs0 rk_m1 dX0_readThing_121 (by decide) (fun z1 => ?_) (fun z1 => ?_)
  · have hF := hF.1 z1
    refine j_aload_n hJ dX0_readThing_126 rfl 1 rfl ?_
    refine j_ga hJ kC_280 fC_3_0 fl_X0_11 dX0_readThing_127 ?_
    refine j_iload hJ dX0_readThing_130 5 rfl ?_
    refine j_iload hJ dX0_readThing_132 0 rfl ?_
    refine j_callVi hJ (c_X10_slotsOf (l := l) (D := D) (cy := cy) (ad := ad) hin) rfl om_44 ⟨rfl, rfl, Nat.le_of_ble_eq_true rfl, Nat.le_of_ble_eq_true rfl⟩ [.int (Ii x4), .int (Ii s0)] mv_X0_167 hd_X10_slotsOfv kC_8 rfl rfl rfl (Nat.le_of_ble_eq_true rfl) dX0_readThing_134 ⟨x4, s0, rfl, gx4, gs0, hF⟩ (fun r2 M3 gr2 qM3 => ?_)
    have hF := qM3 gr2
    refine j_istore (lv' := [(6, .int (Ii r2)), (5, .int (Ii s0)), (0, .ref (ad 280)), (1, .ref (ad p1)), (2, .int (Ii x2)), (3, .int (Ii x3)), (4, .int (Ii x4))]) hJ dX0_readThing_137 (by decide) rfl ?_
    refine j_aload_n hJ dX0_readThing_139 rfl 3 rfl ?_
    refine j_gr (e := (p1 + 4)) hJ (kP_0 hp1) fC_8_4 fl_X0_59 dX0_readThing_140 rfl ?_
    refine j_iload_n hJ dX0_readThing_143 rfl 4 rfl ?_
    refine j_iald hJ gx2 (kP_4 hp1) hF.1 hF.2.1 dX0_readThing_144 (fun v4 ev4 gv4 => ?_)
    have hF := hF.2.2 v4 ev4 gv4
    refine j_iload hJ dX0_readThing_145 0 rfl ?_
    refine j_iadd hJ dX0_readThing_147 ?_
    have g5 := hF.1; have hF := hF.2
    refine j_sipush hJ dX0_readThing_148 (by decide) ?_
    refine j_icmp_le hJ 164 g5 rk_4000 dX0_readThing_151 (by decide) (fun z6 => ?_) (fun z6 => ?_)
    · have hF := hF.1 z6
      refine j_aload_n hJ dX0_readThing_164 rfl 3 rfl ?_
      refine j_iload_n hJ dX0_readThing_165 rfl 5 rfl ?_
      refine j_iload hJ dX0_readThing_166 6 rfl ?_
      refine j_iload hJ dX0_readThing_168 1 rfl ?_
      refine j_iload hJ dX0_readThing_170 0 rfl ?_
      refine j_callVi hJ (c_X5_addThing (l := l) (D := D) (cy := cy) (ad := ad) hin) rfl om_48 ⟨rfl, rfl, Nat.le_of_ble_eq_true rfl, Nat.le_of_ble_eq_true rfl⟩ [.int (Ii x3), .int (Ii x4), .int (Ii s0), .int (Ii r2)] mv_X0_170 hd_X5_addThingv (kP_0 hp1) rfl rfl rfl (Nat.le_of_ble_eq_true rfl) dX0_readThing_172 ⟨p1, x3, x4, s0, r2, rfl, hp1, gx3, gx4, gs0, gr2, hF⟩ (fun r7 M8 gr7 qM8 => ?_)
      have hF := qM8 gr7
      refine j_pop hJ dX0_readThing_175 rfl ?_
      refine j_iconst hJ dX0_readThing_176 ?_
      exact j_zret hJ rfl (by decide) dX0_readThing_177 hF
    · have hF := hF.2 z6
      refine j_aload_n hJ dX0_readThing_154 rfl 2 rfl ?_
      refine j_iconst hJ dX0_readThing_155 ?_
      refine j_aload_n hJ dX0_readThing_156 rfl 2 rfl ?_
      refine j_gi hJ kC_280 fC_3_10 rfl fl_X0_134 dX0_readThing_157 (fun v9 ev9 gv9 => ?_)
      have hF := hF v9 ev9 gv9
      refine j_callVz hJ (c_X0_fail (l := l) (D := D) (cy := cy) (ad := ad) hin) rfl om_23 ⟨rfl, rfl, Nat.le_of_ble_eq_true rfl, Nat.le_of_ble_eq_true rfl⟩ [.int (Ii 4), .int (Ii v9)] mv_X0_130 hd_X0_failv kC_280 rfl rfl rfl (Nat.le_of_ble_eq_true rfl) dX0_readThing_160 ⟨4, v9, rfl, rk_4, gv9, hF⟩ (fun r10 M11 gr10 qM11 => ?_)
      have hF := qM11 gr10
      exact j_zret hJ rfl gr10 dX0_readThing_163 hF
  · have hF := hF.2 z1
    refine j_iconst hJ dX0_readThing_124 ?_
    exact j_zret hJ rfl (by decide) dX0_readThing_125 hF
set_option maxHeartbeats 4000000 in
set_option maxRecDepth 100000 in
theorem k_X0_readThing_b113 {l : Launch} {D : va_G} {cy : Nat → ClassId} {ad : Nat → Nat} {Q : Int → MM → Prop} {J : Nat → List (Nat × Value) → List Value → MM → Prop} (hin : jIn ad ksC.length) {p1 : Nat} (hp1 : isP p1) (hJ : jOk l D vwCl (tyC cy) cy ad ftC ksC (XtC ad) Om RX0 cX0_readThing 7 3 ({ frames := 3, cells := 0, slots := 0, locals := 69 } : Room) Q J)  : ∀ (x2 x3 x4 s0 : Int) (M : MM), ri_ x2 → ri_ x3 → ri_ x4 → ri_ s0 → w_X0_readThing_b113 p1 Q  x2 x3 x4 s0 M → J 113 [(0, .ref (ad 280)), (1, .ref (ad p1)), (2, .int (Ii x2)), (3, .int (Ii x3)), (4, .int (Ii x4))] [.int (Ii s0), .ref (ad 280)] M := by
  intro x2 x3 x4 s0 M gx2 gx3 gx4 gs0 hF
  unfold w_X0_readThing_b113 at hF
  refine j_callVi hJ (c_X0_readUpTo (l := l) (D := D) (cy := cy) (ad := ad) hin) rfl om_35 ⟨rfl, rfl, Nat.le_of_ble_eq_true rfl, Nat.le_of_ble_eq_true rfl⟩ [.int (Ii s0)] mv_X0_141 hd_X0_readUpTov kC_280 rfl rfl rfl (Nat.le_of_ble_eq_true rfl) dX0_readThing_113 ⟨s0, rfl, gs0, hF⟩ (fun r1 M2 gr1 qM2 => ?_)
  have hF := qM2 gr1
  exact j_sub hJ [0, 1, 2, 3, 4] rfl (k_X0_readThing_b116 hin hp1 hJ  x2 x3 x4 r1 _ gx2 gx3 gx4 gr1 hF)
set_option maxHeartbeats 4000000 in
set_option maxRecDepth 100000 in
theorem k_X0_readThing_b88 {l : Launch} {D : va_G} {cy : Nat → ClassId} {ad : Nat → Nat} {Q : Int → MM → Prop} {J : Nat → List (Nat × Value) → List Value → MM → Prop} (hin : jIn ad ksC.length) {p1 : Nat} (hp1 : isP p1) (hJ : jOk l D vwCl (tyC cy) cy ad ftC ksC (XtC ad) Om RX0 cX0_readThing 7 3 ({ frames := 3, cells := 0, slots := 0, locals := 69 } : Room) Q J)  : ∀ (x2 x3 x4 : Int) (M : MM), ri_ x2 → ri_ x3 → ri_ x4 → w_X0_readThing_b88 p1 Q  x2 x3 x4 M → J 88 [(0, .ref (ad 280)), (1, .ref (ad p1)), (2, .int (Ii x2)), (3, .int (Ii x3)), (4, .int (Ii x4))] [] M := by
  intro x2 x3 x4 M gx2 gx3 gx4 hF
  unfold w_X0_readThing_b88 at hF
  refine j_iload hJ dX0_readThing_88 4 rfl ?_
  refine j_iconst hJ dX0_readThing_90 ?_
  refine j_icmp_ne hJ 98 gx4 rk_m1 dX0_readThing_91 (by decide) (fun z1 => ?_) (fun z1 => ?_)
  · have hF := hF.1 z1
    refine j_aload_n hJ dX0_readThing_98 rfl 0 rfl ?_
    refine j_iload hJ dX0_readThing_99 4 rfl ?_
    refine j_callSz hJ (c_X10_isArray (l := l) (D := D) (cy := cy) (ad := ad) hin) rfl om_39 ⟨rfl, rfl, Nat.le_of_ble_eq_true rfl, Nat.le_of_ble_eq_true rfl⟩ [.int (Ii x4)] mv_X0_164 hd_X10_isArray rfl (Nat.le_of_ble_eq_true rfl) dX0_readThing_101 ⟨x4, rfl, gx4, hF⟩ (fun r2 M3 gr2 qM3 => ?_)
    have hF := qM3 gr2
    refine j_if_eq hJ 112 (jz_ri gr2) dX0_readThing_104 (by decide) (fun z4 => ?_) (fun z4 => ?_)
    · have hF := hF.1 z4
      refine j_iconst hJ dX0_readThing_112 ?_
      exact j_sub hJ [0, 1, 2, 3, 4] rfl (k_X0_readThing_b113 hin hp1 hJ  x2 x3 x4 0 _ gx2 gx3 gx4 rk_0 hF)
    · have hF := hF.2 z4
      refine j_bipush hJ dX0_readThing_107 (by decide) ?_
      refine j_goto hJ 113 dX0_readThing_109 (by decide) ?_
      exact j_sub hJ [0, 1, 2, 3, 4] rfl (k_X0_readThing_b113 hin hp1 hJ  x2 x3 x4 60 _ gx2 gx3 gx4 rk_60 hF)
  · have hF := hF.2 z1
    refine j_iconst hJ dX0_readThing_94 ?_
    refine j_goto hJ 116 dX0_readThing_95 (by decide) ?_
    exact j_sub hJ [0, 1, 2, 3, 4] rfl (k_X0_readThing_b116 hin hp1 hJ  x2 x3 x4 (-1) _ gx2 gx3 gx4 rk_m1 hF)
set_option maxHeartbeats 4000000 in
set_option maxRecDepth 100000 in
theorem k_X0_readThing_b58 {l : Launch} {D : va_G} {cy : Nat → ClassId} {ad : Nat → Nat} {Q : Int → MM → Prop} {J : Nat → List (Nat × Value) → List Value → MM → Prop} (hin : jIn ad ksC.length) {p1 : Nat} (hp1 : isP p1) (hJ : jOk l D vwCl (tyC cy) cy ad ftC ksC (XtC ad) Om RX0 cX0_readThing 7 3 ({ frames := 3, cells := 0, slots := 0, locals := 69 } : Room) Q J)  : ∀ (x2 x3 s0 : Int) (M : MM), ri_ x2 → ri_ x3 → ri_ s0 → w_X0_readThing_b58 p1 Q  x2 x3 s0 M → J 58 [(0, .ref (ad 280)), (1, .ref (ad p1)), (2, .int (Ii x2)), (3, .int (Ii x3))] [.int (Ii s0)] M := by
  intro x2 x3 s0 M gx2 gx3 gs0 hF
  unfold w_X0_readThing_b58 at hF
  refine j_istore (lv' := [(4, .int (Ii s0)), (0, .ref (ad 280)), (1, .ref (ad p1)), (2, .int (Ii x2)), (3, .int (Ii x3))]) hJ dX0_readThing_58 (by decide) rfl ?_
  refine j_iload hJ dX0_readThing_60 0 rfl ?_
  refine j_iconst hJ dX0_readThing_62 ?_
  refine j_icmp_eq hJ 88 gs0 rk_m1 dX0_readThing_63 (by decide) (fun z1 => ?_) (fun z1 => ?_)
  · have hF := hF.1 z1
    exact j_sub hJ [1, 2, 3, 4, 0] rfl (k_X0_readThing_b88 hin hp1 hJ  x2 x3 s0 _ gx2 gx3 gs0 hF)
  · have hF := hF.2 z1
    refine j_aload_n hJ dX0_readThing_66 rfl 1 rfl ?_
    refine j_ga hJ kC_280 fC_3_0 fl_X0_11 dX0_readThing_67 ?_
    refine j_iload hJ dX0_readThing_70 0 rfl ?_
    refine j_callVz hJ (c_X10_isType (l := l) (D := D) (cy := cy) (ad := ad) hin) rfl om_56 ⟨rfl, rfl, Nat.le_of_ble_eq_true rfl, Nat.le_of_ble_eq_true rfl⟩ [.int (Ii s0)] mv_X0_160 hd_X10_isTypev kC_8 rfl rfl rfl (Nat.le_of_ble_eq_true rfl) dX0_readThing_72 ⟨s0, rfl, gs0, hF⟩ (fun r2 M3 gr2 qM3 => ?_)
    have hF := qM3 gr2
    refine j_if_ne hJ 88 (jz_ri gr2) dX0_readThing_75 (by decide) (fun z4 => ?_) (fun z4 => ?_)
    · have hF := hF.1 z4
      exact j_sub hJ [1, 2, 3, 4, 0] rfl (k_X0_readThing_b88 hin hp1 hJ  x2 x3 s0 _ gx2 gx3 gs0 hF)
    · have hF := hF.2 z4
      refine j_aload_n hJ dX0_readThing_78 rfl 1 rfl ?_
      refine j_iconst hJ dX0_readThing_79 ?_
      refine j_aload_n hJ dX0_readThing_80 rfl 1 rfl ?_
      refine j_gi hJ kC_280 fC_3_10 rfl fl_X0_134 dX0_readThing_81 (fun v5 ev5 gv5 => ?_)
      have hF := hF v5 ev5 gv5
      refine j_callVz hJ (c_X0_fail (l := l) (D := D) (cy := cy) (ad := ad) hin) rfl om_23 ⟨rfl, rfl, Nat.le_of_ble_eq_true rfl, Nat.le_of_ble_eq_true rfl⟩ [.int (Ii 4), .int (Ii v5)] mv_X0_130 hd_X0_failv kC_280 rfl rfl rfl (Nat.le_of_ble_eq_true rfl) dX0_readThing_84 ⟨4, v5, rfl, rk_4, gv5, hF⟩ (fun r6 M7 gr6 qM7 => ?_)
      have hF := qM7 gr6
      exact j_zret hJ rfl gr6 dX0_readThing_87 hF
set_option maxHeartbeats 4000000 in
set_option maxRecDepth 100000 in
theorem k_X0_readThing_b43 {l : Launch} {D : va_G} {cy : Nat → ClassId} {ad : Nat → Nat} {Q : Int → MM → Prop} {J : Nat → List (Nat × Value) → List Value → MM → Prop} (hin : jIn ad ksC.length) {p1 : Nat} (hp1 : isP p1) (hJ : jOk l D vwCl (tyC cy) cy ad ftC ksC (XtC ad) Om RX0 cX0_readThing 7 3 ({ frames := 3, cells := 0, slots := 0, locals := 69 } : Room) Q J)  : ∀ (x2 x3 : Int) (M : MM), ri_ x2 → ri_ x3 → w_X0_readThing_b43 p1 Q  x2 x3 M → J 43 [(0, .ref (ad 280)), (1, .ref (ad p1)), (2, .int (Ii x2)), (3, .int (Ii x3))] [] M := by
  intro x2 x3 M gx2 gx3 hF
  unfold w_X0_readThing_b43 at hF
  refine j_iload_n hJ dX0_readThing_43 rfl 3 rfl ?_
  refine j_iconst hJ dX0_readThing_44 ?_
  refine j_icmp_ne hJ 52 gx3 rk_m1 dX0_readThing_45 (by decide) (fun z1 => ?_) (fun z1 => ?_)
  · have hF := hF.1 z1
    refine j_aload_n hJ dX0_readThing_52 rfl 0 rfl ?_
    refine j_bipush hJ dX0_readThing_53 (by decide) ?_
    refine j_callVi hJ (c_X0_readUpTo (l := l) (D := D) (cy := cy) (ad := ad) hin) rfl om_35 ⟨rfl, rfl, Nat.le_of_ble_eq_true rfl, Nat.le_of_ble_eq_true rfl⟩ [.int (Ii 45)] mv_X0_141 hd_X0_readUpTov kC_280 rfl rfl rfl (Nat.le_of_ble_eq_true rfl) dX0_readThing_55 ⟨45, rfl, rk_45, hF⟩ (fun r2 M3 gr2 qM3 => ?_)
    have hF := qM3 gr2
    exact j_sub hJ [0, 1, 2, 3] rfl (k_X0_readThing_b58 hin hp1 hJ  x2 x3 r2 _ gx2 gx3 gr2 hF)
  · have hF := hF.2 z1
    refine j_iconst hJ dX0_readThing_48 ?_
    refine j_goto hJ 58 dX0_readThing_49 (by decide) ?_
    exact j_sub hJ [0, 1, 2, 3] rfl (k_X0_readThing_b58 hin hp1 hJ  x2 x3 (-1) _ gx2 gx3 rk_m1 hF)
set_option maxHeartbeats 4000000 in
set_option maxRecDepth 100000 in
theorem c_X0_readThing {l : Launch} {D : va_G} {cy : Nat → ClassId} {ad : Nat → Nat} (hin : jIn ad ksC.length) : jCN l D vwCl (tyC cy) cy ad ftC ksC (XtC ad) yX0_readThing (.code yX0_readThing cX0_readThing 7 (some .boolean) :: Om) ({ frames := 3, cells := 0, slots := 0, locals := 69 } : Room) 3 (W_X0_readThing ad) := by
  refine jCN_of (y := yX0_readThing) (cc := cX0_readThing) (nL := 7) (rk := 3) (rm := ({ frames := 3, cells := 0, slots := 0, locals := 69 } : Room)) (own := RX0) (tyC_ok cy) hin (XtC_ok ad) Om_good (by decide) rfl ?_
  intro Q av M hF
  obtain ⟨p1, p2, rfl, hp1, gp2, hF⟩ := hF
  refine ⟨Nat.le_of_ble_eq_true rfl, fun J hJ => ?_⟩
  show J 0 [(0, .ref (ad 280)), (1, .ref (ad p1)), (2, .int (Ii p2))] [] M
  unfold w_X0_readThing at hF
  refine j_aload_n hJ dX0_readThing_0 rfl 0 rfl ?_
  refine j_sipush hJ dX0_readThing_1 (by decide) ?_
  refine j_callVi hJ (c_X0_readUpTo (l := l) (D := D) (cy := cy) (ad := ad) hin) rfl om_35 ⟨rfl, rfl, Nat.le_of_ble_eq_true rfl, Nat.le_of_ble_eq_true rfl⟩ [.int (Ii 399)] mv_X0_141 hd_X0_readUpTov kC_280 rfl rfl rfl (Nat.le_of_ble_eq_true rfl) dX0_readThing_4 ⟨399, rfl, rk_399, hF⟩ (fun r1 M2 gr1 qM2 => ?_)
  have hF := qM2 gr1
  refine j_istore_n (lv' := [(3, .int (Ii r1)), (0, .ref (ad 280)), (1, .ref (ad p1)), (2, .int (Ii p2))]) hJ dX0_readThing_7 rfl (by decide) rfl ?_
  refine j_aload_n hJ dX0_readThing_8 rfl 1 rfl ?_
  refine j_gr (e := 283) hJ kC_280 fC_3_11 fl_X0_29 dX0_readThing_9 rfl ?_
  refine j_iload_n hJ dX0_readThing_12 rfl 3 rfl ?_
  refine j_aload_n hJ dX0_readThing_13 rfl 1 rfl ?_
  refine j_gi hJ kC_280 fC_3_10 rfl fl_X0_134 dX0_readThing_14 (fun v3 ev3 gv3 => ?_)
  have hF := hF v3 ev3 gv3
  refine j_iast hJ gp2 gv3 kC_283 hF.1 hF.2.1 dX0_readThing_17 (fun M4 eM4 => ?_)
  have hF := hF.2.2 M4 eM4
  refine j_iload_n hJ dX0_readThing_18 rfl 0 rfl ?_
  refine j_iconst hJ dX0_readThing_19 ?_
  refine j_icmp_eq hJ 43 gr1 rk_m1 dX0_readThing_20 (by decide) (fun z5 => ?_) (fun z5 => ?_)
  · have hF := hF.1 z5
    exact j_sub hJ [1, 2, 3, 0] rfl (k_X0_readThing_b43 hin hp1 hJ  p2 r1 _ gp2 gr1 hF)
  · have hF := hF.2 z5
    refine j_aload_n hJ dX0_readThing_23 rfl 2 rfl ?_
    refine j_gr (e := (p1 + 8)) hJ (kP_0 hp1) fC_8_8 fl_X0_155 dX0_readThing_24 rfl ?_
    refine j_iload_n hJ dX0_readThing_27 rfl 0 rfl ?_
    refine j_iald hJ gr1 (kP_8 hp1) hF.1 hF.2.1 dX0_readThing_28 (fun v6 ev6 gv6 => ?_)
    have hF := hF.2.2 v6 ev6 gv6
    refine j_iconst hJ dX0_readThing_29 ?_
    refine j_icmp_eq hJ 43 gv6 rk_m1 dX0_readThing_30 (by decide) (fun z7 => ?_) (fun z7 => ?_)
    · have hF := hF.1 z7
      exact j_sub hJ [1, 2, 3, 0] rfl (k_X0_readThing_b43 hin hp1 hJ  p2 r1 _ gp2 gr1 hF)
    · have hF := hF.2 z7
      refine j_aload_n hJ dX0_readThing_33 rfl 1 rfl ?_
      refine j_iconst hJ dX0_readThing_34 ?_
      refine j_aload_n hJ dX0_readThing_35 rfl 1 rfl ?_
      refine j_gi hJ kC_280 fC_3_10 rfl fl_X0_134 dX0_readThing_36 (fun v8 ev8 gv8 => ?_)
      have hF := hF v8 ev8 gv8
      refine j_callVz hJ (c_X0_fail (l := l) (D := D) (cy := cy) (ad := ad) hin) rfl om_23 ⟨rfl, rfl, Nat.le_of_ble_eq_true rfl, Nat.le_of_ble_eq_true rfl⟩ [.int (Ii 4), .int (Ii v8)] mv_X0_130 hd_X0_failv kC_280 rfl rfl rfl (Nat.le_of_ble_eq_true rfl) dX0_readThing_39 ⟨4, v8, rfl, rk_4, gv8, hF⟩ (fun r9 M10 gr9 qM10 => ?_)
      have hF := qM10 gr9
      exact j_zret hJ rfl gr9 dX0_readThing_42 hF
def W_X10_kindAt (ad : Nat → Nat) (Q : Int → MM → Prop) (av : List Value) (M : MM) : Prop := ∃ (p1 : Int) (p2 : Int), av = [.ref (ad 8), .int (Ii p1), .int (Ii p2)] ∧ ri_ p1 ∧ ri_ p2 ∧ w_X10_kindAt  Q p1 p2 M
set_option maxHeartbeats 4000000 in
set_option maxRecDepth 100000 in
theorem c_X10_kindAt {l : Launch} {D : va_G} {cy : Nat → ClassId} {ad : Nat → Nat} (hin : jIn ad ksC.length) : jCN l D vwCl (tyC cy) cy ad ftC ksC (XtC ad) yX10_kindAt (.code yX10_kindAt cX10_kindAt 3 (some .int) :: Om) ({ frames := 0, cells := 0, slots := 0, locals := 0 } : Room) 1 (W_X10_kindAt ad) := by
  refine jCN_of (y := yX10_kindAt) (cc := cX10_kindAt) (nL := 3) (rk := 1) (rm := ({ frames := 0, cells := 0, slots := 0, locals := 0 } : Room)) (own := RX10) (tyC_ok cy) hin (XtC_ok ad) Om_good (by decide) rfl ?_
  intro Q av M hF
  obtain ⟨p1, p2, rfl, gp1, gp2, hF⟩ := hF
  refine ⟨Nat.le_of_ble_eq_true rfl, fun J hJ => ?_⟩
  show J 0 [(0, .ref (ad 8)), (1, .int (Ii p1)), (2, .int (Ii p2))] [] M
  unfold w_X10_kindAt at hF
  refine j_iload_n hJ dX10_kindAt_0 rfl 1 rfl ?_
  refine j_bipush hJ dX10_kindAt_1 (by decide) ?_
  refine j_icmp_lt hJ 8 gp1 rk_29 dX10_kindAt_3 (by decide) (fun z1 => ?_) (fun z1 => ?_)
  · have hF := hF.1 z1
    refine j_iload_n hJ dX10_kindAt_8 rfl 1 rfl ?_
    refine j_bipush hJ dX10_kindAt_9 (by decide) ?_
    refine j_icmp_lt hJ 21 gp1 rk_20 dX10_kindAt_11 (by decide) (fun z2 => ?_) (fun z2 => ?_)
    · have hF := hF.1 z2
      refine j_aload_n hJ dX10_kindAt_21 rfl 0 rfl ?_
      refine j_gr (e := 24) hJ kC_8 fC_13_16 fl_X10_59 dX10_kindAt_22 rfl ?_
      refine j_iload_n hJ dX10_kindAt_25 rfl 1 rfl ?_
      refine j_bipush hJ dX10_kindAt_26 (by decide) ?_
      refine j_imul hJ dX10_kindAt_28 ?_
      have g3 := hF.1; have hF := hF.2
      refine j_iload_n hJ dX10_kindAt_29 rfl 2 rfl ?_
      refine j_iadd hJ dX10_kindAt_30 ?_
      have g4 := hF.1; have hF := hF.2
      refine j_iald hJ g4 kC_24 hF.1 hF.2.1 dX10_kindAt_31 (fun v5 ev5 gv5 => ?_)
      have hF := hF.2.2 v5 ev5 gv5
      exact j_iret hJ rfl gv5 dX10_kindAt_32 hF
    · have hF := hF.2 z2
      refine j_iload_n hJ dX10_kindAt_14 rfl 1 rfl ?_
      refine j_bipush hJ dX10_kindAt_15 (by decide) ?_
      refine j_isub hJ dX10_kindAt_17 ?_
      have g6 := hF.1; have hF := hF.2
      refine j_goto hJ 32 dX10_kindAt_18 (by decide) ?_
      exact j_iret hJ rfl g6 dX10_kindAt_32 hF
  · have hF := hF.2 z1
    refine j_iconst hJ dX10_kindAt_6 ?_
    exact j_iret hJ rfl rk_5 dX10_kindAt_7 hF
def W_X10_isNumber (ad : Nat → Nat) (Q : Int → MM → Prop) (av : List Value) (M : MM) : Prop := ∃ (p1 : Int) (p2 : Int), av = [.int (Ii p1), .long (Ll p2)] ∧ ri_ p1 ∧ rl_ p2 ∧ w_X10_isNumber  Q p1 p2 M
set_option maxHeartbeats 4000000 in
set_option maxRecDepth 100000 in
theorem c_X10_isNumber {l : Launch} {D : va_G} {cy : Nat → ClassId} {ad : Nat → Nat} (hin : jIn ad ksC.length) : jCN l D vwCl (tyC cy) cy ad ftC ksC (XtC ad) yX10_isNumber (.code yX10_isNumber cX10_isNumber 4 (some .boolean) :: Om) ({ frames := 0, cells := 0, slots := 0, locals := 0 } : Room) 3 (W_X10_isNumber ad) := by
  refine jCN_of (y := yX10_isNumber) (cc := cX10_isNumber) (nL := 4) (rk := 3) (rm := ({ frames := 0, cells := 0, slots := 0, locals := 0 } : Room)) (own := RX10) (tyC_ok cy) hin (XtC_ok ad) Om_good (by decide) rfl ?_
  intro Q av M hF
  obtain ⟨p1, p2, rfl, gp1, gp2, hF⟩ := hF
  refine ⟨Nat.le_of_ble_eq_true rfl, fun J hJ => ?_⟩
  show J 0 [(0, .int (Ii p1)), (1, .long (Ll p2))] [] M
  unfold w_X10_isNumber at hF
  refine j_iload_n hJ dX10_isNumber_0 rfl 0 rfl ?_
  refine j_if_ne hJ 22 gp1 dX10_isNumber_1 (by decide) (fun z1 => ?_) (fun z1 => ?_)
  · have hF := hF.1 z1
    refine j_bipush hJ dX10_isNumber_22 (by decide) ?_
    refine j_gs hJ XtC_w1 om_68 dX10_isNumber_24 ?_
    refine j_iload_n hJ dX10_isNumber_27 rfl 0 rfl ?_
    refine j_ti hJ XtC_w2 gp1 hF.1 hF.2.1 dX10_isNumber_28 ?_
    have hF := hF.2.2
    refine j_imul hJ dX10_isNumber_29 ?_
    have g2 := hF.1; have hF := hF.2
    refine j_istore_n (lv' := [(3, .int (Ii (8 * (wdt (p1).toNat)))), (0, .int (Ii p1)), (1, .long (Ll p2))]) hJ dX10_isNumber_30 rfl (by decide) rfl ?_
    refine j_iload_n hJ dX10_isNumber_31 rfl 0 rfl ?_
    refine j_bipush hJ dX10_isNumber_32 (by decide) ?_
    refine j_icmp_eq hJ 58 g2 rk_64 dX10_isNumber_34 (by decide) (fun z3 => ?_) (fun z3 => ?_)
    · have hF := hF.1 z3
      refine j_iconst hJ dX10_isNumber_58 ?_
      refine j_goto hJ 63 dX10_isNumber_59 (by decide) ?_
      exact j_zret hJ rfl (by decide) dX10_isNumber_63 hF
    · have hF := hF.2 z3
      refine j_lload_n hJ dX10_isNumber_37 rfl 2 rfl ?_
      refine j_lconst (x := 1) hJ dX10_isNumber_38 rfl ?_
      refine j_iload_n hJ dX10_isNumber_39 rfl 0 rfl ?_
      refine j_iconst hJ dX10_isNumber_40 ?_
      refine j_isub hJ dX10_isNumber_41 ?_
      have g4 := hF.1; have hF := hF.2
      refine j_lshl hJ dX10_isNumber_42 ?_
      refine j_lnegw hJ dX10_isNumber_43 ?_
      refine j_lcmp_lt hJ 62 gp2 (rl_w _) dX10_isNumber_44 dX10_isNumber_45 (by decide) (fun z5 => ?_) (fun z5 => ?_)
      · have hF := hF.1 z5
        refine j_iconst hJ dX10_isNumber_62 ?_
        exact j_zret hJ rfl (by decide) dX10_isNumber_63 hF
      · have hF := hF.2 z5
        refine j_lload_n hJ dX10_isNumber_48 rfl 2 rfl ?_
        refine j_lconst (x := 1) hJ dX10_isNumber_49 rfl ?_
        refine j_iload_n hJ dX10_isNumber_50 rfl 0 rfl ?_
        refine j_iconst hJ dX10_isNumber_51 ?_
        refine j_isub hJ dX10_isNumber_52 ?_
        have g6 := hF.1; have hF := hF.2
        refine j_lshl hJ dX10_isNumber_53 ?_
        refine j_lcmp_ge hJ 62 gp2 (rl_of _) dX10_isNumber_54 dX10_isNumber_55 (by decide) (fun z7 => ?_) (fun z7 => ?_)
        · have hF := hF.1 z7
          refine j_iconst hJ dX10_isNumber_62 ?_
          exact j_zret hJ rfl (by decide) dX10_isNumber_63 hF
        · have hF := hF.2 z7
          refine j_iconst hJ dX10_isNumber_58 ?_
          refine j_goto hJ 63 dX10_isNumber_59 (by decide) ?_
          exact j_zret hJ rfl (by decide) dX10_isNumber_63 hF
  · have hF := hF.2 z1
    refine j_lload_n hJ dX10_isNumber_4 rfl 1 rfl ?_
    refine j_lconst (x := 0) hJ dX10_isNumber_5 rfl ?_
    refine j_lcmp_eq hJ 16 gp2 lkm_0 dX10_isNumber_6 dX10_isNumber_7 (by decide) (fun z8 => ?_) (fun z8 => ?_)
    · have hF := hF.1 z8
      refine j_iconst hJ dX10_isNumber_16 ?_
      refine j_goto hJ 21 dX10_isNumber_17 (by decide) ?_
      exact j_zret hJ rfl (by decide) dX10_isNumber_21 hF
    · have hF := hF.2 z8
      refine j_lload_n hJ dX10_isNumber_10 rfl 1 rfl ?_
      refine j_lconst (x := 1) hJ dX10_isNumber_11 rfl ?_
      refine j_lcmp_ne hJ 20 gp2 lk_1 dX10_isNumber_12 dX10_isNumber_13 (by decide) (fun z9 => ?_) (fun z9 => ?_)
      · have hF := hF.1 z9
        refine j_iconst hJ dX10_isNumber_20 ?_
        exact j_zret hJ rfl (by decide) dX10_isNumber_21 hF
      · have hF := hF.2 z9
        refine j_iconst hJ dX10_isNumber_16 ?_
        refine j_goto hJ 21 dX10_isNumber_17 (by decide) ?_
        exact j_zret hJ rfl (by decide) dX10_isNumber_21 hF
def W_X0_readSlots (ad : Nat → Nat) (Q : Int → MM → Prop) (av : List Value) (M : MM) : Prop := ∃ (p1 : Nat) (p2 : Int) (p3 : Int), av = [.ref (ad 280), .ref (ad p1), .int (Ii p2), .int (Ii p3)] ∧ isP p1 ∧ ri_ p2 ∧ ri_ p3 ∧ w_X0_readSlots p1 Q p2 p3 M
set_option maxHeartbeats 4000000 in
set_option maxRecDepth 100000 in
theorem k_X0_readSlots_b169 {l : Launch} {D : va_G} {cy : Nat → ClassId} {ad : Nat → Nat} {Q : Int → MM → Prop} {J : Nat → List (Nat × Value) → List Value → MM → Prop} (hin : jIn ad ksC.length) {p1 : Nat} (hp1 : isP p1) (hJ : jOk l D vwCl (tyC cy) cy ad ftC ksC (XtC ad) Om RX0 cX0_readSlots 8 3 ({ frames := 3, cells := 0, slots := 0, locals := 69 } : Room) Q J) {K8 : Int → Int → Int → MM → Prop} (hK8 : ∀ (x2 x3 x4 : Int) (M : MM), ri_ x2 → ri_ x3 → ri_ x4 → K8 x2 x3 x4 M → J 8 [(0, .ref (ad 280)), (1, .ref (ad p1)), (2, .int (Ii x2)), (3, .int (Ii x3)), (4, .int (Ii x4))] [] M) : ∀ (x2 x3 x4 : Int) (M : MM), ri_ x2 → ri_ x3 → ri_ x4 → w_X0_readSlots_b169 p1 Q K8 x2 x3 x4 M → J 169 [(0, .ref (ad 280)), (1, .ref (ad p1)), (2, .int (Ii x2)), (3, .int (Ii x3)), (4, .int (Ii x4))] [] M := by
  intro x2 x3 x4 M gx2 gx3 gx4 hF
  unfold w_X0_readSlots_b169 at hF
  refine j_iinc (lv' := [(4, .int (Ii (x4 + 1))), (0, .ref (ad 280)), (1, .ref (ad p1)), (2, .int (Ii x2)), (3, .int (Ii x3))]) (k := 4) hJ dX0_readSlots_169 rfl (by decide) rfl ?_
  have g1 := hF.1; have hF := hF.2
  refine j_goto hJ 8 dX0_readSlots_172 (by decide) ?_
  exact j_sub hJ [1, 2, 3, 4, 0] rfl (hK8 x2 x3 (x4 + 1) _ gx2 gx3 g1 hF)
set_option maxHeartbeats 4000000 in
set_option maxRecDepth 100000 in
theorem k_X0_readSlots_b114 {l : Launch} {D : va_G} {cy : Nat → ClassId} {ad : Nat → Nat} {Q : Int → MM → Prop} {J : Nat → List (Nat × Value) → List Value → MM → Prop} (hin : jIn ad ksC.length) {p1 : Nat} (hp1 : isP p1) (hJ : jOk l D vwCl (tyC cy) cy ad ftC ksC (XtC ad) Om RX0 cX0_readSlots 8 3 ({ frames := 3, cells := 0, slots := 0, locals := 69 } : Room) Q J) {K8 : Int → Int → Int → MM → Prop} (hK8 : ∀ (x2 x3 x4 : Int) (M : MM), ri_ x2 → ri_ x3 → ri_ x4 → K8 x2 x3 x4 M → J 8 [(0, .ref (ad 280)), (1, .ref (ad p1)), (2, .int (Ii x2)), (3, .int (Ii x3)), (4, .int (Ii x4))] [] M) : ∀ (x2 x3 x4 x5 : Int) (M : MM), ri_ x2 → ri_ x3 → ri_ x4 → ri_ x5 → w_X0_readSlots_b114 p1 Q K8 x2 x3 x4 x5 M → J 114 [(0, .ref (ad 280)), (1, .ref (ad p1)), (2, .int (Ii x2)), (3, .int (Ii x3)), (4, .int (Ii x4)), (5, .int (Ii x5))] [] M := by
  intro x2 x3 x4 x5 M gx2 gx3 gx4 gx5 hF
  unfold w_X0_readSlots_b114 at hF
  refine j_aload_n hJ dX0_readSlots_114 rfl 0 rfl ?_
  refine j_gr (e := 284) hJ kC_280 fC_3_12 fl_X0_32 dX0_readSlots_115 rfl ?_
  refine j_iload hJ dX0_readSlots_118 4 rfl ?_
  refine j_aload_n hJ dX0_readSlots_120 rfl 0 rfl ?_
  refine j_gi hJ kC_280 fC_3_10 rfl fl_X0_134 dX0_readSlots_121 (fun v1 ev1 gv1 => ?_)
  have hF := hF v1 ev1 gv1
  refine j_iast hJ gx4 gv1 kC_284 hF.1 hF.2.1 dX0_readSlots_124 (fun M2 eM2 => ?_)
  have hF := hF.2.2 M2 eM2
  refine j_aload_n hJ dX0_readSlots_125 rfl 0 rfl ?_
  refine j_gi hJ kC_280 fC_3_13 rfl fl_X0_101 dX0_readSlots_126 (fun v3 ev3 gv3 => ?_)
  have hF := hF v3 ev3 gv3
  refine j_if_eq hJ 134 gv3 dX0_readSlots_129 (by decide) (fun z4 => ?_) (fun z4 => ?_)
  · have hF := hF.1 z4
    refine j_aload_n hJ dX0_readSlots_134 rfl 1 rfl ?_
    refine j_gr (e := (p1 + 10)) hJ (kP_0 hp1) fC_8_10 fl_X0_66 dX0_readSlots_135 rfl ?_
    refine j_iload hJ dX0_readSlots_138 4 rfl ?_
    refine j_zald hJ gx4 (kP_10 hp1) hF.1 hF.2.1 dX0_readSlots_140 (fun v5 ev5 gv5 => ?_)
    have hF := hF.2.2 v5 ev5 gv5
    refine j_if_ne hJ 169 (jz_ri gv5) dX0_readSlots_141 (by decide) (fun z6 => ?_) (fun z6 => ?_)
    · have hF := hF.1 z6
      exact j_sub hJ [0, 1, 2, 3, 4] rfl (k_X0_readSlots_b169 hin hp1 hJ hK8 x2 x3 x4 _ gx2 gx3 gx4 hF)
    · have hF := hF.2 z6
      refine j_iload hJ dX0_readSlots_144 5 rfl ?_
      refine j_aload_n hJ dX0_readSlots_146 rfl 1 rfl ?_
      refine j_gr (e := (p1 + 9)) hJ (kP_0 hp1) fC_8_9 fl_X0_62 dX0_readSlots_147 rfl ?_
      refine j_iload hJ dX0_readSlots_150 4 rfl ?_
      refine j_lald hJ gx4 (kP_9 hp1) hF.1 hF.2.1 dX0_readSlots_152 (fun v7 ev7 gv7 => ?_)
      have hF := hF.2.2 v7 ev7 gv7
      refine j_callSz hJ (c_X10_isNumber (l := l) (D := D) (cy := cy) (ad := ad) hin) rfl om_69 ⟨rfl, rfl, Nat.le_of_ble_eq_true rfl, Nat.le_of_ble_eq_true rfl⟩ [.int (Ii x5), .long (Ll v7)] mv_X0_177 hd_X10_isNumber rfl (Nat.le_of_ble_eq_true rfl) dX0_readSlots_153 ⟨x5, v7, rfl, gx5, gv7, hF⟩ (fun r8 M9 gr8 qM9 => ?_)
      have hF := qM9 gr8
      refine j_if_ne hJ 169 (jz_ri gr8) dX0_readSlots_156 (by decide) (fun z10 => ?_) (fun z10 => ?_)
      · have hF := hF.1 z10
        exact j_sub hJ [0, 1, 2, 3, 4] rfl (k_X0_readSlots_b169 hin hp1 hJ hK8 x2 x3 x4 _ gx2 gx3 gx4 hF)
      · have hF := hF.2 z10
        refine j_aload_n hJ dX0_readSlots_159 rfl 0 rfl ?_
        refine j_iconst hJ dX0_readSlots_160 ?_
        refine j_aload_n hJ dX0_readSlots_161 rfl 0 rfl ?_
        refine j_gi hJ kC_280 fC_3_10 rfl fl_X0_134 dX0_readSlots_162 (fun v11 ev11 gv11 => ?_)
        have hF := hF v11 ev11 gv11
        refine j_callVz hJ (c_X0_fail (l := l) (D := D) (cy := cy) (ad := ad) hin) rfl om_23 ⟨rfl, rfl, Nat.le_of_ble_eq_true rfl, Nat.le_of_ble_eq_true rfl⟩ [.int (Ii 4), .int (Ii v11)] mv_X0_130 hd_X0_failv kC_280 rfl rfl rfl (Nat.le_of_ble_eq_true rfl) dX0_readSlots_165 ⟨4, v11, rfl, rk_4, gv11, hF⟩ (fun r12 M13 gr12 qM13 => ?_)
        have hF := qM13 gr12
        exact j_zret hJ rfl gr12 dX0_readSlots_168 hF
  · have hF := hF.2 z4
    refine j_iconst hJ dX0_readSlots_132 ?_
    exact j_zret hJ rfl (by decide) dX0_readSlots_133 hF
set_option maxHeartbeats 4000000 in
set_option maxRecDepth 100000 in
theorem k_X0_readSlots_b62 {l : Launch} {D : va_G} {cy : Nat → ClassId} {ad : Nat → Nat} {Q : Int → MM → Prop} {J : Nat → List (Nat × Value) → List Value → MM → Prop} (hin : jIn ad ksC.length) {p1 : Nat} (hp1 : isP p1) (hJ : jOk l D vwCl (tyC cy) cy ad ftC ksC (XtC ad) Om RX0 cX0_readSlots 8 3 ({ frames := 3, cells := 0, slots := 0, locals := 69 } : Room) Q J) {K8 : Int → Int → Int → MM → Prop} (hK8 : ∀ (x2 x3 x4 : Int) (M : MM), ri_ x2 → ri_ x3 → ri_ x4 → K8 x2 x3 x4 M → J 8 [(0, .ref (ad 280)), (1, .ref (ad p1)), (2, .int (Ii x2)), (3, .int (Ii x3)), (4, .int (Ii x4))] [] M) : ∀ (x2 x3 x4 x5 s0 s1 : Int) (M : MM), ri_ x2 → ri_ x3 → ri_ x4 → ri_ x5 → ri_ s0 → ri_ s1 → w_X0_readSlots_b62 p1 Q K8 x2 x3 x4 x5 s0 s1 M → J 62 [(0, .ref (ad 280)), (1, .ref (ad p1)), (2, .int (Ii x2)), (3, .int (Ii x3)), (4, .int (Ii x4)), (5, .int (Ii x5))] [.int (Ii s0), .int (Ii s1), .ref (ad (p1 + 10))] M := by
  intro x2 x3 x4 x5 s0 s1 M gx2 gx3 gx4 gx5 gs0 gs1 hF
  unfold w_X0_readSlots_b62 at hF
  refine j_zast hJ gs1 hF.2.2.1 (kP_10 hp1) hF.1 hF.2.1 dX0_readSlots_62 (fun M1 eM1 => ?_)
  have hF := hF.2.2.2 M1 eM1
  refine j_aload_n hJ dX0_readSlots_63 rfl 1 rfl ?_
  refine j_gr (e := (p1 + 10)) hJ (kP_0 hp1) fC_8_10 fl_X0_66 dX0_readSlots_64 rfl ?_
  refine j_iload hJ dX0_readSlots_67 4 rfl ?_
  refine j_zald hJ gx4 (kP_10 hp1) hF.1 hF.2.1 dX0_readSlots_69 (fun v2 ev2 gv2 => ?_)
  have hF := hF.2.2 v2 ev2 gv2
  refine j_if_eq hJ 91 (jz_ri gv2) dX0_readSlots_70 (by decide) (fun z3 => ?_) (fun z3 => ?_)
  · have hF := hF.1 z3
    refine j_aload_n hJ dX0_readSlots_91 rfl 0 rfl ?_
    refine j_callVl hJ (c_X0_readNumber (l := l) (D := D) (cy := cy) (ad := ad) hin) rfl om_31 ⟨rfl, rfl, Nat.le_of_ble_eq_true rfl, Nat.le_of_ble_eq_true rfl⟩ [] mv_X0_137 hd_X0_readNumberv kC_280 rfl rfl rfl (Nat.le_of_ble_eq_true rfl) dX0_readSlots_92 ⟨rfl, hF⟩ (fun r4 M5 gr4 qM5 => ?_)
    have hF := qM5 gr4
    refine j_lstore (lv' := [(6, .long (Ll r4)), (0, .ref (ad 280)), (1, .ref (ad p1)), (2, .int (Ii x2)), (3, .int (Ii x3)), (4, .int (Ii x4)), (5, .int (Ii x5))]) hJ dX0_readSlots_95 (by decide) rfl ?_
    refine j_aload_n hJ dX0_readSlots_97 rfl 2 rfl ?_
    refine j_gr (e := (p1 + 9)) hJ (kP_0 hp1) fC_8_9 fl_X0_62 dX0_readSlots_98 rfl ?_
    refine j_iload hJ dX0_readSlots_101 5 rfl ?_
    refine j_lload hJ dX0_readSlots_103 0 rfl ?_
    refine j_iconst hJ dX0_readSlots_105 ?_
    refine j_lushr hJ dX0_readSlots_106 ?_
    refine j_lload hJ dX0_readSlots_107 0 rfl ?_
    refine j_lconst (x := 1) hJ dX0_readSlots_109 rfl ?_
    refine j_land hJ dX0_readSlots_110 ?_
    refine j_lnegw hJ dX0_readSlots_111 ?_
    refine j_lxor hJ dX0_readSlots_112 ?_
    refine j_last hJ gx4 (rl_of _) (kP_9 hp1) hF.1 hF.2.1 dX0_readSlots_113 (fun M6 eM6 => ?_)
    have hF := hF.2.2 M6 eM6
    exact j_sub hJ [1, 2, 3, 4, 5, 6] rfl (k_X0_readSlots_b114 hin hp1 hJ hK8 x2 x3 x4 x5 _ gx2 gx3 gx4 gx5 hF)
  · have hF := hF.2 z3
    refine j_aload_n hJ dX0_readSlots_73 rfl 1 rfl ?_
    refine j_gr (e := (p1 + 9)) hJ (kP_0 hp1) fC_8_9 fl_X0_62 dX0_readSlots_74 rfl ?_
    refine j_iload hJ dX0_readSlots_77 4 rfl ?_
    refine j_aload_n hJ dX0_readSlots_79 rfl 0 rfl ?_
    refine j_iload_n hJ dX0_readSlots_80 rfl 3 rfl ?_
    refine j_callVi hJ (c_X0_readUpTo (l := l) (D := D) (cy := cy) (ad := ad) hin) rfl om_35 ⟨rfl, rfl, Nat.le_of_ble_eq_true rfl, Nat.le_of_ble_eq_true rfl⟩ [.int (Ii x3)] mv_X0_141 hd_X0_readUpTov kC_280 rfl rfl rfl (Nat.le_of_ble_eq_true rfl) dX0_readSlots_81 ⟨x3, rfl, gx3, hF⟩ (fun r7 M8 gr7 qM8 => ?_)
    have hF := qM8 gr7
    refine j_iconst hJ dX0_readSlots_84 ?_
    refine j_isub hJ dX0_readSlots_85 ?_
    have g9 := hF.1; have hF := hF.2
    refine j_i2l hJ g9 dX0_readSlots_86 ?_
    refine j_last hJ gx4 (rl_ri g9) (kP_9 hp1) hF.1 hF.2.1 dX0_readSlots_87 (fun M10 eM10 => ?_)
    have hF := hF.2.2 M10 eM10
    refine j_goto hJ 114 dX0_readSlots_88 (by decide) ?_
    exact j_sub hJ [0, 1, 2, 3, 4, 5] rfl (k_X0_readSlots_b114 hin hp1 hJ hK8 x2 x3 x4 x5 _ gx2 gx3 gx4 gx5 hF)
set_option maxHeartbeats 4000000 in
set_option maxRecDepth 100000 in
theorem k_X0_readSlots_b8 {l : Launch} {D : va_G} {cy : Nat → ClassId} {ad : Nat → Nat} {Q : Int → MM → Prop} {J : Nat → List (Nat × Value) → List Value → MM → Prop} (hin : jIn ad ksC.length) {p1 : Nat} (hp1 : isP p1) (hJ : jOk l D vwCl (tyC cy) cy ad ftC ksC (XtC ad) Om RX0 cX0_readSlots 8 3 ({ frames := 3, cells := 0, slots := 0, locals := 69 } : Room) Q J)  : ∀ (x2 x3 x4 : Int) (M : MM), ri_ x2 → ri_ x3 → ri_ x4 → w_X0_readSlots_b8 p1 Q  x2 x3 x4 M → J 8 [(0, .ref (ad 280)), (1, .ref (ad p1)), (2, .int (Ii x2)), (3, .int (Ii x3)), (4, .int (Ii x4))] [] M := by
  have H9 : ∀ (n : Nat) (x2 x3 x4 : Int) (M : MM), ri_ x2 → ri_ x3 → ri_ x4 → jit (fun _ _ _ _ => False) (wb_X0_readSlots_b8 p1 Q ) n x2 x3 x4 M → J 8 [(0, .ref (ad 280)), (1, .ref (ad p1)), (2, .int (Ii x2)), (3, .int (Ii x3)), (4, .int (Ii x4))] [] M := by
    intro n
    induction n with
    | zero => intro x2 x3 x4 M gx2 gx3 gx4 hF; exact False.elim hF
    | succ n ih =>
    intro x2 x3 x4 M gx2 gx3 gx4 hF
    have hF : wb_X0_readSlots_b8 p1 Q  (jit (fun _ _ _ _ => False) (wb_X0_readSlots_b8 p1 Q ) n) x2 x3 x4 M := hF
    unfold wb_X0_readSlots_b8 at hF
    refine j_iload hJ dX0_readSlots_8 4 rfl ?_
    refine j_aload_n hJ dX0_readSlots_10 rfl 1 rfl ?_
    refine j_gr (e := (p1 + 4)) hJ (kP_0 hp1) fC_8_4 fl_X0_59 dX0_readSlots_11 rfl ?_
    refine j_iload_n hJ dX0_readSlots_14 rfl 2 rfl ?_
    refine j_iconst hJ dX0_readSlots_15 ?_
    refine j_iadd hJ dX0_readSlots_16 ?_
    have g1 := hF.1; have hF := hF.2
    refine j_iald hJ g1 (kP_4 hp1) hF.1 hF.2.1 dX0_readSlots_17 (fun v2 ev2 gv2 => ?_)
    have hF := hF.2.2 v2 ev2 gv2
    refine j_icmp_ge hJ 175 gx4 gv2 dX0_readSlots_18 (by decide) (fun z3 => ?_) (fun z3 => ?_)
    · have hF := hF.1 z3
      refine j_iconst hJ dX0_readSlots_175 ?_
      exact j_zret hJ rfl (by decide) dX0_readSlots_176 hF
    · have hF := hF.2 z3
      refine j_aload_n hJ dX0_readSlots_21 rfl 0 rfl ?_
      refine j_ga hJ kC_280 fC_3_0 fl_X0_11 dX0_readSlots_22 ?_
      refine j_aload_n hJ dX0_readSlots_25 rfl 1 rfl ?_
      refine j_gr (e := (p1 + 2)) hJ (kP_0 hp1) fC_8_2 fl_X0_53 dX0_readSlots_26 rfl ?_
      refine j_iload_n hJ dX0_readSlots_29 rfl 2 rfl ?_
      refine j_iald hJ gx2 (kP_2 hp1) hF.1 hF.2.1 dX0_readSlots_30 (fun v4 ev4 gv4 => ?_)
      have hF := hF.2.2 v4 ev4 gv4
      refine j_iload hJ dX0_readSlots_31 4 rfl ?_
      refine j_aload_n hJ dX0_readSlots_33 rfl 1 rfl ?_
      refine j_gr (e := (p1 + 4)) hJ (kP_0 hp1) fC_8_4 fl_X0_59 dX0_readSlots_34 rfl ?_
      refine j_iload_n hJ dX0_readSlots_37 rfl 2 rfl ?_
      refine j_iald hJ gx2 (kP_4 hp1) hF.1 hF.2.1 dX0_readSlots_38 (fun v5 ev5 gv5 => ?_)
      have hF := hF.2.2 v5 ev5 gv5
      refine j_isub hJ dX0_readSlots_39 ?_
      have g6 := hF.1; have hF := hF.2
      refine j_callVi hJ (c_X10_kindAt (l := l) (D := D) (cy := cy) (ad := ad) hin) rfl om_64 ⟨rfl, rfl, Nat.le_of_ble_eq_true rfl, Nat.le_of_ble_eq_true rfl⟩ [.int (Ii v4), .int (Ii (x4 - v5))] mv_X0_174 hd_X10_kindAtv kC_8 rfl rfl rfl (Nat.le_of_ble_eq_true rfl) dX0_readSlots_40 ⟨v4, (x4 - v5), rfl, gv4, g6, hF⟩ (fun r7 M8 gr7 qM8 => ?_)
      have hF := qM8 gr7
      refine j_istore (lv' := [(5, .int (Ii r7)), (0, .ref (ad 280)), (1, .ref (ad p1)), (2, .int (Ii x2)), (3, .int (Ii x3)), (4, .int (Ii x4))]) hJ dX0_readSlots_43 (by decide) rfl ?_
      refine j_aload_n hJ dX0_readSlots_45 rfl 2 rfl ?_
      refine j_gr (e := (p1 + 10)) hJ (kP_0 hp1) fC_8_10 fl_X0_66 dX0_readSlots_46 rfl ?_
      refine j_iload hJ dX0_readSlots_49 5 rfl ?_
      refine j_iload hJ dX0_readSlots_51 0 rfl ?_
      refine j_iconst hJ dX0_readSlots_53 ?_
      refine j_icmp_ne hJ 61 gr7 rk_5 dX0_readSlots_54 (by decide) (fun z9 => ?_) (fun z9 => ?_)
      · have hF := hF.1 z9
        refine j_iconst hJ dX0_readSlots_61 ?_
        exact j_sub hJ [1, 2, 3, 4, 5, 0] rfl (k_X0_readSlots_b62 hin hp1 hJ ih x2 x3 x4 r7 0 x4 _ gx2 gx3 gx4 gr7 rk_0 gx4 hF)
      · have hF := hF.2 z9
        refine j_iconst hJ dX0_readSlots_57 ?_
        refine j_goto hJ 62 dX0_readSlots_58 (by decide) ?_
        exact j_sub hJ [1, 2, 3, 4, 5, 0] rfl (k_X0_readSlots_b62 hin hp1 hJ ih x2 x3 x4 r7 1 x4 _ gx2 gx3 gx4 gr7 rk_1 gx4 hF)
  intro x2 x3 x4 M gx2 gx3 gx4 hF
  obtain ⟨n, hF⟩ := hF
  exact H9 n x2 x3 x4 M gx2 gx3 gx4 hF
set_option maxHeartbeats 4000000 in
set_option maxRecDepth 100000 in
theorem c_X0_readSlots {l : Launch} {D : va_G} {cy : Nat → ClassId} {ad : Nat → Nat} (hin : jIn ad ksC.length) : jCN l D vwCl (tyC cy) cy ad ftC ksC (XtC ad) yX0_readSlots (.code yX0_readSlots cX0_readSlots 8 (some .boolean) :: Om) ({ frames := 3, cells := 0, slots := 0, locals := 69 } : Room) 3 (W_X0_readSlots ad) := by
  refine jCN_of (y := yX0_readSlots) (cc := cX0_readSlots) (nL := 8) (rk := 3) (rm := ({ frames := 3, cells := 0, slots := 0, locals := 69 } : Room)) (own := RX0) (tyC_ok cy) hin (XtC_ok ad) Om_good (by decide) rfl ?_
  intro Q av M hF
  obtain ⟨p1, p2, p3, rfl, hp1, gp2, gp3, hF⟩ := hF
  refine ⟨Nat.le_of_ble_eq_true rfl, fun J hJ => ?_⟩
  show J 0 [(0, .ref (ad 280)), (1, .ref (ad p1)), (2, .int (Ii p2)), (3, .int (Ii p3))] [] M
  unfold w_X0_readSlots at hF
  refine j_aload_n hJ dX0_readSlots_0 rfl 1 rfl ?_
  refine j_gr (e := (p1 + 4)) hJ (kP_0 hp1) fC_8_4 fl_X0_59 dX0_readSlots_1 rfl ?_
  refine j_iload_n hJ dX0_readSlots_4 rfl 2 rfl ?_
  refine j_iald hJ gp2 (kP_4 hp1) hF.1 hF.2.1 dX0_readSlots_5 (fun v1 ev1 gv1 => ?_)
  have hF := hF.2.2 v1 ev1 gv1
  refine j_istore (lv' := [(4, .int (Ii v1)), (0, .ref (ad 280)), (1, .ref (ad p1)), (2, .int (Ii p2)), (3, .int (Ii p3))]) hJ dX0_readSlots_6 (by decide) rfl ?_
  exact j_sub hJ [1, 2, 3, 4, 0] rfl (k_X0_readSlots_b8 hin hp1 hJ  p2 p3 v1 _ gp2 gp3 gv1 hF)
def W_X0_readThings (ad : Nat → Nat) (Q : Int → MM → Prop) (av : List Value) (M : MM) : Prop := ∃ (p1 : Nat), av = [.ref (ad 280), .ref (ad p1)] ∧ isP p1 ∧ w_X0_readThings p1 Q  M
set_option maxHeartbeats 4000000 in
set_option maxRecDepth 100000 in
theorem k_X0_readThings_b10 {l : Launch} {D : va_G} {cy : Nat → ClassId} {ad : Nat → Nat} {Q : Int → MM → Prop} {J : Nat → List (Nat × Value) → List Value → MM → Prop} (hin : jIn ad ksC.length) {p1 : Nat} (hp1 : isP p1) (hJ : jOk l D vwCl (tyC cy) cy ad ftC ksC (XtC ad) Om RX0 cX0_readThings 4 3 ({ frames := 4, cells := 0, slots := 0, locals := 96 } : Room) Q J)  : ∀ (x2 x3 : Int) (M : MM), ri_ x2 → ri_ x3 → w_X0_readThings_b10 p1 Q  x2 x3 M → J 10 [(0, .ref (ad 280)), (1, .ref (ad p1)), (2, .int (Ii x2)), (3, .int (Ii x3))] [] M := by
  have H9 : ∀ (n : Nat) (x2 x3 : Int) (M : MM), ri_ x2 → ri_ x3 → jit (fun _ _ _ => False) (wb_X0_readThings_b10 p1 Q ) n x2 x3 M → J 10 [(0, .ref (ad 280)), (1, .ref (ad p1)), (2, .int (Ii x2)), (3, .int (Ii x3))] [] M := by
    intro n
    induction n with
    | zero => intro x2 x3 M gx2 gx3 hF; exact False.elim hF
    | succ n ih =>
    intro x2 x3 M gx2 gx3 hF
    have hF : wb_X0_readThings_b10 p1 Q  (jit (fun _ _ _ => False) (wb_X0_readThings_b10 p1 Q ) n) x2 x3 M := hF
    unfold wb_X0_readThings_b10 at hF
    refine j_iload_n hJ dX0_readThings_10 rfl 3 rfl ?_
    refine j_iload_n hJ dX0_readThings_11 rfl 2 rfl ?_
    refine j_icmp_ge hJ 42 gx3 gx2 dX0_readThings_12 (by decide) (fun z1 => ?_) (fun z1 => ?_)
    · have hF := hF.1 z1
      refine j_aload_n hJ dX0_readThings_42 rfl 0 rfl ?_
      refine j_gi hJ kC_280 fC_3_13 rfl fl_X0_101 dX0_readThings_43 (fun v2 ev2 gv2 => ?_)
      have hF := hF v2 ev2 gv2
      refine j_if_ne hJ 53 gv2 dX0_readThings_46 (by decide) (fun z3 => ?_) (fun z3 => ?_)
      · have hF := hF.1 z3
        refine j_iconst hJ dX0_readThings_53 ?_
        exact j_zret hJ rfl (by decide) dX0_readThings_54 hF
      · have hF := hF.2 z3
        refine j_iconst hJ dX0_readThings_49 ?_
        refine j_goto hJ 54 dX0_readThings_50 (by decide) ?_
        exact j_zret hJ rfl (by decide) dX0_readThings_54 hF
    · have hF := hF.2 z1
      refine j_aload_n hJ dX0_readThings_15 rfl 0 rfl ?_
      refine j_aload_n hJ dX0_readThings_16 rfl 1 rfl ?_
      refine j_iload_n hJ dX0_readThings_17 rfl 3 rfl ?_
      refine j_callVz hJ (c_X0_readThing (l := l) (D := D) (cy := cy) (ad := ad) hin) rfl om_60 ⟨rfl, rfl, Nat.le_of_ble_eq_true rfl, Nat.le_of_ble_eq_true rfl⟩ [.ref (ad p1), .int (Ii x3)] mv_X0_145 hd_X0_readThingv kC_280 rfl rfl rfl (Nat.le_of_ble_eq_true rfl) dX0_readThings_18 ⟨p1, x3, rfl, hp1, gx3, hF⟩ (fun r4 M5 gr4 qM5 => ?_)
      have hF := qM5 gr4
      refine j_if_eq hJ 34 (jz_ri gr4) dX0_readThings_21 (by decide) (fun z6 => ?_) (fun z6 => ?_)
      · have hF := hF.1 z6
        refine j_iconst hJ dX0_readThings_34 ?_
        exact j_zret hJ rfl (by decide) dX0_readThings_35 hF
      · have hF := hF.2 z6
        refine j_aload_n hJ dX0_readThings_24 rfl 0 rfl ?_
        refine j_aload_n hJ dX0_readThings_25 rfl 1 rfl ?_
        refine j_iload_n hJ dX0_readThings_26 rfl 3 rfl ?_
        refine j_iload_n hJ dX0_readThings_27 rfl 2 rfl ?_
        refine j_callVz hJ (c_X0_readSlots (l := l) (D := D) (cy := cy) (ad := ad) hin) rfl om_72 ⟨rfl, rfl, Nat.le_of_ble_eq_true rfl, Nat.le_of_ble_eq_true rfl⟩ [.ref (ad p1), .int (Ii x3), .int (Ii x2)] mv_X0_149 hd_X0_readSlotsv kC_280 rfl rfl rfl (Nat.le_of_ble_eq_true rfl) dX0_readThings_28 ⟨p1, x3, x2, rfl, hp1, gx3, gx2, hF⟩ (fun r7 M8 gr7 qM8 => ?_)
        have hF := qM8 gr7
        refine j_if_ne hJ 36 (jz_ri gr7) dX0_readThings_31 (by decide) (fun z9 => ?_) (fun z9 => ?_)
        · have hF := hF.1 z9
          refine j_iinc (lv' := [(3, .int (Ii (x3 + 1))), (0, .ref (ad 280)), (1, .ref (ad p1)), (2, .int (Ii x2))]) (k := 3) hJ dX0_readThings_36 rfl (by decide) rfl ?_
          have g10 := hF.1; have hF := hF.2
          refine j_goto hJ 10 dX0_readThings_39 (by decide) ?_
          exact j_sub hJ [1, 2, 3, 0] rfl (ih x2 (x3 + 1) _ gx2 g10 hF)
        · have hF := hF.2 z9
          refine j_iconst hJ dX0_readThings_34 ?_
          exact j_zret hJ rfl (by decide) dX0_readThings_35 hF
  intro x2 x3 M gx2 gx3 hF
  obtain ⟨n, hF⟩ := hF
  exact H9 n x2 x3 M gx2 gx3 hF
set_option maxHeartbeats 4000000 in
set_option maxRecDepth 100000 in
theorem c_X0_readThings {l : Launch} {D : va_G} {cy : Nat → ClassId} {ad : Nat → Nat} (hin : jIn ad ksC.length) : jCN l D vwCl (tyC cy) cy ad ftC ksC (XtC ad) yX0_readThings (.code yX0_readThings cX0_readThings 4 (some .boolean) :: Om) ({ frames := 4, cells := 0, slots := 0, locals := 96 } : Room) 3 (W_X0_readThings ad) := by
  refine jCN_of (y := yX0_readThings) (cc := cX0_readThings) (nL := 4) (rk := 3) (rm := ({ frames := 4, cells := 0, slots := 0, locals := 96 } : Room)) (own := RX0) (tyC_ok cy) hin (XtC_ok ad) Om_good (by decide) rfl ?_
  intro Q av M hF
  obtain ⟨p1, rfl, hp1, hF⟩ := hF
  refine ⟨Nat.le_of_ble_eq_true rfl, fun J hJ => ?_⟩
  show J 0 [(0, .ref (ad 280)), (1, .ref (ad p1))] [] M
  unfold w_X0_readThings at hF
  refine j_aload_n hJ dX0_readThings_0 rfl 0 rfl ?_
  refine j_sipush hJ dX0_readThings_1 (by decide) ?_
  refine j_callVi hJ (c_X0_readUpTo (l := l) (D := D) (cy := cy) (ad := ad) hin) rfl om_35 ⟨rfl, rfl, Nat.le_of_ble_eq_true rfl, Nat.le_of_ble_eq_true rfl⟩ [.int (Ii 400)] mv_X0_141 hd_X0_readUpTov kC_280 rfl rfl rfl (Nat.le_of_ble_eq_true rfl) dX0_readThings_4 ⟨400, rfl, rk_400, hF⟩ (fun r1 M2 gr1 qM2 => ?_)
  have hF := qM2 gr1
  refine j_istore_n (lv' := [(2, .int (Ii r1)), (0, .ref (ad 280)), (1, .ref (ad p1))]) hJ dX0_readThings_7 rfl (by decide) rfl ?_
  refine j_iconst hJ dX0_readThings_8 ?_
  refine j_istore_n (lv' := [(3, .int (Ii 0)), (2, .int (Ii r1)), (0, .ref (ad 280)), (1, .ref (ad p1))]) hJ dX0_readThings_9 rfl (by decide) rfl ?_
  exact j_sub hJ [2, 3, 1, 0] rfl (k_X0_readThings_b10 hin hp1 hJ  r1 0 _ gr1 rk_0 hF)
def W_X10_linkAt (ad : Nat → Nat) (Q : Int → MM → Prop) (av : List Value) (M : MM) : Prop := ∃ (p1 : Int) (p2 : Int), av = [.ref (ad 8), .int (Ii p1), .int (Ii p2)] ∧ ri_ p1 ∧ ri_ p2 ∧ w_X10_linkAt  Q p1 p2 M
set_option maxHeartbeats 4000000 in
set_option maxRecDepth 100000 in
theorem c_X10_linkAt {l : Launch} {D : va_G} {cy : Nat → ClassId} {ad : Nat → Nat} (hin : jIn ad ksC.length) : jCN l D vwCl (tyC cy) cy ad ftC ksC (XtC ad) yX10_linkAt (.code yX10_linkAt cX10_linkAt 3 (some .int) :: Om) ({ frames := 0, cells := 0, slots := 0, locals := 0 } : Room) 1 (W_X10_linkAt ad) := by
  refine jCN_of (y := yX10_linkAt) (cc := cX10_linkAt) (nL := 3) (rk := 1) (rm := ({ frames := 0, cells := 0, slots := 0, locals := 0 } : Room)) (own := RX10) (tyC_ok cy) hin (XtC_ok ad) Om_good (by decide) rfl ?_
  intro Q av M hF
  obtain ⟨p1, p2, rfl, gp1, gp2, hF⟩ := hF
  refine ⟨Nat.le_of_ble_eq_true rfl, fun J hJ => ?_⟩
  show J 0 [(0, .ref (ad 8)), (1, .int (Ii p1)), (2, .int (Ii p2))] [] M
  unfold w_X10_linkAt at hF
  refine j_iload_n hJ dX10_linkAt_0 rfl 1 rfl ?_
  refine j_bipush hJ dX10_linkAt_1 (by decide) ?_
  refine j_icmp_lt hJ 11 gp1 rk_30 dX10_linkAt_3 (by decide) (fun z1 => ?_) (fun z1 => ?_)
  · have hF := hF.1 z1
    refine j_iload_n hJ dX10_linkAt_11 rfl 1 rfl ?_
    refine j_bipush hJ dX10_linkAt_12 (by decide) ?_
    refine j_icmp_lt hJ 21 gp1 rk_20 dX10_linkAt_14 (by decide) (fun z2 => ?_) (fun z2 => ?_)
    · have hF := hF.1 z2
      refine j_aload_n hJ dX10_linkAt_21 rfl 0 rfl ?_
      refine j_gr (e := 25) hJ kC_8 fC_13_17 fl_X10_62 dX10_linkAt_22 rfl ?_
      refine j_iload_n hJ dX10_linkAt_25 rfl 1 rfl ?_
      refine j_bipush hJ dX10_linkAt_26 (by decide) ?_
      refine j_imul hJ dX10_linkAt_28 ?_
      have g3 := hF.1; have hF := hF.2
      refine j_iload_n hJ dX10_linkAt_29 rfl 2 rfl ?_
      refine j_iadd hJ dX10_linkAt_30 ?_
      have g4 := hF.1; have hF := hF.2
      refine j_iald hJ g4 kC_25 hF.1 hF.2.1 dX10_linkAt_31 (fun v5 ev5 gv5 => ?_)
      have hF := hF.2.2 v5 ev5 gv5
      exact j_iret hJ rfl gv5 dX10_linkAt_32 hF
    · have hF := hF.2 z2
      refine j_iconst hJ dX10_linkAt_17 ?_
      refine j_goto hJ 32 dX10_linkAt_18 (by decide) ?_
      exact j_iret hJ rfl rk_m1 dX10_linkAt_32 hF
  · have hF := hF.2 z1
    refine j_iload_n hJ dX10_linkAt_6 rfl 1 rfl ?_
    refine j_bipush hJ dX10_linkAt_7 (by decide) ?_
    refine j_isub hJ dX10_linkAt_9 ?_
    have g6 := hF.1; have hF := hF.2
    exact j_iret hJ rfl g6 dX10_linkAt_10 hF
def W_X10_isHeir (ad : Nat → Nat) (Q : Int → MM → Prop) (av : List Value) (M : MM) : Prop := ∃ (p1 : Int) (p2 : Int), av = [.ref (ad 8), .int (Ii p1), .int (Ii p2)] ∧ ri_ p1 ∧ ri_ p2 ∧ w_X10_isHeir  Q p1 p2 M
set_option maxHeartbeats 4000000 in
set_option maxRecDepth 100000 in
theorem k_X10_isHeir_b5 {l : Launch} {D : va_G} {cy : Nat → ClassId} {ad : Nat → Nat} {Q : Int → MM → Prop} {J : Nat → List (Nat × Value) → List Value → MM → Prop} (hin : jIn ad ksC.length)   (hJ : jOk l D vwCl (tyC cy) cy ad ftC ksC (XtC ad) Om RX10 cX10_isHeir 5 3 ({ frames := 0, cells := 0, slots := 0, locals := 0 } : Room) Q J)  : ∀ (x2 x3 x4 : Int) (M : MM), ri_ x2 → ri_ x3 → ri_ x4 → w_X10_isHeir_b5  Q  x2 x3 x4 M → J 5 [(0, .ref (ad 8)), (2, .int (Ii x2)), (3, .int (Ii x3)), (4, .int (Ii x4))] [] M := by
  have H9 : ∀ (n : Nat) (x2 x3 x4 : Int) (M : MM), ri_ x2 → ri_ x3 → ri_ x4 → jit (fun _ _ _ _ => False) (wb_X10_isHeir_b5  Q ) n x2 x3 x4 M → J 5 [(0, .ref (ad 8)), (2, .int (Ii x2)), (3, .int (Ii x3)), (4, .int (Ii x4))] [] M := by
    intro n
    induction n with
    | zero => intro x2 x3 x4 M gx2 gx3 gx4 hF; exact False.elim hF
    | succ n ih =>
    intro x2 x3 x4 M gx2 gx3 gx4 hF
    have hF : wb_X10_isHeir_b5  Q  (jit (fun _ _ _ _ => False) (wb_X10_isHeir_b5  Q ) n) x2 x3 x4 M := hF
    unfold wb_X10_isHeir_b5 at hF
    refine j_iload hJ dX10_isHeir_5 3 rfl ?_
    refine j_bipush hJ dX10_isHeir_7 (by decide) ?_
    refine j_icmp_ge hJ 37 gx4 rk_16 dX10_isHeir_9 (by decide) (fun z1 => ?_) (fun z1 => ?_)
    · have hF := hF.1 z1
      refine j_iconst hJ dX10_isHeir_37 ?_
      exact j_zret hJ rfl (by decide) dX10_isHeir_38 hF
    · have hF := hF.2 z1
      refine j_iload_n hJ dX10_isHeir_12 rfl 2 rfl ?_
      refine j_iconst hJ dX10_isHeir_13 ?_
      refine j_icmp_eq hJ 37 gx3 rk_m1 dX10_isHeir_14 (by decide) (fun z2 => ?_) (fun z2 => ?_)
      · have hF := hF.1 z2
        refine j_iconst hJ dX10_isHeir_37 ?_
        exact j_zret hJ rfl (by decide) dX10_isHeir_38 hF
      · have hF := hF.2 z2
        refine j_iload_n hJ dX10_isHeir_17 rfl 2 rfl ?_
        refine j_iload_n hJ dX10_isHeir_18 rfl 1 rfl ?_
        refine j_icmp_ne hJ 24 gx3 gx2 dX10_isHeir_19 (by decide) (fun z3 => ?_) (fun z3 => ?_)
        · have hF := hF.1 z3
          refine j_aload_n hJ dX10_isHeir_24 rfl 0 rfl ?_
          refine j_gr (e := 11) hJ kC_8 fC_13_3 fl_X10_19 dX10_isHeir_25 rfl ?_
          refine j_iload_n hJ dX10_isHeir_28 rfl 2 rfl ?_
          refine j_iald hJ gx3 kC_11 hF.1 hF.2.1 dX10_isHeir_29 (fun v4 ev4 gv4 => ?_)
          have hF := hF.2.2 v4 ev4 gv4
          refine j_istore_n (lv' := [(3, .int (Ii v4)), (0, .ref (ad 8)), (2, .int (Ii x2)), (4, .int (Ii x4))]) hJ dX10_isHeir_30 rfl (by decide) rfl ?_
          refine j_iinc (lv' := [(4, .int (Ii (x4 + 1))), (3, .int (Ii v4)), (0, .ref (ad 8)), (2, .int (Ii x2))]) (k := 3) hJ dX10_isHeir_31 rfl (by decide) rfl ?_
          have g5 := hF.1; have hF := hF.2
          refine j_goto hJ 5 dX10_isHeir_34 (by decide) ?_
          exact j_sub hJ [2, 3, 1, 0] rfl (ih x2 v4 (x4 + 1) _ gx2 gv4 g5 hF)
        · have hF := hF.2 z3
          refine j_iconst hJ dX10_isHeir_22 ?_
          exact j_zret hJ rfl (by decide) dX10_isHeir_23 hF
  intro x2 x3 x4 M gx2 gx3 gx4 hF
  obtain ⟨n, hF⟩ := hF
  exact H9 n x2 x3 x4 M gx2 gx3 gx4 hF
set_option maxHeartbeats 4000000 in
set_option maxRecDepth 100000 in
theorem c_X10_isHeir {l : Launch} {D : va_G} {cy : Nat → ClassId} {ad : Nat → Nat} (hin : jIn ad ksC.length) : jCN l D vwCl (tyC cy) cy ad ftC ksC (XtC ad) yX10_isHeir (.code yX10_isHeir cX10_isHeir 5 (some .boolean) :: Om) ({ frames := 0, cells := 0, slots := 0, locals := 0 } : Room) 3 (W_X10_isHeir ad) := by
  refine jCN_of (y := yX10_isHeir) (cc := cX10_isHeir) (nL := 5) (rk := 3) (rm := ({ frames := 0, cells := 0, slots := 0, locals := 0 } : Room)) (own := RX10) (tyC_ok cy) hin (XtC_ok ad) Om_good (by decide) rfl ?_
  intro Q av M hF
  obtain ⟨p1, p2, rfl, gp1, gp2, hF⟩ := hF
  refine ⟨Nat.le_of_ble_eq_true rfl, fun J hJ => ?_⟩
  show J 0 [(0, .ref (ad 8)), (1, .int (Ii p1)), (2, .int (Ii p2))] [] M
  unfold w_X10_isHeir at hF
  refine j_iload_n hJ dX10_isHeir_0 rfl 1 rfl ?_
  refine j_istore_n (lv' := [(3, .int (Ii p1)), (0, .ref (ad 8)), (1, .int (Ii p1)), (2, .int (Ii p2))]) hJ dX10_isHeir_1 rfl (by decide) rfl ?_
  refine j_iconst hJ dX10_isHeir_2 ?_
  refine j_istore (lv' := [(4, .int (Ii 0)), (3, .int (Ii p1)), (0, .ref (ad 8)), (1, .int (Ii p1)), (2, .int (Ii p2))]) hJ dX10_isHeir_3 (by decide) rfl ?_
  exact j_sub hJ [2, 4, 1, 0] rfl (k_X10_isHeir_b5 hin  hJ  p2 p1 0 _ gp2 gp1 rk_0 hF)
def W_X10_fits (ad : Nat → Nat) (Q : Int → MM → Prop) (av : List Value) (M : MM) : Prop := ∃ (p1 : Int) (p2 : Int), av = [.ref (ad 8), .int (Ii p1), .int (Ii p2)] ∧ ri_ p1 ∧ ri_ p2 ∧ w_X10_fits  Q p1 p2 M
set_option maxHeartbeats 4000000 in
set_option maxRecDepth 100000 in
theorem c_X10_fits {l : Launch} {D : va_G} {cy : Nat → ClassId} {ad : Nat → Nat} (hin : jIn ad ksC.length) : jCN l D vwCl (tyC cy) cy ad ftC ksC (XtC ad) yX10_fits (.code yX10_fits cX10_fits 3 (some .boolean) :: Om) ({ frames := 1, cells := 0, slots := 0, locals := 24 } : Room) 3 (W_X10_fits ad) := by
  refine jCN_of (y := yX10_fits) (cc := cX10_fits) (nL := 3) (rk := 3) (rm := ({ frames := 1, cells := 0, slots := 0, locals := 24 } : Room)) (own := RX10) (tyC_ok cy) hin (XtC_ok ad) Om_good (by decide) rfl ?_
  intro Q av M hF
  obtain ⟨p1, p2, rfl, gp1, gp2, hF⟩ := hF
  refine ⟨Nat.le_of_ble_eq_true rfl, fun J hJ => ?_⟩
  show J 0 [(0, .ref (ad 8)), (1, .int (Ii p1)), (2, .int (Ii p2))] [] M
  unfold w_X10_fits at hF
  refine j_iload_n hJ dX10_fits_0 rfl 2 rfl ?_
  refine j_iconst hJ dX10_fits_1 ?_
  refine j_icmp_eq hJ 10 gp2 rk_m1 dX10_fits_2 (by decide) (fun z1 => ?_) (fun z1 => ?_)
  · have hF := hF.1 z1
    refine j_iconst hJ dX10_fits_10 ?_
    exact j_zret hJ rfl (by decide) dX10_fits_11 hF
  · have hF := hF.2 z1
    refine j_iload_n hJ dX10_fits_5 rfl 2 rfl ?_
    refine j_iload_n hJ dX10_fits_6 rfl 1 rfl ?_
    refine j_icmp_ne hJ 12 gp2 gp1 dX10_fits_7 (by decide) (fun z2 => ?_) (fun z2 => ?_)
    · have hF := hF.1 z2
      refine j_iload_n hJ dX10_fits_12 rfl 1 rfl ?_
      refine j_callSz hJ (c_X10_isArray (l := l) (D := D) (cy := cy) (ad := ad) hin) rfl om_39 ⟨rfl, rfl, Nat.le_of_ble_eq_true rfl, Nat.le_of_ble_eq_true rfl⟩ [.int (Ii p1)] mv_X10_86 hd_X10_isArray rfl (Nat.le_of_ble_eq_true rfl) dX10_fits_13 ⟨p1, rfl, gp1, hF⟩ (fun r3 M4 gr3 qM4 => ?_)
      have hF := qM4 gr3
      refine j_if_ne hJ 41 (jz_ri gr3) dX10_fits_16 (by decide) (fun z5 => ?_) (fun z5 => ?_)
      · have hF := hF.1 z5
        refine j_iload_n hJ dX10_fits_41 rfl 1 rfl ?_
        refine j_bipush hJ dX10_fits_42 (by decide) ?_
        refine j_icmp_ge hJ 49 gp1 rk_30 dX10_fits_44 (by decide) (fun z6 => ?_) (fun z6 => ?_)
        · have hF := hF.1 z6
          refine j_iload_n hJ dX10_fits_49 rfl 2 rfl ?_
          refine j_bipush hJ dX10_fits_50 (by decide) ?_
          refine j_icmp_eq hJ 76 gp2 rk_29 dX10_fits_52 (by decide) (fun z7 => ?_) (fun z7 => ?_)
          · have hF := hF.1 z7
            refine j_iconst hJ dX10_fits_76 ?_
            refine j_goto hJ 81 dX10_fits_77 (by decide) ?_
            exact j_zret hJ rfl (by decide) dX10_fits_81 hF
          · have hF := hF.2 z7
            refine j_iload_n hJ dX10_fits_55 rfl 2 rfl ?_
            refine j_bipush hJ dX10_fits_56 (by decide) ?_
            refine j_icmp_lt hJ 80 gp2 rk_30 dX10_fits_58 (by decide) (fun z8 => ?_) (fun z8 => ?_)
            · have hF := hF.1 z8
              refine j_iconst hJ dX10_fits_80 ?_
              exact j_zret hJ rfl (by decide) dX10_fits_81 hF
            · have hF := hF.2 z8
              refine j_aload_n hJ dX10_fits_61 rfl 0 rfl ?_
              refine j_iload_n hJ dX10_fits_62 rfl 1 rfl ?_
              refine j_bipush hJ dX10_fits_63 (by decide) ?_
              refine j_isub hJ dX10_fits_65 ?_
              have g9 := hF.1; have hF := hF.2
              refine j_iload_n hJ dX10_fits_66 rfl 2 rfl ?_
              refine j_bipush hJ dX10_fits_67 (by decide) ?_
              refine j_isub hJ dX10_fits_69 ?_
              have g10 := hF.1; have hF := hF.2
              refine j_callVz hJ (c_X10_isHeir (l := l) (D := D) (cy := cy) (ad := ad) hin) rfl om_84 ⟨rfl, rfl, Nat.le_of_ble_eq_true rfl, Nat.le_of_ble_eq_true rfl⟩ [.int (Ii (p1 - 30)), .int (Ii (p2 - 30))] mv_X10_92 hd_X10_isHeirv kC_8 rfl rfl rfl (Nat.le_of_ble_eq_true rfl) dX10_fits_70 ⟨(p1 - 30), (p2 - 30), rfl, g9, g10, hF⟩ (fun r11 M12 gr11 qM12 => ?_)
              have hF := qM12 gr11
              refine j_if_eq hJ 80 (jz_ri gr11) dX10_fits_73 (by decide) (fun z13 => ?_) (fun z13 => ?_)
              · have hF := hF.1 z13
                refine j_iconst hJ dX10_fits_80 ?_
                exact j_zret hJ rfl (by decide) dX10_fits_81 hF
              · have hF := hF.2 z13
                refine j_iconst hJ dX10_fits_76 ?_
                refine j_goto hJ 81 dX10_fits_77 (by decide) ?_
                exact j_zret hJ rfl (by decide) dX10_fits_81 hF
        · have hF := hF.2 z6
          refine j_iconst hJ dX10_fits_47 ?_
          exact j_zret hJ rfl (by decide) dX10_fits_48 hF
      · have hF := hF.2 z5
        refine j_iload_n hJ dX10_fits_19 rfl 2 rfl ?_
        refine j_callSz hJ (c_X10_isArray (l := l) (D := D) (cy := cy) (ad := ad) hin) rfl om_39 ⟨rfl, rfl, Nat.le_of_ble_eq_true rfl, Nat.le_of_ble_eq_true rfl⟩ [.int (Ii p2)] mv_X10_86 hd_X10_isArray rfl (Nat.le_of_ble_eq_true rfl) dX10_fits_20 ⟨p2, rfl, gp2, hF⟩ (fun r14 M15 gr14 qM15 => ?_)
        have hF := qM15 gr14
        refine j_if_ne hJ 39 (jz_ri gr14) dX10_fits_23 (by decide) (fun z16 => ?_) (fun z16 => ?_)
        · have hF := hF.1 z16
          refine j_iconst hJ dX10_fits_39 ?_
          exact j_zret hJ rfl (by decide) dX10_fits_40 hF
        · have hF := hF.2 z16
          refine j_aload_n hJ dX10_fits_26 rfl 0 rfl ?_
          refine j_iload_n hJ dX10_fits_27 rfl 1 rfl ?_
          refine j_iload_n hJ dX10_fits_28 rfl 2 rfl ?_
          refine j_callVz hJ (c_X10_isHeir (l := l) (D := D) (cy := cy) (ad := ad) hin) rfl om_84 ⟨rfl, rfl, Nat.le_of_ble_eq_true rfl, Nat.le_of_ble_eq_true rfl⟩ [.int (Ii p1), .int (Ii p2)] mv_X10_92 hd_X10_isHeirv kC_8 rfl rfl rfl (Nat.le_of_ble_eq_true rfl) dX10_fits_29 ⟨p1, p2, rfl, gp1, gp2, hF⟩ (fun r17 M18 gr17 qM18 => ?_)
          have hF := qM18 gr17
          refine j_if_eq hJ 39 (jz_ri gr17) dX10_fits_32 (by decide) (fun z19 => ?_) (fun z19 => ?_)
          · have hF := hF.1 z19
            refine j_iconst hJ dX10_fits_39 ?_
            exact j_zret hJ rfl (by decide) dX10_fits_40 hF
          · have hF := hF.2 z19
            refine j_iconst hJ dX10_fits_35 ?_
            refine j_goto hJ 40 dX10_fits_36 (by decide) ?_
            exact j_zret hJ rfl (by decide) dX10_fits_40 hF
    · have hF := hF.2 z2
      refine j_iconst hJ dX10_fits_10 ?_
      exact j_zret hJ rfl (by decide) dX10_fits_11 hF
def W_X0_checkLinks (ad : Nat → Nat) (Q : Int → MM → Prop) (av : List Value) (M : MM) : Prop := ∃ (p1 : Nat), av = [.ref (ad 280), .ref (ad p1)] ∧ isP p1 ∧ w_X0_checkLinks p1 Q  M
set_option maxHeartbeats 4000000 in
set_option maxRecDepth 100000 in
theorem k_X0_checkLinks_b118 {l : Launch} {D : va_G} {cy : Nat → ClassId} {ad : Nat → Nat} {Q : Int → MM → Prop} {J : Nat → List (Nat × Value) → List Value → MM → Prop} (hin : jIn ad ksC.length) {p1 : Nat} (hp1 : isP p1) (hJ : jOk l D vwCl (tyC cy) cy ad ftC ksC (XtC ad) Om RX0 cX0_checkLinks 5 3 ({ frames := 2, cells := 0, slots := 0, locals := 46 } : Room) Q J) {K2 : Int → MM → Prop} (hK2 : ∀ (x2 : Int) (M : MM), ri_ x2 → K2 x2 M → J 2 [(0, .ref (ad 280)), (1, .ref (ad p1)), (2, .int (Ii x2))] [] M) {K17 : Int → Int → MM → Prop} (hK17 : ∀ (x2 x3 : Int) (M : MM), ri_ x2 → ri_ x3 → K17 x2 x3 M → J 17 [(0, .ref (ad 280)), (1, .ref (ad p1)), (2, .int (Ii x2)), (3, .int (Ii x3))] [] M) : ∀ (x2 x3 : Int) (M : MM), ri_ x2 → ri_ x3 → w_X0_checkLinks_b118 p1 Q K2 K17 x2 x3 M → J 118 [(0, .ref (ad 280)), (1, .ref (ad p1)), (2, .int (Ii x2)), (3, .int (Ii x3))] [] M := by
  intro x2 x3 M gx2 gx3 hF
  unfold w_X0_checkLinks_b118 at hF
  refine j_iinc (lv' := [(3, .int (Ii (x3 + 1))), (0, .ref (ad 280)), (1, .ref (ad p1)), (2, .int (Ii x2))]) (k := 3) hJ dX0_checkLinks_118 rfl (by decide) rfl ?_
  have g1 := hF.1; have hF := hF.2
  refine j_goto hJ 17 dX0_checkLinks_121 (by decide) ?_
  exact j_sub hJ [1, 2, 3, 0] rfl (hK17 x2 (x3 + 1) _ gx2 g1 hF)
set_option maxHeartbeats 4000000 in
set_option maxRecDepth 100000 in
theorem k_X0_checkLinks_b56 {l : Launch} {D : va_G} {cy : Nat → ClassId} {ad : Nat → Nat} {Q : Int → MM → Prop} {J : Nat → List (Nat × Value) → List Value → MM → Prop} (hin : jIn ad ksC.length) {p1 : Nat} (hp1 : isP p1) (hJ : jOk l D vwCl (tyC cy) cy ad ftC ksC (XtC ad) Om RX0 cX0_checkLinks 5 3 ({ frames := 2, cells := 0, slots := 0, locals := 46 } : Room) Q J) {K2 : Int → MM → Prop} (hK2 : ∀ (x2 : Int) (M : MM), ri_ x2 → K2 x2 M → J 2 [(0, .ref (ad 280)), (1, .ref (ad p1)), (2, .int (Ii x2))] [] M) {K17 : Int → Int → MM → Prop} (hK17 : ∀ (x2 x3 : Int) (M : MM), ri_ x2 → ri_ x3 → K17 x2 x3 M → J 17 [(0, .ref (ad 280)), (1, .ref (ad p1)), (2, .int (Ii x2)), (3, .int (Ii x3))] [] M) : ∀ (x2 x3 s0 : Int) (M : MM), ri_ x2 → ri_ x3 → ri_ s0 → w_X0_checkLinks_b56 p1 Q K2 K17 x2 x3 s0 M → J 56 [(0, .ref (ad 280)), (1, .ref (ad p1)), (2, .int (Ii x2)), (3, .int (Ii x3))] [.int (Ii s0)] M := by
  intro x2 x3 s0 M gx2 gx3 gs0 hF
  unfold w_X0_checkLinks_b56 at hF
  refine j_istore (lv' := [(4, .int (Ii s0)), (0, .ref (ad 280)), (1, .ref (ad p1)), (2, .int (Ii x2)), (3, .int (Ii x3))]) hJ dX0_checkLinks_56 (by decide) rfl ?_
  refine j_iload hJ dX0_checkLinks_58 0 rfl ?_
  refine j_if_eq hJ 118 gs0 dX0_checkLinks_60 (by decide) (fun z1 => ?_) (fun z1 => ?_)
  · have hF := hF.1 z1
    exact j_sub hJ [1, 2, 3, 4] rfl (k_X0_checkLinks_b118 hin hp1 hJ hK2 hK17 x2 x3 _ gx2 gx3 hF)
  · have hF := hF.2 z1
    refine j_aload_n hJ dX0_checkLinks_63 rfl 1 rfl ?_
    refine j_ga hJ kC_280 fC_3_0 fl_X0_11 dX0_checkLinks_64 ?_
    refine j_aload_n hJ dX0_checkLinks_67 rfl 2 rfl ?_
    refine j_gr (e := (p1 + 2)) hJ (kP_0 hp1) fC_8_2 fl_X0_53 dX0_checkLinks_68 rfl ?_
    refine j_aload_n hJ dX0_checkLinks_71 rfl 2 rfl ?_
    refine j_gr (e := (p1 + 9)) hJ (kP_0 hp1) fC_8_9 fl_X0_62 dX0_checkLinks_72 rfl ?_
    refine j_iload_n hJ dX0_checkLinks_75 rfl 4 rfl ?_
    refine j_lald hJ gx3 (kP_9 hp1) hF.1 hF.2.1 dX0_checkLinks_76 (fun v2 ev2 gv2 => ?_)
    have hF := hF.2.2 v2 ev2 gv2
    refine j_l2i hJ dX0_checkLinks_77 ?_
    have g3 := hF.1; have hF := hF.2
    refine j_iald hJ g3 (kP_2 hp1) hF.1 hF.2.1 dX0_checkLinks_78 (fun v4 ev4 gv4 => ?_)
    have hF := hF.2.2 v4 ev4 gv4
    refine j_aload_n hJ dX0_checkLinks_79 rfl 1 rfl ?_
    refine j_ga hJ kC_280 fC_3_0 fl_X0_11 dX0_checkLinks_80 ?_
    refine j_aload_n hJ dX0_checkLinks_83 rfl 2 rfl ?_
    refine j_gr (e := (p1 + 2)) hJ (kP_0 hp1) fC_8_2 fl_X0_53 dX0_checkLinks_84 rfl ?_
    refine j_iload_n hJ dX0_checkLinks_87 rfl 3 rfl ?_
    refine j_iald hJ gx2 (kP_2 hp1) hF.1 hF.2.1 dX0_checkLinks_88 (fun v5 ev5 gv5 => ?_)
    have hF := hF.2.2 v5 ev5 gv5
    refine j_iload_n hJ dX0_checkLinks_89 rfl 4 rfl ?_
    refine j_aload_n hJ dX0_checkLinks_90 rfl 2 rfl ?_
    refine j_gr (e := (p1 + 4)) hJ (kP_0 hp1) fC_8_4 fl_X0_59 dX0_checkLinks_91 rfl ?_
    refine j_iload_n hJ dX0_checkLinks_94 rfl 3 rfl ?_
    refine j_iald hJ gx2 (kP_4 hp1) hF.1 hF.2.1 dX0_checkLinks_95 (fun v6 ev6 gv6 => ?_)
    have hF := hF.2.2 v6 ev6 gv6
    refine j_isub hJ dX0_checkLinks_96 ?_
    have g7 := hF.1; have hF := hF.2
    refine j_callVi hJ (c_X10_linkAt (l := l) (D := D) (cy := cy) (ad := ad) hin) rfl om_80 ⟨rfl, rfl, Nat.le_of_ble_eq_true rfl, Nat.le_of_ble_eq_true rfl⟩ [.int (Ii v5), .int (Ii (x3 - v6))] mv_X0_183 hd_X10_linkAtv kC_8 rfl rfl rfl (Nat.le_of_ble_eq_true rfl) dX0_checkLinks_97 ⟨v5, (x3 - v6), rfl, gv5, g7, hF⟩ (fun r8 M9 gr8 qM9 => ?_)
    have hF := qM9 gr8
    refine j_callVz hJ (c_X10_fits (l := l) (D := D) (cy := cy) (ad := ad) hin) rfl om_88 ⟨rfl, rfl, Nat.le_of_ble_eq_true rfl, Nat.le_of_ble_eq_true rfl⟩ [.int (Ii v4), .int (Ii r8)] mv_X0_186 hd_X10_fitsv kC_8 rfl rfl rfl (Nat.le_of_ble_eq_true rfl) dX0_checkLinks_100 ⟨v4, r8, rfl, gv4, gr8, hF⟩ (fun r10 M11 gr10 qM11 => ?_)
    have hF := qM11 gr10
    refine j_if_ne hJ 118 (jz_ri gr10) dX0_checkLinks_103 (by decide) (fun z12 => ?_) (fun z12 => ?_)
    · have hF := hF.1 z12
      exact j_sub hJ [1, 2, 3, 4] rfl (k_X0_checkLinks_b118 hin hp1 hJ hK2 hK17 x2 x3 _ gx2 gx3 hF)
    · have hF := hF.2 z12
      refine j_aload_n hJ dX0_checkLinks_106 rfl 1 rfl ?_
      refine j_iconst hJ dX0_checkLinks_107 ?_
      refine j_aload_n hJ dX0_checkLinks_108 rfl 1 rfl ?_
      refine j_gr (e := 284) hJ kC_280 fC_3_12 fl_X0_32 dX0_checkLinks_109 rfl ?_
      refine j_iload_n hJ dX0_checkLinks_112 rfl 4 rfl ?_
      refine j_iald hJ gx3 kC_284 hF.1 hF.2.1 dX0_checkLinks_113 (fun v13 ev13 gv13 => ?_)
      have hF := hF.2.2 v13 ev13 gv13
      refine j_callVz hJ (c_X0_fail (l := l) (D := D) (cy := cy) (ad := ad) hin) rfl om_23 ⟨rfl, rfl, Nat.le_of_ble_eq_true rfl, Nat.le_of_ble_eq_true rfl⟩ [.int (Ii 4), .int (Ii v13)] mv_X0_130 hd_X0_failv kC_280 rfl rfl rfl (Nat.le_of_ble_eq_true rfl) dX0_checkLinks_114 ⟨4, v13, rfl, rk_4, gv13, hF⟩ (fun r14 M15 gr14 qM15 => ?_)
      have hF := qM15 gr14
      exact j_zret hJ rfl gr14 dX0_checkLinks_117 hF
set_option maxHeartbeats 4000000 in
set_option maxRecDepth 100000 in
theorem k_X0_checkLinks_b55 {l : Launch} {D : va_G} {cy : Nat → ClassId} {ad : Nat → Nat} {Q : Int → MM → Prop} {J : Nat → List (Nat × Value) → List Value → MM → Prop} (hin : jIn ad ksC.length) {p1 : Nat} (hp1 : isP p1) (hJ : jOk l D vwCl (tyC cy) cy ad ftC ksC (XtC ad) Om RX0 cX0_checkLinks 5 3 ({ frames := 2, cells := 0, slots := 0, locals := 46 } : Room) Q J) {K2 : Int → MM → Prop} (hK2 : ∀ (x2 : Int) (M : MM), ri_ x2 → K2 x2 M → J 2 [(0, .ref (ad 280)), (1, .ref (ad p1)), (2, .int (Ii x2))] [] M) {K17 : Int → Int → MM → Prop} (hK17 : ∀ (x2 x3 : Int) (M : MM), ri_ x2 → ri_ x3 → K17 x2 x3 M → J 17 [(0, .ref (ad 280)), (1, .ref (ad p1)), (2, .int (Ii x2)), (3, .int (Ii x3))] [] M) : ∀ (x2 x3 : Int) (M : MM), ri_ x2 → ri_ x3 → w_X0_checkLinks_b55 p1 Q K2 K17 x2 x3 M → J 55 [(0, .ref (ad 280)), (1, .ref (ad p1)), (2, .int (Ii x2)), (3, .int (Ii x3))] [] M := by
  intro x2 x3 M gx2 gx3 hF
  unfold w_X0_checkLinks_b55 at hF
  refine j_iconst hJ dX0_checkLinks_55 ?_
  exact j_sub hJ [0, 1, 2, 3] rfl (k_X0_checkLinks_b56 hin hp1 hJ hK2 hK17 x2 x3 0 _ gx2 gx3 rk_0 hF)
set_option maxHeartbeats 4000000 in
set_option maxRecDepth 100000 in
theorem k_X0_checkLinks_b17 {l : Launch} {D : va_G} {cy : Nat → ClassId} {ad : Nat → Nat} {Q : Int → MM → Prop} {J : Nat → List (Nat × Value) → List Value → MM → Prop} (hin : jIn ad ksC.length) {p1 : Nat} (hp1 : isP p1) (hJ : jOk l D vwCl (tyC cy) cy ad ftC ksC (XtC ad) Om RX0 cX0_checkLinks 5 3 ({ frames := 2, cells := 0, slots := 0, locals := 46 } : Room) Q J) {K2 : Int → MM → Prop} (hK2 : ∀ (x2 : Int) (M : MM), ri_ x2 → K2 x2 M → J 2 [(0, .ref (ad 280)), (1, .ref (ad p1)), (2, .int (Ii x2))] [] M) : ∀ (x2 x3 : Int) (M : MM), ri_ x2 → ri_ x3 → w_X0_checkLinks_b17 p1 Q K2 x2 x3 M → J 17 [(0, .ref (ad 280)), (1, .ref (ad p1)), (2, .int (Ii x2)), (3, .int (Ii x3))] [] M := by
  have H9 : ∀ (n : Nat) (x2 x3 : Int) (M : MM), ri_ x2 → ri_ x3 → jit (fun _ _ _ => False) (wb_X0_checkLinks_b17 p1 Q K2) n x2 x3 M → J 17 [(0, .ref (ad 280)), (1, .ref (ad p1)), (2, .int (Ii x2)), (3, .int (Ii x3))] [] M := by
    intro n
    induction n with
    | zero => intro x2 x3 M gx2 gx3 hF; exact False.elim hF
    | succ n ih =>
    intro x2 x3 M gx2 gx3 hF
    have hF : wb_X0_checkLinks_b17 p1 Q K2 (jit (fun _ _ _ => False) (wb_X0_checkLinks_b17 p1 Q K2) n) x2 x3 M := hF
    unfold wb_X0_checkLinks_b17 at hF
    refine j_iload_n hJ dX0_checkLinks_17 rfl 3 rfl ?_
    refine j_aload_n hJ dX0_checkLinks_18 rfl 1 rfl ?_
    refine j_gr (e := (p1 + 4)) hJ (kP_0 hp1) fC_8_4 fl_X0_59 dX0_checkLinks_19 rfl ?_
    refine j_iload_n hJ dX0_checkLinks_22 rfl 2 rfl ?_
    refine j_iconst hJ dX0_checkLinks_23 ?_
    refine j_iadd hJ dX0_checkLinks_24 ?_
    have g1 := hF.1; have hF := hF.2
    refine j_iald hJ g1 (kP_4 hp1) hF.1 hF.2.1 dX0_checkLinks_25 (fun v2 ev2 gv2 => ?_)
    have hF := hF.2.2 v2 ev2 gv2
    refine j_icmp_ge hJ 124 gx3 gv2 dX0_checkLinks_26 (by decide) (fun z3 => ?_) (fun z3 => ?_)
    · have hF := hF.1 z3
      refine j_iinc (lv' := [(2, .int (Ii (x2 + 1))), (0, .ref (ad 280)), (1, .ref (ad p1)), (3, .int (Ii x3))]) (k := 2) hJ dX0_checkLinks_124 rfl (by decide) rfl ?_
      have g4 := hF.1; have hF := hF.2
      refine j_goto hJ 2 dX0_checkLinks_127 (by decide) ?_
      exact j_sub hJ [1, 2, 0] rfl (hK2 (x2 + 1) _ g4 hF)
    · have hF := hF.2 z3
      refine j_aload_n hJ dX0_checkLinks_29 rfl 1 rfl ?_
      refine j_gr (e := (p1 + 10)) hJ (kP_0 hp1) fC_8_10 fl_X0_66 dX0_checkLinks_30 rfl ?_
      refine j_iload_n hJ dX0_checkLinks_33 rfl 3 rfl ?_
      refine j_zald hJ gx3 (kP_10 hp1) hF.1 hF.2.1 dX0_checkLinks_34 (fun v5 ev5 gv5 => ?_)
      have hF := hF.2.2 v5 ev5 gv5
      refine j_if_eq hJ 55 (jz_ri gv5) dX0_checkLinks_35 (by decide) (fun z6 => ?_) (fun z6 => ?_)
      · have hF := hF.1 z6
        exact j_sub hJ [0, 1, 2, 3] rfl (k_X0_checkLinks_b55 hin hp1 hJ hK2 ih x2 x3 _ gx2 gx3 hF)
      · have hF := hF.2 z6
        refine j_aload_n hJ dX0_checkLinks_38 rfl 1 rfl ?_
        refine j_gr (e := (p1 + 9)) hJ (kP_0 hp1) fC_8_9 fl_X0_62 dX0_checkLinks_39 rfl ?_
        refine j_iload_n hJ dX0_checkLinks_42 rfl 3 rfl ?_
        refine j_lald hJ gx3 (kP_9 hp1) hF.1 hF.2.1 dX0_checkLinks_43 (fun v7 ev7 gv7 => ?_)
        have hF := hF.2.2 v7 ev7 gv7
        refine j_ldc2 hJ (-1) om_92 (by decide) dX0_checkLinks_44 ?_
        refine j_lcmp_eq hJ 55 gv7 lk_m1 dX0_checkLinks_47 dX0_checkLinks_48 (by decide) (fun z8 => ?_) (fun z8 => ?_)
        · have hF := hF.1 z8
          exact j_sub hJ [0, 1, 2, 3] rfl (k_X0_checkLinks_b55 hin hp1 hJ hK2 ih x2 x3 _ gx2 gx3 hF)
        · have hF := hF.2 z8
          refine j_iconst hJ dX0_checkLinks_51 ?_
          refine j_goto hJ 56 dX0_checkLinks_52 (by decide) ?_
          exact j_sub hJ [0, 1, 2, 3] rfl (k_X0_checkLinks_b56 hin hp1 hJ hK2 ih x2 x3 1 _ gx2 gx3 rk_1 hF)
  intro x2 x3 M gx2 gx3 hF
  obtain ⟨n, hF⟩ := hF
  exact H9 n x2 x3 M gx2 gx3 hF
set_option maxHeartbeats 4000000 in
set_option maxRecDepth 100000 in
theorem k_X0_checkLinks_b2 {l : Launch} {D : va_G} {cy : Nat → ClassId} {ad : Nat → Nat} {Q : Int → MM → Prop} {J : Nat → List (Nat × Value) → List Value → MM → Prop} (hin : jIn ad ksC.length) {p1 : Nat} (hp1 : isP p1) (hJ : jOk l D vwCl (tyC cy) cy ad ftC ksC (XtC ad) Om RX0 cX0_checkLinks 5 3 ({ frames := 2, cells := 0, slots := 0, locals := 46 } : Room) Q J)  : ∀ (x2 : Int) (M : MM), ri_ x2 → w_X0_checkLinks_b2 p1 Q  x2 M → J 2 [(0, .ref (ad 280)), (1, .ref (ad p1)), (2, .int (Ii x2))] [] M := by
  have H9 : ∀ (n : Nat) (x2 : Int) (M : MM), ri_ x2 → jit (fun _ _ => False) (wb_X0_checkLinks_b2 p1 Q ) n x2 M → J 2 [(0, .ref (ad 280)), (1, .ref (ad p1)), (2, .int (Ii x2))] [] M := by
    intro n
    induction n with
    | zero => intro x2 M gx2 hF; exact False.elim hF
    | succ n ih =>
    intro x2 M gx2 hF
    have hF : wb_X0_checkLinks_b2 p1 Q  (jit (fun _ _ => False) (wb_X0_checkLinks_b2 p1 Q ) n) x2 M := hF
    unfold wb_X0_checkLinks_b2 at hF
    refine j_iload_n hJ dX0_checkLinks_2 rfl 2 rfl ?_
    refine j_aload_n hJ dX0_checkLinks_3 rfl 1 rfl ?_
    refine j_gi hJ (kP_0 hp1) fC_8_0 rfl fl_X0_43 dX0_checkLinks_4 (fun v1 ev1 gv1 => ?_)
    have hF := hF v1 ev1 gv1
    refine j_icmp_ge hJ 130 gx2 gv1 dX0_checkLinks_7 (by decide) (fun z2 => ?_) (fun z2 => ?_)
    · have hF := hF.1 z2
      refine j_iconst hJ dX0_checkLinks_130 ?_
      exact j_zret hJ rfl (by decide) dX0_checkLinks_131 hF
    · have hF := hF.2 z2
      refine j_aload_n hJ dX0_checkLinks_10 rfl 1 rfl ?_
      refine j_gr (e := (p1 + 4)) hJ (kP_0 hp1) fC_8_4 fl_X0_59 dX0_checkLinks_11 rfl ?_
      refine j_iload_n hJ dX0_checkLinks_14 rfl 2 rfl ?_
      refine j_iald hJ gx2 (kP_4 hp1) hF.1 hF.2.1 dX0_checkLinks_15 (fun v3 ev3 gv3 => ?_)
      have hF := hF.2.2 v3 ev3 gv3
      refine j_istore_n (lv' := [(3, .int (Ii v3)), (0, .ref (ad 280)), (1, .ref (ad p1)), (2, .int (Ii x2))]) hJ dX0_checkLinks_16 rfl (by decide) rfl ?_
      exact j_sub hJ [1, 2, 3, 0] rfl (k_X0_checkLinks_b17 hin hp1 hJ ih x2 v3 _ gx2 gv3 hF)
  intro x2 M gx2 hF
  obtain ⟨n, hF⟩ := hF
  exact H9 n x2 M gx2 hF
set_option maxHeartbeats 4000000 in
set_option maxRecDepth 100000 in
theorem c_X0_checkLinks {l : Launch} {D : va_G} {cy : Nat → ClassId} {ad : Nat → Nat} (hin : jIn ad ksC.length) : jCN l D vwCl (tyC cy) cy ad ftC ksC (XtC ad) yX0_checkLinks (.code yX0_checkLinks cX0_checkLinks 5 (some .boolean) :: Om) ({ frames := 2, cells := 0, slots := 0, locals := 46 } : Room) 3 (W_X0_checkLinks ad) := by
  refine jCN_of (y := yX0_checkLinks) (cc := cX0_checkLinks) (nL := 5) (rk := 3) (rm := ({ frames := 2, cells := 0, slots := 0, locals := 46 } : Room)) (own := RX0) (tyC_ok cy) hin (XtC_ok ad) Om_good (by decide) rfl ?_
  intro Q av M hF
  obtain ⟨p1, rfl, hp1, hF⟩ := hF
  refine ⟨Nat.le_of_ble_eq_true rfl, fun J hJ => ?_⟩
  show J 0 [(0, .ref (ad 280)), (1, .ref (ad p1))] [] M
  unfold w_X0_checkLinks at hF
  refine j_iconst hJ dX0_checkLinks_0 ?_
  refine j_istore_n (lv' := [(2, .int (Ii 0)), (0, .ref (ad 280)), (1, .ref (ad p1))]) hJ dX0_checkLinks_1 rfl (by decide) rfl ?_
  exact j_sub hJ [1, 2, 0] rfl (k_X0_checkLinks_b2 hin hp1 hJ  0 _ rk_0 hF)
def W_X5_addRoot (ad : Nat → Nat) (Q : Int → MM → Prop) (av : List Value) (M : MM) : Prop := ∃ (c : Nat) (p1 : Int) (p2 : Int), av = [.ref (ad c), .int (Ii p1), .int (Ii p2)] ∧ isP c ∧ ri_ p1 ∧ ri_ p2 ∧ w_X5_addRoot c Q p1 p2 M
set_option maxHeartbeats 4000000 in
set_option maxRecDepth 100000 in
theorem c_X5_addRoot {l : Launch} {D : va_G} {cy : Nat → ClassId} {ad : Nat → Nat} (hin : jIn ad ksC.length) : jCN l D vwCl (tyC cy) cy ad ftC ksC (XtC ad) yX5_addRoot (.code yX5_addRoot cX5_addRoot 3 none :: Om) ({ frames := 0, cells := 0, slots := 0, locals := 0 } : Room) 0 (W_X5_addRoot ad) := by
  refine jCN_of (y := yX5_addRoot) (cc := cX5_addRoot) (nL := 3) (rk := 0) (rm := ({ frames := 0, cells := 0, slots := 0, locals := 0 } : Room)) (own := RX5) (tyC_ok cy) hin (XtC_ok ad) Om_good (by decide) rfl ?_
  intro Q av M hF
  obtain ⟨c, p1, p2, rfl, hc, gp1, gp2, hF⟩ := hF
  refine ⟨Nat.le_of_ble_eq_true rfl, fun J hJ => ?_⟩
  show J 0 [(0, .ref (ad c)), (1, .int (Ii p1)), (2, .int (Ii p2))] [] M
  unfold w_X5_addRoot at hF
  refine j_aload_n hJ dX5_addRoot_0 rfl 0 rfl ?_
  refine j_gr (e := (c + 11)) hJ (kP_0 hc) fC_8_12 fl_X5_52 dX5_addRoot_1 rfl ?_
  refine j_aload_n hJ dX5_addRoot_4 rfl 0 rfl ?_
  refine j_gi hJ (kP_0 hc) fC_8_11 rfl fl_X5_86 dX5_addRoot_5 (fun v1 ev1 gv1 => ?_)
  have hF := hF v1 ev1 gv1
  refine j_iload_n hJ dX5_addRoot_8 rfl 1 rfl ?_
  refine j_iast hJ gv1 gp1 (kP_11 hc) hF.1 hF.2.1 dX5_addRoot_9 (fun M2 eM2 => ?_)
  have hF := hF.2.2 M2 eM2
  refine j_aload_n hJ dX5_addRoot_10 rfl 0 rfl ?_
  refine j_gr (e := (c + 12)) hJ (kP_0 hc) fC_8_13 fl_X5_55 dX5_addRoot_11 rfl ?_
  refine j_aload_n hJ dX5_addRoot_14 rfl 0 rfl ?_
  refine j_gi hJ (kP_0 hc) fC_8_11 rfl fl_X5_86 dX5_addRoot_15 (fun v3 ev3 gv3 => ?_)
  have hF := hF v3 ev3 gv3
  refine j_iload_n hJ dX5_addRoot_18 rfl 2 rfl ?_
  refine j_iast hJ gv3 gp2 (kP_12 hc) hF.1 hF.2.1 dX5_addRoot_19 (fun M4 eM4 => ?_)
  have hF := hF.2.2 M4 eM4
  refine j_aload_n hJ dX5_addRoot_20 rfl 0 rfl ?_
  refine j_dup hJ dX5_addRoot_21 rfl ?_
  refine j_gi hJ (kP_0 hc) fC_8_11 rfl fl_X5_86 dX5_addRoot_22 (fun v5 ev5 gv5 => ?_)
  have hF := hF v5 ev5 gv5
  refine j_iconst hJ dX5_addRoot_25 ?_
  refine j_iadd hJ dX5_addRoot_26 ?_
  have g6 := hF.1; have hF := hF.2
  refine j_pi hJ g6 (kP_0 hc) fC_8_11 rfl fp_X5_86 dX5_addRoot_27 (fun M7 eM7 => ?_)
  have hF := hF M7 eM7
  exact j_vret hJ rfl dX5_addRoot_30 hF
