def W_X12_fault (ad : Nat → Nat) (Q : Int → MM → Prop) (av : List Value) (M : MM) : Prop := ∃ (p1 : Int), av = [.ref (ad 0), .int (Ii p1)] ∧ ri_ p1 ∧ w_X12_fault  Q p1 M
set_option maxHeartbeats 4000000 in
set_option maxRecDepth 100000 in
theorem c_X12_fault {l : Launch} {D : va_G} {cy : Nat → ClassId} {ad : Nat → Nat} (hin : jIn ad ksR.length) : jCN l D vwCl (tyR cy) cy ad ftR ksR (XtR ad) yX12_fault (.code yX12_fault cX12_fault 2 (some .int) :: Om) ({ frames := 0, cells := 0, slots := 0, locals := 0 } : Room) 1 (W_X12_fault ad) := by
  refine jCN_of (y := yX12_fault) (cc := cX12_fault) (nL := 2) (rk := 1) (rm := ({ frames := 0, cells := 0, slots := 0, locals := 0 } : Room)) (own := RX12) (tyR_ok cy) hin (XtR_ok ad) Om_good (by decide) rfl ?_
  intro Q av M hF
  obtain ⟨p1, rfl, gp1, hF⟩ := hF
  refine ⟨Nat.le_of_ble_eq_true rfl, fun J hJ => ?_⟩
  show J 0 [(0, .ref (ad 0)), (1, .int (Ii p1))] [] M
  unfold w_X12_fault at hF
  refine j_aload_n hJ dX12_fault_0 rfl 0 rfl ?_
  refine j_iconst hJ dX12_fault_1 ?_
  refine j_pi hJ rk_0 kR_0 fR_15_0 rfl fp_X12_388 dX12_fault_2 (fun M1 eM1 => ?_)
  have hF := hF M1 eM1
  refine j_iload_n hJ dX12_fault_5 rfl 1 rfl ?_
  refine j_if_ne hJ 16 gp1 dX12_fault_6 (by decide) (fun z2 => ?_) (fun z2 => ?_)
  · have hF := hF.1 z2
    refine j_iload_n hJ dX12_fault_16 rfl 1 rfl ?_
    refine j_iconst hJ dX12_fault_17 ?_
    refine j_icmp_ne hJ 28 gp1 rk_1 dX12_fault_18 (by decide) (fun z3 => ?_) (fun z3 => ?_)
    · have hF := hF.1 z3
      refine j_iconst hJ dX12_fault_28 ?_
      exact j_iret hJ rfl rk_m1 dX12_fault_29 hF
    · have hF := hF.2 z3
      refine j_aload_n hJ dX12_fault_21 rfl 0 rfl ?_
      refine j_gi hJ kR_0 fR_15_82 rfl fl_X12_268 dX12_fault_22 (fun v4 ev4 gv4 => ?_)
      have hF := hF v4 ev4 gv4
      refine j_goto hJ 29 dX12_fault_25 (by decide) ?_
      exact j_iret hJ rfl gv4 dX12_fault_29 hF
  · have hF := hF.2 z2
    refine j_aload_n hJ dX12_fault_9 rfl 0 rfl ?_
    refine j_gi hJ kR_0 fR_15_81 rfl fl_X12_776 dX12_fault_10 (fun v5 ev5 gv5 => ?_)
    have hF := hF v5 ev5 gv5
    refine j_goto hJ 29 dX12_fault_13 (by decide) ?_
    exact j_iret hJ rfl gv5 dX12_fault_29 hF
def W_X12_putNumber (ad : Nat → Nat) (Q : Int → MM → Prop) (av : List Value) (M : MM) : Prop := ∃ (p1 : Int), av = [.ref (ad 0), .long (Ll p1)] ∧ rl_ p1 ∧ w_X12_putNumber  Q p1 M
set_option maxHeartbeats 4000000 in
set_option maxRecDepth 100000 in
theorem k_X12_putNumber_b52 {l : Launch} {D : va_G} {cy : Nat → ClassId} {ad : Nat → Nat} {Q : Int → MM → Prop} {J : Nat → List (Nat × Value) → List Value → MM → Prop} (hin : jIn ad ksR.length)   (hJ : jOk l D vwCl (tyR cy) cy ad ftR ksR (XtR ad) Om RX12 cX12_putNumber 6 0 ({ frames := 0, cells := 0, slots := 0, locals := 0 } : Room) Q J) {K2 : Int → MM → Prop} (hK2 : ∀ (x3 : Int) (M : MM), rl_ x3 → K2 x3 M → J 2 [(0, .ref (ad 0)), (3, .long (Ll x3))] [] M) : ∀ (x3 : Int) (M : MM), rl_ x3 → w_X12_putNumber_b52  Q K2 x3 M → J 52 [(0, .ref (ad 0)), (3, .long (Ll x3))] [] M := by
  intro x3 M gx3 hF
  unfold w_X12_putNumber_b52 at hF
  refine j_aload_n hJ dX12_putNumber_52 rfl 0 rfl ?_
  refine j_dup hJ dX12_putNumber_53 rfl ?_
  refine j_gi hJ kR_0 fR_15_141 rfl fl_X12_953 dX12_putNumber_54 (fun v1 ev1 gv1 => ?_)
  have hF := hF v1 ev1 gv1
  refine j_iconst hJ dX12_putNumber_57 ?_
  refine j_iadd hJ dX12_putNumber_58 ?_
  have g2 := hF.1; have hF := hF.2
  refine j_pi hJ g2 kR_0 fR_15_141 rfl fp_X12_953 dX12_putNumber_59 (fun M3 eM3 => ?_)
  have hF := hF M3 eM3
  refine j_lload_n hJ dX12_putNumber_62 rfl 1 rfl ?_
  refine j_lconst (x := 0) hJ dX12_putNumber_63 rfl ?_
  refine j_lcmp_ne hJ 2 gx3 lkm_0 dX12_putNumber_64 dX12_putNumber_65 (by decide) (fun z4 => ?_) (fun z4 => ?_)
  · have hF := hF.1 z4
    exact j_sub hJ [0, 1] rfl (hK2 x3 _ gx3 hF)
  · have hF := hF.2 z4
    exact j_vret hJ rfl dX12_putNumber_68 hF
set_option maxHeartbeats 4000000 in
set_option maxRecDepth 100000 in
theorem k_X12_putNumber_b50 {l : Launch} {D : va_G} {cy : Nat → ClassId} {ad : Nat → Nat} {Q : Int → MM → Prop} {J : Nat → List (Nat × Value) → List Value → MM → Prop} (hin : jIn ad ksR.length)   (hJ : jOk l D vwCl (tyR cy) cy ad ftR ksR (XtR ad) Om RX12 cX12_putNumber 6 0 ({ frames := 0, cells := 0, slots := 0, locals := 0 } : Room) Q J) {K2 : Int → MM → Prop} (hK2 : ∀ (x3 : Int) (M : MM), rl_ x3 → K2 x3 M → J 2 [(0, .ref (ad 0)), (3, .long (Ll x3))] [] M) : ∀ (x3 s0 s1 : Int) (M : MM), rl_ x3 → ri_ s0 → ri_ s1 → w_X12_putNumber_b50  Q K2 x3 s0 s1 M → J 50 [(0, .ref (ad 0)), (3, .long (Ll x3))] [.int (Ii s0), .int (Ii s1), .ref (ad 98)] M := by
  intro x3 s0 s1 M gx3 gs0 gs1 hF
  unfold w_X12_putNumber_b50 at hF
  refine j_i2b hJ dX12_putNumber_50 ?_
  refine j_bast hJ gs1 (ji2b_b _) kR_98 hF.1 hF.2.1 dX12_putNumber_51 (fun M1 eM1 => ?_)
  have hF := hF.2.2 M1 eM1
  exact j_sub hJ [0, 1] rfl (k_X12_putNumber_b52 hin  hJ hK2 x3 _ gx3 hF)
set_option maxHeartbeats 4000000 in
set_option maxRecDepth 100000 in
theorem k_X12_putNumber_b2 {l : Launch} {D : va_G} {cy : Nat → ClassId} {ad : Nat → Nat} {Q : Int → MM → Prop} {J : Nat → List (Nat × Value) → List Value → MM → Prop} (hin : jIn ad ksR.length)   (hJ : jOk l D vwCl (tyR cy) cy ad ftR ksR (XtR ad) Om RX12 cX12_putNumber 6 0 ({ frames := 0, cells := 0, slots := 0, locals := 0 } : Room) Q J)  : ∀ (x3 : Int) (M : MM), rl_ x3 → w_X12_putNumber_b2  Q  x3 M → J 2 [(0, .ref (ad 0)), (3, .long (Ll x3))] [] M := by
  have H9 : ∀ (n : Nat) (x3 : Int) (M : MM), rl_ x3 → jit (fun _ _ => False) (wb_X12_putNumber_b2  Q ) n x3 M → J 2 [(0, .ref (ad 0)), (3, .long (Ll x3))] [] M := by
    intro n
    induction n with
    | zero => intro x3 M gx3 hF; exact False.elim hF
    | succ n ih =>
    intro x3 M gx3 hF
    have hF : wb_X12_putNumber_b2  Q  (jit (fun _ _ => False) (wb_X12_putNumber_b2  Q ) n) x3 M := hF
    unfold wb_X12_putNumber_b2 at hF
    refine j_lload_n hJ dX12_putNumber_2 rfl 1 rfl ?_
    refine j_ldc2 hJ 127 om_1536 (by decide) dX12_putNumber_3 ?_
    refine j_land hJ dX12_putNumber_6 ?_
    refine j_l2i hJ dX12_putNumber_7 ?_
    have g1 := hF.1; have hF := hF.2
    refine j_istore (lv' := [(5, .int (Ii (jland x3 127))), (0, .ref (ad 0)), (3, .long (Ll x3))]) hJ dX12_putNumber_8 (by decide) rfl ?_
    refine j_lload_n hJ dX12_putNumber_10 rfl 2 rfl ?_
    refine j_bipush hJ dX12_putNumber_11 (by decide) ?_
    refine j_lushr hJ dX12_putNumber_13 ?_
    refine j_lstore_n (lv' := [(3, .long (Ll (jlushr x3 7))), (5, .int (Ii (jland x3 127))), (0, .ref (ad 0))]) hJ dX12_putNumber_14 rfl (by decide) rfl ?_
    refine j_aload_n hJ dX12_putNumber_15 rfl 2 rfl ?_
    refine j_gi hJ kR_0 fR_15_141 rfl fl_X12_953 dX12_putNumber_16 (fun v2 ev2 gv2 => ?_)
    have hF := hF v2 ev2 gv2
    refine j_sipush hJ dX12_putNumber_19 (by decide) ?_
    refine j_icmp_ge hJ 52 gv2 rk_9000 dX12_putNumber_22 (by decide) (fun z3 => ?_) (fun z3 => ?_)
    · have hF := hF.1 z3
      exact j_sub hJ [2, 0] rfl (k_X12_putNumber_b52 hin  hJ ih (jlushr x3 7) _ (rl_of _) hF)
    · have hF := hF.2 z3
      refine j_aload_n hJ dX12_putNumber_25 rfl 2 rfl ?_
      refine j_gr (e := 98) hJ kR_0 fR_15_139 fl_X12_369 dX12_putNumber_26 rfl ?_
      refine j_aload_n hJ dX12_putNumber_29 rfl 2 rfl ?_
      refine j_gi hJ kR_0 fR_15_141 rfl fl_X12_953 dX12_putNumber_30 (fun v4 ev4 gv4 => ?_)
      have hF := hF v4 ev4 gv4
      refine j_lload_n hJ dX12_putNumber_33 rfl 0 rfl ?_
      refine j_lconst (x := 0) hJ dX12_putNumber_34 rfl ?_
      refine j_lcmp_ne hJ 44 (rl_of _) lkm_0 dX12_putNumber_35 dX12_putNumber_36 (by decide) (fun z5 => ?_) (fun z5 => ?_)
      · have hF := hF.1 z5
        refine j_iload hJ dX12_putNumber_44 1 rfl ?_
        refine j_sipush hJ dX12_putNumber_46 (by decide) ?_
        refine j_iadd hJ dX12_putNumber_49 ?_
        have g6 := hF.1; have hF := hF.2
        exact j_sub hJ [2, 0] rfl (k_X12_putNumber_b50 hin  hJ ih (jlushr x3 7) ((jland x3 127) + 128) v4 _ (rl_of _) g6 gv4 hF)
      · have hF := hF.2 z5
        refine j_iload hJ dX12_putNumber_39 1 rfl ?_
        refine j_goto hJ 50 dX12_putNumber_41 (by decide) ?_
        exact j_sub hJ [2, 0] rfl (k_X12_putNumber_b50 hin  hJ ih (jlushr x3 7) (jland x3 127) v4 _ (rl_of _) g1 gv4 hF)
  intro x3 M gx3 hF
  obtain ⟨n, hF⟩ := hF
  exact H9 n x3 M gx3 hF
set_option maxHeartbeats 4000000 in
set_option maxRecDepth 100000 in
theorem c_X12_putNumber {l : Launch} {D : va_G} {cy : Nat → ClassId} {ad : Nat → Nat} (hin : jIn ad ksR.length) : jCN l D vwCl (tyR cy) cy ad ftR ksR (XtR ad) yX12_putNumber (.code yX12_putNumber cX12_putNumber 6 none :: Om) ({ frames := 0, cells := 0, slots := 0, locals := 0 } : Room) 0 (W_X12_putNumber ad) := by
  refine jCN_of (y := yX12_putNumber) (cc := cX12_putNumber) (nL := 6) (rk := 0) (rm := ({ frames := 0, cells := 0, slots := 0, locals := 0 } : Room)) (own := RX12) (tyR_ok cy) hin (XtR_ok ad) Om_good (by decide) rfl ?_
  intro Q av M hF
  obtain ⟨p1, rfl, gp1, hF⟩ := hF
  refine ⟨Nat.le_of_ble_eq_true rfl, fun J hJ => ?_⟩
  show J 0 [(0, .ref (ad 0)), (1, .long (Ll p1))] [] M
  unfold w_X12_putNumber at hF
  refine j_lload_n hJ dX12_putNumber_0 rfl 1 rfl ?_
  refine j_lstore_n (lv' := [(3, .long (Ll p1)), (0, .ref (ad 0)), (1, .long (Ll p1))]) hJ dX12_putNumber_1 rfl (by decide) rfl ?_
  exact j_sub hJ [1, 0] rfl (k_X12_putNumber_b2 hin  hJ  p1 _ gp1 hF)
def W_X12_check (ad : Nat → Nat) (Q : Int → MM → Prop) (av : List Value) (M : MM) : Prop := ∃ (p1 : Nat) (np1 : Nat) (p2 : Int) (p3 : Int), av = [.ref (ad p1), .int (Ii p2), .int (Ii p3)] ∧ ksR[p1]? = some (3, np1) ∧ np1 < 2147483648 ∧ ri_ p2 ∧ ri_ p3 ∧ w_X12_check p1 np1 Q p2 p3 M
set_option maxHeartbeats 4000000 in
set_option maxRecDepth 100000 in
theorem k_X12_check_b5 {l : Launch} {D : va_G} {cy : Nat → ClassId} {ad : Nat → Nat} {Q : Int → MM → Prop} {J : Nat → List (Nat × Value) → List Value → MM → Prop} (hin : jIn ad ksR.length) {p1 np1 : Nat} (hp1 : ksR[p1]? = some (3, np1)) (lp1 : np1 < 2147483648) (hJ : jOk l D vwCl (tyR cy) cy ad ftR ksR (XtR ad) Om RX12 cX12_check 5 1 ({ frames := 0, cells := 0, slots := 0, locals := 0 } : Room) Q J)  : ∀ (x2 x3 x4 : Int) (M : MM), ri_ x2 → ri_ x3 → ri_ x4 → w_X12_check_b5 p1 np1 Q  x2 x3 x4 M → J 5 [(0, .ref (ad p1)), (2, .int (Ii x2)), (3, .int (Ii x3)), (4, .int (Ii x4))] [] M := by
  have H9 : ∀ (n : Nat) (x2 x3 x4 : Int) (M : MM), ri_ x2 → ri_ x3 → ri_ x4 → jit (fun _ _ _ _ => False) (wb_X12_check_b5 p1 np1 Q ) n x2 x3 x4 M → J 5 [(0, .ref (ad p1)), (2, .int (Ii x2)), (3, .int (Ii x3)), (4, .int (Ii x4))] [] M := by
    intro n
    induction n with
    | zero => intro x2 x3 x4 M gx2 gx3 gx4 hF; exact False.elim hF
    | succ n ih =>
    intro x2 x3 x4 M gx2 gx3 gx4 hF
    have hF : wb_X12_check_b5 p1 np1 Q  (jit (fun _ _ _ _ => False) (wb_X12_check_b5 p1 np1 Q ) n) x2 x3 x4 M := hF
    unfold wb_X12_check_b5 at hF
    refine j_iload hJ dX12_check_5 3 rfl ?_
    refine j_iload_n hJ dX12_check_7 rfl 1 rfl ?_
    refine j_icmp_ge hJ 32 gx4 gx2 dX12_check_8 (by decide) (fun z1 => ?_) (fun z1 => ?_)
    · have hF := hF.1 z1
      refine j_iload_n hJ dX12_check_32 rfl 2 rfl ?_
      exact j_iret hJ rfl gx3 dX12_check_33 hF
    · have hF := hF.2 z1
      refine j_iload_n hJ dX12_check_11 rfl 2 rfl ?_
      refine j_ldcw hJ 16777619 om_1537 (by decide) dX12_check_12 ?_
      refine j_imulw hJ dX12_check_15 ?_
      refine j_aload_n hJ dX12_check_16 rfl 0 rfl ?_
      refine j_iload hJ dX12_check_17 3 rfl ?_
      refine j_bald hJ gx4 hp1 hF.1 hF.2.1 dX12_check_19 (fun v2 ev2 gv2 => ?_)
      have hF := hF.2.2 v2 ev2 gv2
      refine j_sipush hJ dX12_check_20 (by decide) ?_
      refine j_iand hJ dX12_check_23 ?_
      refine j_ixor hJ dX12_check_24 ?_
      refine j_istore_n (lv' := [(3, .int (Ii (jxor (w32 (x3 * 16777619)) (jand v2 255)))), (0, .ref (ad p1)), (2, .int (Ii x2)), (4, .int (Ii x4))]) hJ dX12_check_25 rfl (by decide) rfl ?_
      refine j_iinc (lv' := [(4, .int (Ii (x4 + 1))), (3, .int (Ii (jxor (w32 (x3 * 16777619)) (jand v2 255)))), (0, .ref (ad p1)), (2, .int (Ii x2))]) (k := 3) hJ dX12_check_26 rfl (by decide) rfl ?_
      have g3 := hF.1; have hF := hF.2
      refine j_goto hJ 5 dX12_check_29 (by decide) ?_
      exact j_sub hJ [2, 3, 1, 0] rfl (ih x2 (jxor (w32 (x3 * 16777619)) (jand v2 255)) (x4 + 1) _ gx2 (ri_of _) g3 hF)
  intro x2 x3 x4 M gx2 gx3 gx4 hF
  obtain ⟨n, hF⟩ := hF
  exact H9 n x2 x3 x4 M gx2 gx3 gx4 hF
set_option maxHeartbeats 4000000 in
set_option maxRecDepth 100000 in
theorem c_X12_check {l : Launch} {D : va_G} {cy : Nat → ClassId} {ad : Nat → Nat} (hin : jIn ad ksR.length) : jCN l D vwCl (tyR cy) cy ad ftR ksR (XtR ad) yX12_check (.code yX12_check cX12_check 5 (some .int) :: Om) ({ frames := 0, cells := 0, slots := 0, locals := 0 } : Room) 1 (W_X12_check ad) := by
  refine jCN_of (y := yX12_check) (cc := cX12_check) (nL := 5) (rk := 1) (rm := ({ frames := 0, cells := 0, slots := 0, locals := 0 } : Room)) (own := RX12) (tyR_ok cy) hin (XtR_ok ad) Om_good (by decide) rfl ?_
  intro Q av M hF
  obtain ⟨p1, np1, p2, p3, rfl, hp1, lp1, gp2, gp3, hF⟩ := hF
  refine ⟨Nat.le_of_ble_eq_true rfl, fun J hJ => ?_⟩
  show J 0 [(0, .ref (ad p1)), (1, .int (Ii p2)), (2, .int (Ii p3))] [] M
  unfold w_X12_check at hF
  refine j_iconst hJ dX12_check_0 ?_
  refine j_istore_n (lv' := [(3, .int (Ii 1)), (0, .ref (ad p1)), (1, .int (Ii p2)), (2, .int (Ii p3))]) hJ dX12_check_1 rfl (by decide) rfl ?_
  refine j_iload_n hJ dX12_check_2 rfl 2 rfl ?_
  refine j_istore (lv' := [(4, .int (Ii p2)), (3, .int (Ii 1)), (0, .ref (ad p1)), (1, .int (Ii p2)), (2, .int (Ii p3))]) hJ dX12_check_3 (by decide) rfl ?_
  exact j_sub hJ [2, 4, 1, 0] rfl (k_X12_check_b5 hin hp1 lp1 hJ  p3 1 p2 _ gp3 rk_1 gp2 hF)
def W_X12_putPicture (ad : Nat → Nat) (Q : Int → MM → Prop) (av : List Value) (M : MM) : Prop := ∃ (p1 : Int), av = [.ref (ad 0), .int (Ii p1)] ∧ ri_ p1 ∧ w_X12_putPicture  Q p1 M
set_option maxHeartbeats 4000000 in
set_option maxRecDepth 100000 in
theorem k_X12_putPicture_b260 {l : Launch} {D : va_G} {cy : Nat → ClassId} {ad : Nat → Nat} {Q : Int → MM → Prop} {J : Nat → List (Nat × Value) → List Value → MM → Prop} (hin : jIn ad ksR.length)   (hJ : jOk l D vwCl (tyR cy) cy ad ftR ksR (XtR ad) Om RX12 cX12_putPicture 6 3 ({ frames := 3, cells := 0, slots := 0, locals := 70 } : Room) Q J)  : ∀ (x2 x3 : Int) (M : MM), ri_ x2 → ri_ x3 → w_X12_putPicture_b260  Q  x2 x3 M → J 260 [(0, .ref (ad 0)), (2, .int (Ii x2)), (3, .int (Ii x3))] [] M := by
  have H9 : ∀ (n : Nat) (x2 x3 : Int) (M : MM), ri_ x2 → ri_ x3 → jit (fun _ _ _ => False) (wb_X12_putPicture_b260  Q ) n x2 x3 M → J 260 [(0, .ref (ad 0)), (2, .int (Ii x2)), (3, .int (Ii x3))] [] M := by
    intro n
    induction n with
    | zero => intro x2 x3 M gx2 gx3 hF; exact False.elim hF
    | succ n ih =>
    intro x2 x3 M gx2 gx3 hF
    have hF : wb_X12_putPicture_b260  Q  (jit (fun _ _ _ => False) (wb_X12_putPicture_b260  Q ) n) x2 x3 M := hF
    unfold wb_X12_putPicture_b260 at hF
    refine j_iload_n hJ dX12_putPicture_260 rfl 2 rfl ?_
    refine j_iconst hJ dX12_putPicture_261 ?_
    refine j_icmp_ge hJ 297 gx3 rk_4 dX12_putPicture_262 (by decide) (fun z1 => ?_) (fun z1 => ?_)
    · have hF := hF.1 z1
      refine j_iconst hJ dX12_putPicture_297 ?_
      exact j_zret hJ rfl (by decide) dX12_putPicture_298 hF
    · have hF := hF.2 z1
      refine j_aload_n hJ dX12_putPicture_265 rfl 0 rfl ?_
      refine j_gr (e := 98) hJ kR_0 fR_15_139 fl_X12_369 dX12_putPicture_266 rfl ?_
      refine j_aload_n hJ dX12_putPicture_269 rfl 0 rfl ?_
      refine j_gi hJ kR_0 fR_15_141 rfl fl_X12_953 dX12_putPicture_270 (fun v2 ev2 gv2 => ?_)
      have hF := hF v2 ev2 gv2
      refine j_iload_n hJ dX12_putPicture_273 rfl 1 rfl ?_
      refine j_bipush hJ dX12_putPicture_274 (by decide) ?_
      refine j_iload_n hJ dX12_putPicture_276 rfl 2 rfl ?_
      refine j_imul hJ dX12_putPicture_277 ?_
      have g3 := hF.1; have hF := hF.2
      refine j_ishr hJ dX12_putPicture_278 ?_
      refine j_i2b hJ dX12_putPicture_279 ?_
      refine j_bast hJ gv2 (ji2b_b _) kR_98 hF.1 hF.2.1 dX12_putPicture_280 (fun M4 eM4 => ?_)
      have hF := hF.2.2 M4 eM4
      refine j_aload_n hJ dX12_putPicture_281 rfl 0 rfl ?_
      refine j_dup hJ dX12_putPicture_282 rfl ?_
      refine j_gi hJ kR_0 fR_15_141 rfl fl_X12_953 dX12_putPicture_283 (fun v5 ev5 gv5 => ?_)
      have hF := hF v5 ev5 gv5
      refine j_iconst hJ dX12_putPicture_286 ?_
      refine j_iadd hJ dX12_putPicture_287 ?_
      have g6 := hF.1; have hF := hF.2
      refine j_pi hJ g6 kR_0 fR_15_141 rfl fp_X12_953 dX12_putPicture_288 (fun M7 eM7 => ?_)
      have hF := hF M7 eM7
      refine j_iinc (lv' := [(3, .int (Ii (x3 + 1))), (0, .ref (ad 0)), (2, .int (Ii x2))]) (k := 2) hJ dX12_putPicture_291 rfl (by decide) rfl ?_
      have g8 := hF.1; have hF := hF.2
      refine j_goto hJ 260 dX12_putPicture_294 (by decide) ?_
      exact j_sub hJ [1, 2, 0] rfl (ih x2 (x3 + 1) _ gx2 g8 hF)
  intro x2 x3 M gx2 gx3 hF
  obtain ⟨n, hF⟩ := hF
  exact H9 n x2 x3 M gx2 gx3 hF
set_option maxHeartbeats 4000000 in
set_option maxRecDepth 100000 in
theorem k_X12_putPicture_b181 {l : Launch} {D : va_G} {cy : Nat → ClassId} {ad : Nat → Nat} {Q : Int → MM → Prop} {J : Nat → List (Nat × Value) → List Value → MM → Prop} (hin : jIn ad ksR.length)   (hJ : jOk l D vwCl (tyR cy) cy ad ftR ksR (XtR ad) Om RX12 cX12_putPicture 6 3 ({ frames := 3, cells := 0, slots := 0, locals := 70 } : Room) Q J)  : ∀ (x1 x2 : Int) (M : MM), ri_ x1 → ri_ x2 → w_X12_putPicture_b181  Q  x1 x2 M → J 181 [(0, .ref (ad 0)), (1, .int (Ii x1)), (2, .int (Ii x2))] [] M := by
  have H9 : ∀ (n : Nat) (x1 x2 : Int) (M : MM), ri_ x1 → ri_ x2 → jit (fun _ _ _ => False) (wb_X12_putPicture_b181  Q ) n x1 x2 M → J 181 [(0, .ref (ad 0)), (1, .int (Ii x1)), (2, .int (Ii x2))] [] M := by
    intro n
    induction n with
    | zero => intro x1 x2 M gx1 gx2 hF; exact False.elim hF
    | succ n ih =>
    intro x1 x2 M gx1 gx2 hF
    have hF : wb_X12_putPicture_b181  Q  (jit (fun _ _ _ => False) (wb_X12_putPicture_b181  Q ) n) x1 x2 M := hF
    unfold wb_X12_putPicture_b181 at hF
    refine j_iload_n hJ dX12_putPicture_181 rfl 2 rfl ?_
    refine j_aload_n hJ dX12_putPicture_182 rfl 0 rfl ?_
    refine j_gr (e := 55) hJ kR_0 fR_15_65 fl_X12_234 dX12_putPicture_183 rfl ?_
    refine j_iload_n hJ dX12_putPicture_186 rfl 1 rfl ?_
    refine j_iald hJ gx1 kR_55 hF.1 hF.2.1 dX12_putPicture_187 (fun v1 ev1 gv1 => ?_)
    have hF := hF.2.2 v1 ev1 gv1
    refine j_icmp_ge hJ 231 gx2 gv1 dX12_putPicture_188 (by decide) (fun z2 => ?_) (fun z2 => ?_)
    · have hF := hF.1 z2
      refine j_aload_n hJ dX12_putPicture_231 rfl 0 rfl ?_
      refine j_gi hJ kR_0 fR_15_141 rfl fl_X12_953 dX12_putPicture_232 (fun v3 ev3 gv3 => ?_)
      have hF := hF v3 ev3 gv3
      refine j_iconst hJ dX12_putPicture_235 ?_
      refine j_iadd hJ dX12_putPicture_236 ?_
      have g4 := hF.1; have hF := hF.2
      refine j_sipush hJ dX12_putPicture_237 (by decide) ?_
      refine j_icmp_le hJ 245 g4 rk_4000 dX12_putPicture_240 (by decide) (fun z5 => ?_) (fun z5 => ?_)
      · have hF := hF.1 z5
        refine j_aload_n hJ dX12_putPicture_245 rfl 0 rfl ?_
        refine j_gr (e := 98) hJ kR_0 fR_15_139 fl_X12_369 dX12_putPicture_246 rfl ?_
        refine j_iconst hJ dX12_putPicture_249 ?_
        refine j_aload_n hJ dX12_putPicture_250 rfl 0 rfl ?_
        refine j_gi hJ kR_0 fR_15_141 rfl fl_X12_953 dX12_putPicture_251 (fun v6 ev6 gv6 => ?_)
        have hF := hF v6 ev6 gv6
        refine j_callSi hJ (c_X12_check (l := l) (D := D) (cy := cy) (ad := ad) hin) rfl om_1544 ⟨rfl, rfl, Nat.le_of_ble_eq_true rfl, Nat.le_of_ble_eq_true rfl⟩ [.ref (ad 98), .int (Ii 0), .int (Ii v6)] mv_X12_968 hd_X12_check rfl (Nat.le_of_ble_eq_true rfl) dX12_putPicture_254 ⟨98, 9000, 0, v6, rfl, kR_98, (by decide), rk_0, gv6, hF⟩ (fun r7 M8 gr7 qM8 => ?_)
        have hF := qM8 gr7
        refine j_istore_n (lv' := [(2, .int (Ii r7)), (0, .ref (ad 0)), (1, .int (Ii x1))]) hJ dX12_putPicture_257 rfl (by decide) rfl ?_
        refine j_iconst hJ dX12_putPicture_258 ?_
        refine j_istore_n (lv' := [(3, .int (Ii 0)), (2, .int (Ii r7)), (0, .ref (ad 0)), (1, .int (Ii x1))]) hJ dX12_putPicture_259 rfl (by decide) rfl ?_
        exact j_sub hJ [2, 1, 0] rfl (k_X12_putPicture_b260 hin  hJ  r7 0 _ gr7 rk_0 hF)
      · have hF := hF.2 z5
        refine j_iconst hJ dX12_putPicture_243 ?_
        exact j_zret hJ rfl (by decide) dX12_putPicture_244 hF
    · have hF := hF.2 z2
      refine j_aload_n hJ dX12_putPicture_191 rfl 0 rfl ?_
      refine j_aload_n hJ dX12_putPicture_192 rfl 0 rfl ?_
      refine j_gr (e := 56) hJ kR_0 fR_15_66 fl_X12_237 dX12_putPicture_193 rfl ?_
      refine j_sipush hJ dX12_putPicture_196 (by decide) ?_
      refine j_iload_n hJ dX12_putPicture_199 rfl 1 rfl ?_
      refine j_imul hJ dX12_putPicture_200 ?_
      have g9 := hF.1; have hF := hF.2
      refine j_iload_n hJ dX12_putPicture_201 rfl 2 rfl ?_
      refine j_iadd hJ dX12_putPicture_202 ?_
      have g10 := hF.1; have hF := hF.2
      refine j_iald hJ g10 kR_56 hF.1 hF.2.1 dX12_putPicture_203 (fun v11 ev11 gv11 => ?_)
      have hF := hF.2.2 v11 ev11 gv11
      refine j_i2l hJ gv11 dX12_putPicture_204 ?_
      refine j_callVv hJ (c_X12_putNumber (l := l) (D := D) (cy := cy) (ad := ad) hin) rfl om_1539 ⟨rfl, rfl, Nat.le_of_ble_eq_true rfl, Nat.le_of_ble_eq_true rfl⟩ [.long (Ll v11)] mv_X12_959 hd_X12_putNumberv kR_0 rfl rfl rfl (Nat.le_of_ble_eq_true rfl) dX12_putPicture_205 ⟨v11, rfl, (rl_ri gv11), hF⟩ (fun M13 qM13 => ?_)
      have hF := qM13
      refine j_aload_n hJ dX12_putPicture_208 rfl 0 rfl ?_
      refine j_aload_n hJ dX12_putPicture_209 rfl 0 rfl ?_
      refine j_gr (e := 57) hJ kR_0 fR_15_67 fl_X12_240 dX12_putPicture_210 rfl ?_
      refine j_sipush hJ dX12_putPicture_213 (by decide) ?_
      refine j_iload_n hJ dX12_putPicture_216 rfl 1 rfl ?_
      refine j_imul hJ dX12_putPicture_217 ?_
      have g14 := hF.1; have hF := hF.2
      refine j_iload_n hJ dX12_putPicture_218 rfl 2 rfl ?_
      refine j_iadd hJ dX12_putPicture_219 ?_
      have g15 := hF.1; have hF := hF.2
      refine j_iald hJ g15 kR_57 hF.1 hF.2.1 dX12_putPicture_220 (fun v16 ev16 gv16 => ?_)
      have hF := hF.2.2 v16 ev16 gv16
      refine j_i2l hJ gv16 dX12_putPicture_221 ?_
      refine j_callVv hJ (c_X12_putNumber (l := l) (D := D) (cy := cy) (ad := ad) hin) rfl om_1539 ⟨rfl, rfl, Nat.le_of_ble_eq_true rfl, Nat.le_of_ble_eq_true rfl⟩ [.long (Ll v16)] mv_X12_959 hd_X12_putNumberv kR_0 rfl rfl rfl (Nat.le_of_ble_eq_true rfl) dX12_putPicture_222 ⟨v16, rfl, (rl_ri gv16), hF⟩ (fun M18 qM18 => ?_)
      have hF := qM18
      refine j_iinc (lv' := [(2, .int (Ii (x2 + 1))), (0, .ref (ad 0)), (1, .int (Ii x1))]) (k := 2) hJ dX12_putPicture_225 rfl (by decide) rfl ?_
      have g19 := hF.1; have hF := hF.2
      refine j_goto hJ 181 dX12_putPicture_228 (by decide) ?_
      exact j_sub hJ [1, 2, 0] rfl (ih x1 (x2 + 1) _ gx1 g19 hF)
  intro x1 x2 M gx1 gx2 hF
  obtain ⟨n, hF⟩ := hF
  exact H9 n x1 x2 M gx1 gx2 hF
set_option maxHeartbeats 4000000 in
set_option maxRecDepth 100000 in
theorem k_X12_putPicture_b153 {l : Launch} {D : va_G} {cy : Nat → ClassId} {ad : Nat → Nat} {Q : Int → MM → Prop} {J : Nat → List (Nat × Value) → List Value → MM → Prop} (hin : jIn ad ksR.length)   (hJ : jOk l D vwCl (tyR cy) cy ad ftR ksR (XtR ad) Om RX12 cX12_putPicture 6 3 ({ frames := 3, cells := 0, slots := 0, locals := 70 } : Room) Q J) {K32 : Int → Int → MM → Prop} (hK32 : ∀ (x1 x2 : Int) (M : MM), ri_ x1 → ri_ x2 → K32 x1 x2 M → J 32 [(0, .ref (ad 0)), (1, .int (Ii x1)), (2, .int (Ii x2))] [] M) {K92 : Int → Int → Int → MM → Prop} (hK92 : ∀ (x1 x2 x3 : Int) (M : MM), ri_ x1 → ri_ x2 → ri_ x3 → K92 x1 x2 x3 M → J 92 [(0, .ref (ad 0)), (1, .int (Ii x1)), (2, .int (Ii x2)), (3, .int (Ii x3))] [] M) : ∀ (x1 x2 x3 s0 : Int) (M : MM), ri_ x1 → ri_ x2 → ri_ x3 → rl_ s0 → w_X12_putPicture_b153  Q K32 K92 x1 x2 x3 s0 M → J 153 [(0, .ref (ad 0)), (1, .int (Ii x1)), (2, .int (Ii x2)), (3, .int (Ii x3))] [.long (Ll s0), .ref (ad 0)] M := by
  intro x1 x2 x3 s0 M gx1 gx2 gx3 gs0 hF
  unfold w_X12_putPicture_b153 at hF
  refine j_callVv hJ (c_X12_putNumber (l := l) (D := D) (cy := cy) (ad := ad) hin) rfl om_1539 ⟨rfl, rfl, Nat.le_of_ble_eq_true rfl, Nat.le_of_ble_eq_true rfl⟩ [.long (Ll s0)] mv_X12_959 hd_X12_putNumberv kR_0 rfl rfl rfl (Nat.le_of_ble_eq_true rfl) dX12_putPicture_153 ⟨s0, rfl, gs0, hF⟩ (fun M2 qM2 => ?_)
  have hF := qM2
  refine j_iinc (lv' := [(3, .int (Ii (x3 + 1))), (0, .ref (ad 0)), (1, .int (Ii x1)), (2, .int (Ii x2))]) (k := 3) hJ dX12_putPicture_156 rfl (by decide) rfl ?_
  have g3 := hF.1; have hF := hF.2
  refine j_goto hJ 92 dX12_putPicture_159 (by decide) ?_
  exact j_sub hJ [1, 2, 3, 0] rfl (hK92 x1 x2 (x3 + 1) _ gx1 gx2 g3 hF)
set_option maxHeartbeats 4000000 in
set_option maxRecDepth 100000 in
theorem k_X12_putPicture_b92 {l : Launch} {D : va_G} {cy : Nat → ClassId} {ad : Nat → Nat} {Q : Int → MM → Prop} {J : Nat → List (Nat × Value) → List Value → MM → Prop} (hin : jIn ad ksR.length)   (hJ : jOk l D vwCl (tyR cy) cy ad ftR ksR (XtR ad) Om RX12 cX12_putPicture 6 3 ({ frames := 3, cells := 0, slots := 0, locals := 70 } : Room) Q J) {K32 : Int → Int → MM → Prop} (hK32 : ∀ (x1 x2 : Int) (M : MM), ri_ x1 → ri_ x2 → K32 x1 x2 M → J 32 [(0, .ref (ad 0)), (1, .int (Ii x1)), (2, .int (Ii x2))] [] M) : ∀ (x1 x2 x3 : Int) (M : MM), ri_ x1 → ri_ x2 → ri_ x3 → w_X12_putPicture_b92  Q K32 x1 x2 x3 M → J 92 [(0, .ref (ad 0)), (1, .int (Ii x1)), (2, .int (Ii x2)), (3, .int (Ii x3))] [] M := by
  have H9 : ∀ (n : Nat) (x1 x2 x3 : Int) (M : MM), ri_ x1 → ri_ x2 → ri_ x3 → jit (fun _ _ _ _ => False) (wb_X12_putPicture_b92  Q K32) n x1 x2 x3 M → J 92 [(0, .ref (ad 0)), (1, .int (Ii x1)), (2, .int (Ii x2)), (3, .int (Ii x3))] [] M := by
    intro n
    induction n with
    | zero => intro x1 x2 x3 M gx1 gx2 gx3 hF; exact False.elim hF
    | succ n ih =>
    intro x1 x2 x3 M gx1 gx2 gx3 hF
    have hF : wb_X12_putPicture_b92  Q K32 (jit (fun _ _ _ _ => False) (wb_X12_putPicture_b92  Q K32) n) x1 x2 x3 M := hF
    unfold wb_X12_putPicture_b92 at hF
    refine j_iload_n hJ dX12_putPicture_92 rfl 3 rfl ?_
    refine j_aload_n hJ dX12_putPicture_93 rfl 0 rfl ?_
    refine j_iload_n hJ dX12_putPicture_94 rfl 1 rfl ?_
    refine j_iload_n hJ dX12_putPicture_95 rfl 2 rfl ?_
    refine j_callVi hJ (c_X12_slotsIn (l := l) (D := D) (cy := cy) (ad := ad) hin) rfl om_1165 ⟨rfl, rfl, Nat.le_of_ble_eq_true rfl, Nat.le_of_ble_eq_true rfl⟩ [.int (Ii x1), .int (Ii x2)] mv_X12_570 hd_X12_slotsInv kR_0 rfl rfl rfl (Nat.le_of_ble_eq_true rfl) dX12_putPicture_96 ⟨x1, x2, rfl, gx1, gx2, hF⟩ (fun r1 M2 gr1 qM2 => ?_)
    have hF := qM2 gr1
    refine j_icmp_ge hJ 162 gx3 gr1 dX12_putPicture_99 (by decide) (fun z3 => ?_) (fun z3 => ?_)
    · have hF := hF.1 z3
      refine j_iinc (lv' := [(2, .int (Ii (x2 + 1))), (0, .ref (ad 0)), (1, .int (Ii x1)), (3, .int (Ii x3))]) (k := 2) hJ dX12_putPicture_162 rfl (by decide) rfl ?_
      have g4 := hF.1; have hF := hF.2
      refine j_goto hJ 32 dX12_putPicture_165 (by decide) ?_
      exact j_sub hJ [1, 2, 0] rfl (hK32 x1 (x2 + 1) _ gx1 g4 hF)
    · have hF := hF.2 z3
      refine j_aload_n hJ dX12_putPicture_102 rfl 0 rfl ?_
      refine j_iload_n hJ dX12_putPicture_103 rfl 1 rfl ?_
      refine j_iload_n hJ dX12_putPicture_104 rfl 2 rfl ?_
      refine j_iload_n hJ dX12_putPicture_105 rfl 3 rfl ?_
      refine j_callVl hJ (c_X12_valueIn (l := l) (D := D) (cy := cy) (ad := ad) hin) rfl om_1173 ⟨rfl, rfl, Nat.le_of_ble_eq_true rfl, Nat.le_of_ble_eq_true rfl⟩ [.int (Ii x1), .int (Ii x2), .int (Ii x3)] mv_X12_577 hd_X12_valueInv kR_0 rfl rfl rfl (Nat.le_of_ble_eq_true rfl) dX12_putPicture_106 ⟨x1, x2, x3, rfl, gx1, gx2, gx3, hF⟩ (fun r5 M6 gr5 qM6 => ?_)
      have hF := qM6 gr5
      refine j_lstore (lv' := [(4, .long (Ll r5)), (0, .ref (ad 0)), (1, .int (Ii x1)), (2, .int (Ii x2)), (3, .int (Ii x3))]) hJ dX12_putPicture_109 (by decide) rfl ?_
      refine j_aload_n hJ dX12_putPicture_111 rfl 1 rfl ?_
      refine j_aload_n hJ dX12_putPicture_112 rfl 1 rfl ?_
      refine j_iload_n hJ dX12_putPicture_113 rfl 2 rfl ?_
      refine j_iload_n hJ dX12_putPicture_114 rfl 3 rfl ?_
      refine j_iload_n hJ dX12_putPicture_115 rfl 4 rfl ?_
      refine j_callVz hJ (c_X12_linksIn (l := l) (D := D) (cy := cy) (ad := ad) hin) rfl om_1169 ⟨rfl, rfl, Nat.le_of_ble_eq_true rfl, Nat.le_of_ble_eq_true rfl⟩ [.int (Ii x1), .int (Ii x2), .int (Ii x3)] mv_X12_573 hd_X12_linksInv kR_0 rfl rfl rfl (Nat.le_of_ble_eq_true rfl) dX12_putPicture_116 ⟨x1, x2, x3, rfl, gx1, gx2, gx3, hF⟩ (fun r7 M8 gr7 qM8 => ?_)
      have hF := qM8 gr7
      refine j_if_eq hJ 129 (jz_ri gr7) dX12_putPicture_119 (by decide) (fun z9 => ?_) (fun z9 => ?_)
      · have hF := hF.1 z9
        refine j_lload hJ dX12_putPicture_129 0 rfl ?_
        refine j_lconst (x := 0) hJ dX12_putPicture_131 rfl ?_
        refine j_lcmp_ge hJ 147 gr5 lkm_0 dX12_putPicture_132 dX12_putPicture_133 (by decide) (fun z10 => ?_) (fun z10 => ?_)
        · have hF := hF.1 z10
          refine j_ldc2 hJ 2 om_1547 (by decide) dX12_putPicture_147 ?_
          refine j_lload hJ dX12_putPicture_150 0 rfl ?_
          refine j_lmulw hJ dX12_putPicture_152 ?_
          exact j_sub hJ [1, 2, 3, 4] rfl (k_X12_putPicture_b153 hin  hJ hK32 ih x1 x2 x3 (w64 (2 * r5)) _ gx1 gx2 gx3 (rl_w _) hF)
        · have hF := hF.2 z10
          refine j_ldc2 hJ (-2) om_1548 (by decide) dX12_putPicture_136 ?_
          refine j_lload hJ dX12_putPicture_139 0 rfl ?_
          refine j_lmulw hJ dX12_putPicture_141 ?_
          refine j_lconst (x := 1) hJ dX12_putPicture_142 rfl ?_
          refine j_lsubw hJ dX12_putPicture_143 ?_
          refine j_goto hJ 153 dX12_putPicture_144 (by decide) ?_
          exact j_sub hJ [1, 2, 3, 4] rfl (k_X12_putPicture_b153 hin  hJ hK32 ih x1 x2 x3 (w64 ((w64 ((-2) * r5)) - 1)) _ gx1 gx2 gx3 (rl_w _) hF)
      · have hF := hF.2 z9
        refine j_lload hJ dX12_putPicture_122 0 rfl ?_
        refine j_lconst (x := 1) hJ dX12_putPicture_124 rfl ?_
        refine j_laddw hJ dX12_putPicture_125 ?_
        refine j_goto hJ 153 dX12_putPicture_126 (by decide) ?_
        exact j_sub hJ [1, 2, 3, 4] rfl (k_X12_putPicture_b153 hin  hJ hK32 ih x1 x2 x3 (w64 (r5 + 1)) _ gx1 gx2 gx3 (rl_w _) hF)
  intro x1 x2 x3 M gx1 gx2 gx3 hF
  obtain ⟨n, hF⟩ := hF
  exact H9 n x1 x2 x3 M gx1 gx2 gx3 hF
set_option maxHeartbeats 4000000 in
set_option maxRecDepth 100000 in
theorem k_X12_putPicture_b32 {l : Launch} {D : va_G} {cy : Nat → ClassId} {ad : Nat → Nat} {Q : Int → MM → Prop} {J : Nat → List (Nat × Value) → List Value → MM → Prop} (hin : jIn ad ksR.length)   (hJ : jOk l D vwCl (tyR cy) cy ad ftR ksR (XtR ad) Om RX12 cX12_putPicture 6 3 ({ frames := 3, cells := 0, slots := 0, locals := 70 } : Room) Q J)  : ∀ (x1 x2 : Int) (M : MM), ri_ x1 → ri_ x2 → w_X12_putPicture_b32  Q  x1 x2 M → J 32 [(0, .ref (ad 0)), (1, .int (Ii x1)), (2, .int (Ii x2))] [] M := by
  have H9 : ∀ (n : Nat) (x1 x2 : Int) (M : MM), ri_ x1 → ri_ x2 → jit (fun _ _ _ => False) (wb_X12_putPicture_b32  Q ) n x1 x2 M → J 32 [(0, .ref (ad 0)), (1, .int (Ii x1)), (2, .int (Ii x2))] [] M := by
    intro n
    induction n with
    | zero => intro x1 x2 M gx1 gx2 hF; exact False.elim hF
    | succ n ih =>
    intro x1 x2 M gx1 gx2 hF
    have hF : wb_X12_putPicture_b32  Q  (jit (fun _ _ _ => False) (wb_X12_putPicture_b32  Q ) n) x1 x2 M := hF
    unfold wb_X12_putPicture_b32 at hF
    refine j_iload_n hJ dX12_putPicture_32 rfl 2 rfl ?_
    refine j_aload_n hJ dX12_putPicture_33 rfl 0 rfl ?_
    refine j_gr (e := 38) hJ kR_0 fR_15_48 fl_X12_183 dX12_putPicture_34 rfl ?_
    refine j_iload_n hJ dX12_putPicture_37 rfl 1 rfl ?_
    refine j_iald hJ gx1 kR_38 hF.1 hF.2.1 dX12_putPicture_38 (fun v1 ev1 gv1 => ?_)
    have hF := hF.2.2 v1 ev1 gv1
    refine j_icmp_ge hJ 168 gx2 gv1 dX12_putPicture_39 (by decide) (fun z2 => ?_) (fun z2 => ?_)
    · have hF := hF.1 z2
      refine j_aload_n hJ dX12_putPicture_168 rfl 0 rfl ?_
      refine j_aload_n hJ dX12_putPicture_169 rfl 0 rfl ?_
      refine j_gr (e := 55) hJ kR_0 fR_15_65 fl_X12_234 dX12_putPicture_170 rfl ?_
      refine j_iload_n hJ dX12_putPicture_173 rfl 1 rfl ?_
      refine j_iald hJ gx1 kR_55 hF.1 hF.2.1 dX12_putPicture_174 (fun v3 ev3 gv3 => ?_)
      have hF := hF.2.2 v3 ev3 gv3
      refine j_i2l hJ gv3 dX12_putPicture_175 ?_
      refine j_callVv hJ (c_X12_putNumber (l := l) (D := D) (cy := cy) (ad := ad) hin) rfl om_1539 ⟨rfl, rfl, Nat.le_of_ble_eq_true rfl, Nat.le_of_ble_eq_true rfl⟩ [.long (Ll v3)] mv_X12_959 hd_X12_putNumberv kR_0 rfl rfl rfl (Nat.le_of_ble_eq_true rfl) dX12_putPicture_176 ⟨v3, rfl, (rl_ri gv3), hF⟩ (fun M5 qM5 => ?_)
      have hF := qM5
      refine j_iconst hJ dX12_putPicture_179 ?_
      refine j_istore_n (lv' := [(2, .int (Ii 0)), (0, .ref (ad 0)), (1, .int (Ii x1))]) hJ dX12_putPicture_180 rfl (by decide) rfl ?_
      exact j_sub hJ [1, 2, 0] rfl (k_X12_putPicture_b181 hin  hJ  x1 0 _ gx1 rk_0 hF)
    · have hF := hF.2 z2
      refine j_aload_n hJ dX12_putPicture_42 rfl 0 rfl ?_
      refine j_aload_n hJ dX12_putPicture_43 rfl 0 rfl ?_
      refine j_gr (e := 39) hJ kR_0 fR_15_49 fl_X12_186 dX12_putPicture_44 rfl ?_
      refine j_aload_n hJ dX12_putPicture_47 rfl 0 rfl ?_
      refine j_iload_n hJ dX12_putPicture_48 rfl 1 rfl ?_
      refine j_iload_n hJ dX12_putPicture_49 rfl 2 rfl ?_
      refine j_callVi hJ (c_X12_at (l := l) (D := D) (cy := cy) (ad := ad) hin) rfl om_1153 ⟨rfl, rfl, Nat.le_of_ble_eq_true rfl, Nat.le_of_ble_eq_true rfl⟩ [.int (Ii x1), .int (Ii x2)] mv_X12_545 hd_X12_atv kR_0 rfl rfl rfl (Nat.le_of_ble_eq_true rfl) dX12_putPicture_50 ⟨x1, x2, rfl, gx1, gx2, hF⟩ (fun r6 M7 gr6 qM7 => ?_)
      have hF := qM7 gr6
      refine j_iald hJ gr6 kR_39 hF.1 hF.2.1 dX12_putPicture_53 (fun v8 ev8 gv8 => ?_)
      have hF := hF.2.2 v8 ev8 gv8
      refine j_i2l hJ gv8 dX12_putPicture_54 ?_
      refine j_callVv hJ (c_X12_putNumber (l := l) (D := D) (cy := cy) (ad := ad) hin) rfl om_1539 ⟨rfl, rfl, Nat.le_of_ble_eq_true rfl, Nat.le_of_ble_eq_true rfl⟩ [.long (Ll v8)] mv_X12_959 hd_X12_putNumberv kR_0 rfl rfl rfl (Nat.le_of_ble_eq_true rfl) dX12_putPicture_55 ⟨v8, rfl, (rl_ri gv8), hF⟩ (fun M10 qM10 => ?_)
      have hF := qM10
      refine j_aload_n hJ dX12_putPicture_58 rfl 0 rfl ?_
      refine j_aload_n hJ dX12_putPicture_59 rfl 0 rfl ?_
      refine j_gr (e := 40) hJ kR_0 fR_15_50 fl_X12_189 dX12_putPicture_60 rfl ?_
      refine j_aload_n hJ dX12_putPicture_63 rfl 0 rfl ?_
      refine j_iload_n hJ dX12_putPicture_64 rfl 1 rfl ?_
      refine j_iload_n hJ dX12_putPicture_65 rfl 2 rfl ?_
      refine j_callVi hJ (c_X12_at (l := l) (D := D) (cy := cy) (ad := ad) hin) rfl om_1153 ⟨rfl, rfl, Nat.le_of_ble_eq_true rfl, Nat.le_of_ble_eq_true rfl⟩ [.int (Ii x1), .int (Ii x2)] mv_X12_545 hd_X12_atv kR_0 rfl rfl rfl (Nat.le_of_ble_eq_true rfl) dX12_putPicture_66 ⟨x1, x2, rfl, gx1, gx2, hF⟩ (fun r11 M12 gr11 qM12 => ?_)
      have hF := qM12 gr11
      refine j_iald hJ gr11 kR_40 hF.1 hF.2.1 dX12_putPicture_69 (fun v13 ev13 gv13 => ?_)
      have hF := hF.2.2 v13 ev13 gv13
      refine j_i2l hJ gv13 dX12_putPicture_70 ?_
      refine j_callVv hJ (c_X12_putNumber (l := l) (D := D) (cy := cy) (ad := ad) hin) rfl om_1539 ⟨rfl, rfl, Nat.le_of_ble_eq_true rfl, Nat.le_of_ble_eq_true rfl⟩ [.long (Ll v13)] mv_X12_959 hd_X12_putNumberv kR_0 rfl rfl rfl (Nat.le_of_ble_eq_true rfl) dX12_putPicture_71 ⟨v13, rfl, (rl_ri gv13), hF⟩ (fun M15 qM15 => ?_)
      have hF := qM15
      refine j_aload_n hJ dX12_putPicture_74 rfl 0 rfl ?_
      refine j_aload_n hJ dX12_putPicture_75 rfl 0 rfl ?_
      refine j_gr (e := 41) hJ kR_0 fR_15_51 fl_X12_192 dX12_putPicture_76 rfl ?_
      refine j_aload_n hJ dX12_putPicture_79 rfl 0 rfl ?_
      refine j_iload_n hJ dX12_putPicture_80 rfl 1 rfl ?_
      refine j_iload_n hJ dX12_putPicture_81 rfl 2 rfl ?_
      refine j_callVi hJ (c_X12_at (l := l) (D := D) (cy := cy) (ad := ad) hin) rfl om_1153 ⟨rfl, rfl, Nat.le_of_ble_eq_true rfl, Nat.le_of_ble_eq_true rfl⟩ [.int (Ii x1), .int (Ii x2)] mv_X12_545 hd_X12_atv kR_0 rfl rfl rfl (Nat.le_of_ble_eq_true rfl) dX12_putPicture_82 ⟨x1, x2, rfl, gx1, gx2, hF⟩ (fun r16 M17 gr16 qM17 => ?_)
      have hF := qM17 gr16
      refine j_iald hJ gr16 kR_41 hF.1 hF.2.1 dX12_putPicture_85 (fun v18 ev18 gv18 => ?_)
      have hF := hF.2.2 v18 ev18 gv18
      refine j_i2l hJ gv18 dX12_putPicture_86 ?_
      refine j_callVv hJ (c_X12_putNumber (l := l) (D := D) (cy := cy) (ad := ad) hin) rfl om_1539 ⟨rfl, rfl, Nat.le_of_ble_eq_true rfl, Nat.le_of_ble_eq_true rfl⟩ [.long (Ll v18)] mv_X12_959 hd_X12_putNumberv kR_0 rfl rfl rfl (Nat.le_of_ble_eq_true rfl) dX12_putPicture_87 ⟨v18, rfl, (rl_ri gv18), hF⟩ (fun M20 qM20 => ?_)
      have hF := qM20
      refine j_iconst hJ dX12_putPicture_90 ?_
      refine j_istore_n (lv' := [(3, .int (Ii 0)), (0, .ref (ad 0)), (1, .int (Ii x1)), (2, .int (Ii x2))]) hJ dX12_putPicture_91 rfl (by decide) rfl ?_
      exact j_sub hJ [1, 2, 3, 0] rfl (k_X12_putPicture_b92 hin  hJ ih x1 x2 0 _ gx1 gx2 rk_0 hF)
  intro x1 x2 M gx1 gx2 hF
  obtain ⟨n, hF⟩ := hF
  exact H9 n x1 x2 M gx1 gx2 hF
set_option maxHeartbeats 4000000 in
set_option maxRecDepth 100000 in
theorem c_X12_putPicture {l : Launch} {D : va_G} {cy : Nat → ClassId} {ad : Nat → Nat} (hin : jIn ad ksR.length) : jCN l D vwCl (tyR cy) cy ad ftR ksR (XtR ad) yX12_putPicture (.code yX12_putPicture cX12_putPicture 6 (some .boolean) :: Om) ({ frames := 3, cells := 0, slots := 0, locals := 70 } : Room) 3 (W_X12_putPicture ad) := by
  refine jCN_of (y := yX12_putPicture) (cc := cX12_putPicture) (nL := 6) (rk := 3) (rm := ({ frames := 3, cells := 0, slots := 0, locals := 70 } : Room)) (own := RX12) (tyR_ok cy) hin (XtR_ok ad) Om_good (by decide) rfl ?_
  intro Q av M hF
  obtain ⟨p1, rfl, gp1, hF⟩ := hF
  refine ⟨Nat.le_of_ble_eq_true rfl, fun J hJ => ?_⟩
  show J 0 [(0, .ref (ad 0)), (1, .int (Ii p1))] [] M
  unfold w_X12_putPicture at hF
  refine j_aload_n hJ dX12_putPicture_0 rfl 0 rfl ?_
  refine j_iconst hJ dX12_putPicture_1 ?_
  refine j_pi hJ rk_0 kR_0 fR_15_141 rfl fp_X12_953 dX12_putPicture_2 (fun M1 eM1 => ?_)
  have hF := hF M1 eM1
  refine j_aload_n hJ dX12_putPicture_5 rfl 0 rfl ?_
  refine j_ldc2 hJ 72 om_1538 (by decide) dX12_putPicture_6 ?_
  refine j_callVv hJ (c_X12_putNumber (l := l) (D := D) (cy := cy) (ad := ad) hin) rfl om_1539 ⟨rfl, rfl, Nat.le_of_ble_eq_true rfl, Nat.le_of_ble_eq_true rfl⟩ [.long (Ll 72)] mv_X12_959 hd_X12_putNumberv kR_0 rfl rfl rfl (Nat.le_of_ble_eq_true rfl) dX12_putPicture_9 ⟨72, rfl, lk_72, hF⟩ (fun M3 qM3 => ?_)
  have hF := qM3
  refine j_aload_n hJ dX12_putPicture_12 rfl 0 rfl ?_
  refine j_ldc2 hJ 80 om_1543 (by decide) dX12_putPicture_13 ?_
  refine j_callVv hJ (c_X12_putNumber (l := l) (D := D) (cy := cy) (ad := ad) hin) rfl om_1539 ⟨rfl, rfl, Nat.le_of_ble_eq_true rfl, Nat.le_of_ble_eq_true rfl⟩ [.long (Ll 80)] mv_X12_959 hd_X12_putNumberv kR_0 rfl rfl rfl (Nat.le_of_ble_eq_true rfl) dX12_putPicture_16 ⟨80, rfl, lk_80, hF⟩ (fun M5 qM5 => ?_)
  have hF := qM5
  refine j_aload_n hJ dX12_putPicture_19 rfl 0 rfl ?_
  refine j_aload_n hJ dX12_putPicture_20 rfl 0 rfl ?_
  refine j_gr (e := 38) hJ kR_0 fR_15_48 fl_X12_183 dX12_putPicture_21 rfl ?_
  refine j_iload_n hJ dX12_putPicture_24 rfl 1 rfl ?_
  refine j_iald hJ gp1 kR_38 hF.1 hF.2.1 dX12_putPicture_25 (fun v6 ev6 gv6 => ?_)
  have hF := hF.2.2 v6 ev6 gv6
  refine j_i2l hJ gv6 dX12_putPicture_26 ?_
  refine j_callVv hJ (c_X12_putNumber (l := l) (D := D) (cy := cy) (ad := ad) hin) rfl om_1539 ⟨rfl, rfl, Nat.le_of_ble_eq_true rfl, Nat.le_of_ble_eq_true rfl⟩ [.long (Ll v6)] mv_X12_959 hd_X12_putNumberv kR_0 rfl rfl rfl (Nat.le_of_ble_eq_true rfl) dX12_putPicture_27 ⟨v6, rfl, (rl_ri gv6), hF⟩ (fun M8 qM8 => ?_)
  have hF := qM8
  refine j_iconst hJ dX12_putPicture_30 ?_
  refine j_istore_n (lv' := [(2, .int (Ii 0)), (0, .ref (ad 0)), (1, .int (Ii p1))]) hJ dX12_putPicture_31 rfl (by decide) rfl ?_
  exact j_sub hJ [1, 2, 0] rfl (k_X12_putPicture_b32 hin  hJ  p1 0 _ gp1 rk_0 hF)
def W_X12_bytes (ad : Nat → Nat) (Q : Int → MM → Prop) (av : List Value) (M : MM) : Prop := ∃ (p1 : Int), av = [.ref (ad 0), .int (Ii p1)] ∧ ri_ p1 ∧ w_X12_bytes  Q p1 M
set_option maxHeartbeats 4000000 in
set_option maxRecDepth 100000 in
theorem k_X12_bytes_b54 {l : Launch} {D : va_G} {cy : Nat → ClassId} {ad : Nat → Nat} {Q : Int → MM → Prop} {J : Nat → List (Nat × Value) → List Value → MM → Prop} (hin : jIn ad ksR.length)   (hJ : jOk l D vwCl (tyR cy) cy ad ftR ksR (XtR ad) Om RX12 cX12_bytes 3 1 ({ frames := 4, cells := 0, slots := 0, locals := 95 } : Room) Q J)  : ∀ (x2 : Int) (M : MM), ri_ x2 → w_X12_bytes_b54  Q  x2 M → J 54 [(0, .ref (ad 0)), (2, .int (Ii x2))] [] M := by
  have H9 : ∀ (n : Nat) (x2 : Int) (M : MM), ri_ x2 → jit (fun _ _ => False) (wb_X12_bytes_b54  Q ) n x2 M → J 54 [(0, .ref (ad 0)), (2, .int (Ii x2))] [] M := by
    intro n
    induction n with
    | zero => intro x2 M gx2 hF; exact False.elim hF
    | succ n ih =>
    intro x2 M gx2 hF
    have hF : wb_X12_bytes_b54  Q  (jit (fun _ _ => False) (wb_X12_bytes_b54  Q ) n) x2 M := hF
    unfold wb_X12_bytes_b54 at hF
    refine j_iload_n hJ dX12_bytes_54 rfl 1 rfl ?_
    refine j_aload_n hJ dX12_bytes_55 rfl 0 rfl ?_
    refine j_gi hJ kR_0 fR_15_141 rfl fl_X12_953 dX12_bytes_56 (fun v1 ev1 gv1 => ?_)
    have hF := hF v1 ev1 gv1
    refine j_icmp_ge hJ 80 gx2 gv1 dX12_bytes_59 (by decide) (fun z2 => ?_) (fun z2 => ?_)
    · have hF := hF.1 z2
      refine j_aload_n hJ dX12_bytes_80 rfl 0 rfl ?_
      refine j_aload_n hJ dX12_bytes_81 rfl 0 rfl ?_
      refine j_gi hJ kR_0 fR_15_141 rfl fl_X12_953 dX12_bytes_82 (fun v3 ev3 gv3 => ?_)
      have hF := hF v3 ev3 gv3
      refine j_pi hJ gv3 kR_0 fR_15_3 rfl fp_X12_391 dX12_bytes_85 (fun M4 eM4 => ?_)
      have hF := hF M4 eM4
      refine j_aload_n hJ dX12_bytes_88 rfl 0 rfl ?_
      refine j_gi hJ kR_0 fR_15_3 rfl fl_X12_391 dX12_bytes_89 (fun v5 ev5 gv5 => ?_)
      have hF := hF v5 ev5 gv5
      exact j_iret hJ rfl gv5 dX12_bytes_92 hF
    · have hF := hF.2 z2
      refine j_aload_n hJ dX12_bytes_62 rfl 0 rfl ?_
      refine j_gr (e := 1) hJ kR_0 fR_15_1 fl_X12_7 dX12_bytes_63 rfl ?_
      refine j_iload_n hJ dX12_bytes_66 rfl 1 rfl ?_
      refine j_aload_n hJ dX12_bytes_67 rfl 0 rfl ?_
      refine j_gr (e := 98) hJ kR_0 fR_15_139 fl_X12_369 dX12_bytes_68 rfl ?_
      refine j_iload_n hJ dX12_bytes_71 rfl 1 rfl ?_
      refine j_bald hJ gx2 kR_98 hF.1 hF.2.1 dX12_bytes_72 (fun v6 ev6 gv6 => ?_)
      have hF := hF.2.2 v6 ev6 gv6
      refine j_bast hJ gx2 gv6 kR_1 hF.1 hF.2.1 dX12_bytes_73 (fun M7 eM7 => ?_)
      have hF := hF.2.2 M7 eM7
      refine j_iinc (lv' := [(2, .int (Ii (x2 + 1))), (0, .ref (ad 0))]) (k := 1) hJ dX12_bytes_74 rfl (by decide) rfl ?_
      have g8 := hF.1; have hF := hF.2
      refine j_goto hJ 54 dX12_bytes_77 (by decide) ?_
      exact j_sub hJ [1, 0] rfl (ih (x2 + 1) _ g8 hF)
  intro x2 M gx2 hF
  obtain ⟨n, hF⟩ := hF
  exact H9 n x2 M gx2 hF
set_option maxHeartbeats 4000000 in
set_option maxRecDepth 100000 in
theorem k_X12_bytes_b40 {l : Launch} {D : va_G} {cy : Nat → ClassId} {ad : Nat → Nat} {Q : Int → MM → Prop} {J : Nat → List (Nat × Value) → List Value → MM → Prop} (hin : jIn ad ksR.length)   (hJ : jOk l D vwCl (tyR cy) cy ad ftR ksR (XtR ad) Om RX12 cX12_bytes 3 1 ({ frames := 4, cells := 0, slots := 0, locals := 95 } : Room) Q J)  : ∀ (s0 : Int) (M : MM), ri_ s0 → w_X12_bytes_b40  Q  s0 M → J 40 [(0, .ref (ad 0))] [.int (Ii s0), .ref (ad 0)] M := by
  intro s0 M gs0 hF
  unfold w_X12_bytes_b40 at hF
  refine j_pi hJ gs0 kR_0 fR_15_0 rfl fp_X12_388 dX12_bytes_40 (fun M1 eM1 => ?_)
  have hF := hF M1 eM1
  refine j_aload_n hJ dX12_bytes_43 rfl 0 rfl ?_
  refine j_gi hJ kR_0 fR_15_0 rfl fl_X12_388 dX12_bytes_44 (fun v2 ev2 gv2 => ?_)
  have hF := hF v2 ev2 gv2
  refine j_if_le hJ 52 gv2 dX12_bytes_47 (by decide) (fun z3 => ?_) (fun z3 => ?_)
  · have hF := hF.1 z3
    refine j_iconst hJ dX12_bytes_52 ?_
    refine j_istore_n (lv' := [(2, .int (Ii 0)), (0, .ref (ad 0))]) hJ dX12_bytes_53 rfl (by decide) rfl ?_
    exact j_sub hJ [1, 0] rfl (k_X12_bytes_b54 hin  hJ  0 _ rk_0 hF)
  · have hF := hF.2 z3
    refine j_iconst hJ dX12_bytes_50 ?_
    exact j_iret hJ rfl rk_0 dX12_bytes_51 hF
set_option maxHeartbeats 4000000 in
set_option maxRecDepth 100000 in
theorem k_X12_bytes_b14 {l : Launch} {D : va_G} {cy : Nat → ClassId} {ad : Nat → Nat} {Q : Int → MM → Prop} {J : Nat → List (Nat × Value) → List Value → MM → Prop} (hin : jIn ad ksR.length)   (hJ : jOk l D vwCl (tyR cy) cy ad ftR ksR (XtR ad) Om RX12 cX12_bytes 3 1 ({ frames := 4, cells := 0, slots := 0, locals := 95 } : Room) Q J)  : ∀ (x1 s0 : Int) (M : MM), ri_ x1 → ri_ s0 → w_X12_bytes_b14  Q  x1 s0 M → J 14 [(0, .ref (ad 0)), (1, .int (Ii x1))] [.int (Ii s0), .ref (ad 0)] M := by
  intro x1 s0 M gx1 gs0 hF
  unfold w_X12_bytes_b14 at hF
  refine j_pi hJ gs0 kR_0 fR_15_0 rfl fp_X12_388 dX12_bytes_14 (fun M1 eM1 => ?_)
  have hF := hF M1 eM1
  refine j_aload_n hJ dX12_bytes_17 rfl 0 rfl ?_
  refine j_gi hJ kR_0 fR_15_0 rfl fl_X12_388 dX12_bytes_18 (fun v2 ev2 gv2 => ?_)
  have hF := hF v2 ev2 gv2
  refine j_if_le hJ 26 gv2 dX12_bytes_21 (by decide) (fun z3 => ?_) (fun z3 => ?_)
  · have hF := hF.1 z3
    refine j_aload_n hJ dX12_bytes_26 rfl 0 rfl ?_
    refine j_aload_n hJ dX12_bytes_27 rfl 0 rfl ?_
    refine j_iload_n hJ dX12_bytes_28 rfl 1 rfl ?_
    refine j_callVz hJ (c_X12_putPicture (l := l) (D := D) (cy := cy) (ad := ad) hin) rfl om_1549 ⟨rfl, rfl, Nat.le_of_ble_eq_true rfl, Nat.le_of_ble_eq_true rfl⟩ [.int (Ii x1)] mv_X12_972 hd_X12_putPicturev kR_0 rfl rfl rfl (Nat.le_of_ble_eq_true rfl) dX12_bytes_29 ⟨x1, rfl, gx1, hF⟩ (fun r4 M5 gr4 qM5 => ?_)
    have hF := qM5 gr4
    refine j_if_eq hJ 39 (jz_ri gr4) dX12_bytes_32 (by decide) (fun z6 => ?_) (fun z6 => ?_)
    · have hF := hF.1 z6
      refine j_iconst hJ dX12_bytes_39 ?_
      exact j_sub hJ [0] rfl (k_X12_bytes_b40 hin  hJ  2 _ rk_2 hF)
    · have hF := hF.2 z6
      refine j_iconst hJ dX12_bytes_35 ?_
      refine j_goto hJ 40 dX12_bytes_36 (by decide) ?_
      exact j_sub hJ [0] rfl (k_X12_bytes_b40 hin  hJ  0 _ rk_0 hF)
  · have hF := hF.2 z3
    refine j_iconst hJ dX12_bytes_24 ?_
    exact j_iret hJ rfl rk_0 dX12_bytes_25 hF
set_option maxHeartbeats 4000000 in
set_option maxRecDepth 100000 in
theorem c_X12_bytes {l : Launch} {D : va_G} {cy : Nat → ClassId} {ad : Nat → Nat} (hin : jIn ad ksR.length) : jCN l D vwCl (tyR cy) cy ad ftR ksR (XtR ad) yX12_bytes (.code yX12_bytes cX12_bytes 3 (some .int) :: Om) ({ frames := 4, cells := 0, slots := 0, locals := 95 } : Room) 1 (W_X12_bytes ad) := by
  refine jCN_of (y := yX12_bytes) (cc := cX12_bytes) (nL := 3) (rk := 1) (rm := ({ frames := 4, cells := 0, slots := 0, locals := 95 } : Room)) (own := RX12) (tyR_ok cy) hin (XtR_ok ad) Om_good (by decide) rfl ?_
  intro Q av M hF
  obtain ⟨p1, rfl, gp1, hF⟩ := hF
  refine ⟨Nat.le_of_ble_eq_true rfl, fun J hJ => ?_⟩
  show J 0 [(0, .ref (ad 0)), (1, .int (Ii p1))] [] M
  unfold w_X12_bytes at hF
  refine j_aload_n hJ dX12_bytes_0 rfl 0 rfl ?_
  refine j_aload_n hJ dX12_bytes_1 rfl 0 rfl ?_
  refine j_iload_n hJ dX12_bytes_2 rfl 1 rfl ?_
  refine j_callVz hJ (c_X12_isPicture (l := l) (D := D) (cy := cy) (ad := ad) hin) rfl om_1296 ⟨rfl, rfl, Nat.le_of_ble_eq_true rfl, Nat.le_of_ble_eq_true rfl⟩ [.int (Ii p1)] mv_X12_542 hd_X12_isPicturev kR_0 rfl rfl rfl (Nat.le_of_ble_eq_true rfl) dX12_bytes_3 ⟨p1, rfl, gp1, hF⟩ (fun r1 M2 gr1 qM2 => ?_)
  have hF := qM2 gr1
  refine j_if_eq hJ 13 (jz_ri gr1) dX12_bytes_6 (by decide) (fun z3 => ?_) (fun z3 => ?_)
  · have hF := hF.1 z3
    refine j_iconst hJ dX12_bytes_13 ?_
    exact j_sub hJ [0, 1] rfl (k_X12_bytes_b14 hin  hJ  p1 1 _ gp1 rk_1 hF)
  · have hF := hF.2 z3
    refine j_iconst hJ dX12_bytes_9 ?_
    refine j_goto hJ 14 dX12_bytes_10 (by decide) ?_
    exact j_sub hJ [0, 1] rfl (k_X12_bytes_b14 hin  hJ  p1 0 _ gp1 rk_0 hF)
def W_X12_letter (ad : Nat → Nat) (Q : Int → MM → Prop) (av : List Value) (M : MM) : Prop := ∃ (p1 : Int), av = [.ref (ad 0), .int (Ii p1)] ∧ ri_ p1 ∧ w_X12_letter  Q p1 M
set_option maxHeartbeats 4000000 in
set_option maxRecDepth 100000 in
theorem c_X12_letter {l : Launch} {D : va_G} {cy : Nat → ClassId} {ad : Nat → Nat} (hin : jIn ad ksR.length) : jCN l D vwCl (tyR cy) cy ad ftR ksR (XtR ad) yX12_letter (.code yX12_letter cX12_letter 2 (some .int) :: Om) ({ frames := 0, cells := 0, slots := 0, locals := 0 } : Room) 1 (W_X12_letter ad) := by
  refine jCN_of (y := yX12_letter) (cc := cX12_letter) (nL := 2) (rk := 1) (rm := ({ frames := 0, cells := 0, slots := 0, locals := 0 } : Room)) (own := RX12) (tyR_ok cy) hin (XtR_ok ad) Om_good (by decide) rfl ?_
  intro Q av M hF
  obtain ⟨p1, rfl, gp1, hF⟩ := hF
  refine ⟨Nat.le_of_ble_eq_true rfl, fun J hJ => ?_⟩
  show J 0 [(0, .ref (ad 0)), (1, .int (Ii p1))] [] M
  unfold w_X12_letter at hF
  refine j_aload_n hJ dX12_letter_0 rfl 0 rfl ?_
  refine j_iconst hJ dX12_letter_1 ?_
  refine j_pi hJ rk_0 kR_0 fR_15_0 rfl fp_X12_388 dX12_letter_2 (fun M1 eM1 => ?_)
  have hF := hF M1 eM1
  refine j_iload_n hJ dX12_letter_5 rfl 1 rfl ?_
  refine j_if_lt hJ 30 gp1 dX12_letter_6 (by decide) (fun z2 => ?_) (fun z2 => ?_)
  · have hF := hF.1 z2
    refine j_iconst hJ dX12_letter_30 ?_
    exact j_iret hJ rfl rk_m1 dX12_letter_31 hF
  · have hF := hF.2 z2
    refine j_iload_n hJ dX12_letter_9 rfl 1 rfl ?_
    refine j_aload_n hJ dX12_letter_10 rfl 0 rfl ?_
    refine j_gi hJ kR_0 fR_15_3 rfl fl_X12_391 dX12_letter_11 (fun v3 ev3 gv3 => ?_)
    have hF := hF v3 ev3 gv3
    refine j_icmp_ge hJ 30 gp1 gv3 dX12_letter_14 (by decide) (fun z4 => ?_) (fun z4 => ?_)
    · have hF := hF.1 z4
      refine j_iconst hJ dX12_letter_30 ?_
      exact j_iret hJ rfl rk_m1 dX12_letter_31 hF
    · have hF := hF.2 z4
      refine j_aload_n hJ dX12_letter_17 rfl 0 rfl ?_
      refine j_gr (e := 1) hJ kR_0 fR_15_1 fl_X12_7 dX12_letter_18 rfl ?_
      refine j_iload_n hJ dX12_letter_21 rfl 1 rfl ?_
      refine j_bald hJ gp1 kR_1 hF.1 hF.2.1 dX12_letter_22 (fun v5 ev5 gv5 => ?_)
      have hF := hF.2.2 v5 ev5 gv5
      refine j_sipush hJ dX12_letter_23 (by decide) ?_
      refine j_iand hJ dX12_letter_26 ?_
      refine j_goto hJ 31 dX12_letter_27 (by decide) ?_
      exact j_iret hJ rfl (ri_of _) dX12_letter_31 hF
def W_X12_takeNumber (ad : Nat → Nat) (Q : Int → MM → Prop) (av : List Value) (M : MM) : Prop := av = [.ref (ad 0)] ∧ w_X12_takeNumber  Q  M
set_option maxHeartbeats 4000000 in
set_option maxRecDepth 100000 in
theorem k_X12_takeNumber_b87 {l : Launch} {D : va_G} {cy : Nat → ClassId} {ad : Nat → Nat} {Q : Int → MM → Prop} {J : Nat → List (Nat × Value) → List Value → MM → Prop} (hin : jIn ad ksR.length)   (hJ : jOk l D vwCl (tyR cy) cy ad ftR ksR (XtR ad) Om RX12 cX12_takeNumber 5 2 ({ frames := 1, cells := 0, slots := 0, locals := 22 } : Room) Q J) {K12 : Int → Int → MM → Prop} (hK12 : ∀ (x1 x3 : Int) (M : MM), rl_ x1 → ri_ x3 → K12 x1 x3 M → J 12 [(0, .ref (ad 0)), (1, .long (Ll x1)), (3, .int (Ii x3))] [] M) : ∀ (x1 x3 x4 : Int) (M : MM), rl_ x1 → ri_ x3 → ri_ x4 → w_X12_takeNumber_b87  Q K12 x1 x3 x4 M → J 87 [(0, .ref (ad 0)), (1, .long (Ll x1)), (3, .int (Ii x3)), (4, .int (Ii x4))] [] M := by
  intro x1 x3 x4 M gx1 gx3 gx4 hF
  unfold w_X12_takeNumber_b87 at hF
  refine j_lload_n hJ dX12_takeNumber_87 rfl 1 rfl ?_
  refine j_iload hJ dX12_takeNumber_88 3 rfl ?_
  refine j_i2l hJ gx4 dX12_takeNumber_90 ?_
  refine j_ldc2 hJ 127 om_1536 (by decide) dX12_takeNumber_91 ?_
  refine j_land hJ dX12_takeNumber_94 ?_
  refine j_bipush hJ dX12_takeNumber_95 (by decide) ?_
  refine j_iload_n hJ dX12_takeNumber_97 rfl 2 rfl ?_
  refine j_imul hJ dX12_takeNumber_98 ?_
  have g1 := hF.1; have hF := hF.2
  refine j_lshl hJ dX12_takeNumber_99 ?_
  refine j_lor hJ dX12_takeNumber_100 ?_
  refine j_lstore_n (lv' := [(1, .long (Ll (jlor x1 (jlshl (jland x4 127) (7 * x3))))), (0, .ref (ad 0)), (3, .int (Ii x3)), (4, .int (Ii x4))]) hJ dX12_takeNumber_101 rfl (by decide) rfl ?_
  refine j_iload hJ dX12_takeNumber_102 3 rfl ?_
  refine j_bipush hJ dX12_takeNumber_104 (by decide) ?_
  refine j_icmp_le hJ 112 gx4 rk_127 dX12_takeNumber_106 (by decide) (fun z2 => ?_) (fun z2 => ?_)
  · have hF := hF.1 z2
    refine j_iload hJ dX12_takeNumber_112 3 rfl ?_
    refine j_if_ne hJ 130 gx4 dX12_takeNumber_114 (by decide) (fun z3 => ?_) (fun z3 => ?_)
    · have hF := hF.1 z3
      refine j_lload_n hJ dX12_takeNumber_130 rfl 0 rfl ?_
      exact j_lret hJ rfl (rl_of _) dX12_takeNumber_131 hF
    · have hF := hF.2 z3
      refine j_iload_n hJ dX12_takeNumber_117 rfl 2 rfl ?_
      refine j_if_le hJ 130 gx3 dX12_takeNumber_118 (by decide) (fun z4 => ?_) (fun z4 => ?_)
      · have hF := hF.1 z4
        refine j_lload_n hJ dX12_takeNumber_130 rfl 0 rfl ?_
        exact j_lret hJ rfl (rl_of _) dX12_takeNumber_131 hF
      · have hF := hF.2 z4
        refine j_aload_n hJ dX12_takeNumber_121 rfl 1 rfl ?_
        refine j_iconst hJ dX12_takeNumber_122 ?_
        refine j_aload_n hJ dX12_takeNumber_123 rfl 1 rfl ?_
        refine j_gi hJ kR_0 fR_15_143 rfl fl_X12_978 dX12_takeNumber_124 (fun v5 ev5 gv5 => ?_)
        have hF := hF v5 ev5 gv5
        refine j_callVv hJ (c_X12_fail (l := l) (D := D) (cy := cy) (ad := ad) hin) rfl om_1351 ⟨rfl, rfl, Nat.le_of_ble_eq_true rfl, Nat.le_of_ble_eq_true rfl⟩ [.int (Ii 3), .int (Ii v5)] mv_X12_653 hd_X12_failv kR_0 rfl rfl rfl (Nat.le_of_ble_eq_true rfl) dX12_takeNumber_127 ⟨3, v5, rfl, rk_3, gv5, hF⟩ (fun M7 qM7 => ?_)
        have hF := qM7
        refine j_lload_n hJ dX12_takeNumber_130 rfl 0 rfl ?_
        exact j_lret hJ rfl (rl_of _) dX12_takeNumber_131 hF
  · have hF := hF.2 z2
    refine j_goto hJ 132 dX12_takeNumber_109 (by decide) ?_
    refine j_iinc (lv' := [(3, .int (Ii (x3 + 1))), (1, .long (Ll (jlor x1 (jlshl (jland x4 127) (7 * x3))))), (0, .ref (ad 0)), (4, .int (Ii x4))]) (k := 2) hJ dX12_takeNumber_132 rfl (by decide) rfl ?_
    have g8 := hF.1; have hF := hF.2
    refine j_goto hJ 12 dX12_takeNumber_135 (by decide) ?_
    exact j_sub hJ [2, 1, 0] rfl (hK12 (jlor x1 (jlshl (jland x4 127) (7 * x3))) (x3 + 1) _ (rl_of _) g8 hF)
set_option maxHeartbeats 4000000 in
set_option maxRecDepth 100000 in
theorem k_X12_takeNumber_b12 {l : Launch} {D : va_G} {cy : Nat → ClassId} {ad : Nat → Nat} {Q : Int → MM → Prop} {J : Nat → List (Nat × Value) → List Value → MM → Prop} (hin : jIn ad ksR.length)   (hJ : jOk l D vwCl (tyR cy) cy ad ftR ksR (XtR ad) Om RX12 cX12_takeNumber 5 2 ({ frames := 1, cells := 0, slots := 0, locals := 22 } : Room) Q J)  : ∀ (x1 x3 : Int) (M : MM), rl_ x1 → ri_ x3 → w_X12_takeNumber_b12  Q  x1 x3 M → J 12 [(0, .ref (ad 0)), (1, .long (Ll x1)), (3, .int (Ii x3))] [] M := by
  have H9 : ∀ (n : Nat) (x1 x3 : Int) (M : MM), rl_ x1 → ri_ x3 → jit (fun _ _ _ => False) (wb_X12_takeNumber_b12  Q ) n x1 x3 M → J 12 [(0, .ref (ad 0)), (1, .long (Ll x1)), (3, .int (Ii x3))] [] M := by
    intro n
    induction n with
    | zero => intro x1 x3 M gx1 gx3 hF; exact False.elim hF
    | succ n ih =>
    intro x1 x3 M gx1 gx3 hF
    have hF : wb_X12_takeNumber_b12  Q  (jit (fun _ _ _ => False) (wb_X12_takeNumber_b12  Q ) n) x1 x3 M := hF
    unfold wb_X12_takeNumber_b12 at hF
    refine j_aload_n hJ dX12_takeNumber_12 rfl 0 rfl ?_
    refine j_gi hJ kR_0 fR_15_83 rfl fl_X12_625 dX12_takeNumber_13 (fun v1 ev1 gv1 => ?_)
    have hF := hF v1 ev1 gv1
    refine j_if_ne hJ 138 gv1 dX12_takeNumber_16 (by decide) (fun z2 => ?_) (fun z2 => ?_)
    · have hF := hF.1 z2
      refine j_lconst (x := 0) hJ dX12_takeNumber_138 rfl ?_
      exact j_lret hJ rfl lkm_0 dX12_takeNumber_139 hF
    · have hF := hF.2 z2
      refine j_aload_n hJ dX12_takeNumber_19 rfl 0 rfl ?_
      refine j_gi hJ kR_0 fR_15_142 rfl fl_X12_975 dX12_takeNumber_20 (fun v3 ev3 gv3 => ?_)
      have hF := hF v3 ev3 gv3
      refine j_aload_n hJ dX12_takeNumber_23 rfl 0 rfl ?_
      refine j_gi hJ kR_0 fR_15_141 rfl fl_X12_953 dX12_takeNumber_24 (fun v4 ev4 gv4 => ?_)
      have hF := hF v4 ev4 gv4
      refine j_icmp_ne hJ 41 gv3 gv4 dX12_takeNumber_27 (by decide) (fun z5 => ?_) (fun z5 => ?_)
      · have hF := hF.1 z5
        refine j_aload_n hJ dX12_takeNumber_41 rfl 0 rfl ?_
        refine j_gr (e := 98) hJ kR_0 fR_15_139 fl_X12_369 dX12_takeNumber_42 rfl ?_
        refine j_aload_n hJ dX12_takeNumber_45 rfl 0 rfl ?_
        refine j_gi hJ kR_0 fR_15_142 rfl fl_X12_975 dX12_takeNumber_46 (fun v6 ev6 gv6 => ?_)
        have hF := hF v6 ev6 gv6
        refine j_bald hJ gv6 kR_98 hF.1 hF.2.1 dX12_takeNumber_49 (fun v7 ev7 gv7 => ?_)
        have hF := hF.2.2 v7 ev7 gv7
        refine j_sipush hJ dX12_takeNumber_50 (by decide) ?_
        refine j_iand hJ dX12_takeNumber_53 ?_
        refine j_istore (lv' := [(4, .int (Ii (jand v7 255))), (0, .ref (ad 0)), (1, .long (Ll x1)), (3, .int (Ii x3))]) hJ dX12_takeNumber_54 (by decide) rfl ?_
        refine j_aload_n hJ dX12_takeNumber_56 rfl 1 rfl ?_
        refine j_dup hJ dX12_takeNumber_57 rfl ?_
        refine j_gi hJ kR_0 fR_15_142 rfl fl_X12_975 dX12_takeNumber_58 (fun v8 ev8 gv8 => ?_)
        have hF := hF v8 ev8 gv8
        refine j_iconst hJ dX12_takeNumber_61 ?_
        refine j_iadd hJ dX12_takeNumber_62 ?_
        have g9 := hF.1; have hF := hF.2
        refine j_pi hJ g9 kR_0 fR_15_142 rfl fp_X12_975 dX12_takeNumber_63 (fun M10 eM10 => ?_)
        have hF := hF M10 eM10
        refine j_iload_n hJ dX12_takeNumber_66 rfl 3 rfl ?_
        refine j_bipush hJ dX12_takeNumber_67 (by decide) ?_
        refine j_icmp_ne hJ 87 gx3 rk_9 dX12_takeNumber_69 (by decide) (fun z11 => ?_) (fun z11 => ?_)
        · have hF := hF.1 z11
          exact j_sub hJ [1, 2, 3, 0] rfl (k_X12_takeNumber_b87 hin  hJ ih x1 x3 (jand v7 255) _ gx1 gx3 (ri_of _) hF)
        · have hF := hF.2 z11
          refine j_iload hJ dX12_takeNumber_72 0 rfl ?_
          refine j_iconst hJ dX12_takeNumber_74 ?_
          refine j_icmp_le hJ 87 (ri_of _) rk_1 dX12_takeNumber_75 (by decide) (fun z12 => ?_) (fun z12 => ?_)
          · have hF := hF.1 z12
            exact j_sub hJ [1, 2, 3, 0] rfl (k_X12_takeNumber_b87 hin  hJ ih x1 x3 (jand v7 255) _ gx1 gx3 (ri_of _) hF)
          · have hF := hF.2 z12
            refine j_aload_n hJ dX12_takeNumber_78 rfl 1 rfl ?_
            refine j_iconst hJ dX12_takeNumber_79 ?_
            refine j_aload_n hJ dX12_takeNumber_80 rfl 1 rfl ?_
            refine j_gi hJ kR_0 fR_15_143 rfl fl_X12_978 dX12_takeNumber_81 (fun v13 ev13 gv13 => ?_)
            have hF := hF v13 ev13 gv13
            refine j_callVv hJ (c_X12_fail (l := l) (D := D) (cy := cy) (ad := ad) hin) rfl om_1351 ⟨rfl, rfl, Nat.le_of_ble_eq_true rfl, Nat.le_of_ble_eq_true rfl⟩ [.int (Ii 3), .int (Ii v13)] mv_X12_653 hd_X12_failv kR_0 rfl rfl rfl (Nat.le_of_ble_eq_true rfl) dX12_takeNumber_84 ⟨3, v13, rfl, rk_3, gv13, hF⟩ (fun M15 qM15 => ?_)
            have hF := qM15
            exact j_sub hJ [1, 2, 3, 0] rfl (k_X12_takeNumber_b87 hin  hJ ih x1 x3 (jand v7 255) _ gx1 gx3 (ri_of _) hF)
      · have hF := hF.2 z5
        refine j_aload_n hJ dX12_takeNumber_30 rfl 0 rfl ?_
        refine j_iconst hJ dX12_takeNumber_31 ?_
        refine j_aload_n hJ dX12_takeNumber_32 rfl 0 rfl ?_
        refine j_gi hJ kR_0 fR_15_141 rfl fl_X12_953 dX12_takeNumber_33 (fun v16 ev16 gv16 => ?_)
        have hF := hF v16 ev16 gv16
        refine j_callVv hJ (c_X12_fail (l := l) (D := D) (cy := cy) (ad := ad) hin) rfl om_1351 ⟨rfl, rfl, Nat.le_of_ble_eq_true rfl, Nat.le_of_ble_eq_true rfl⟩ [.int (Ii 1), .int (Ii v16)] mv_X12_653 hd_X12_failv kR_0 rfl rfl rfl (Nat.le_of_ble_eq_true rfl) dX12_takeNumber_36 ⟨1, v16, rfl, rk_1, gv16, hF⟩ (fun M18 qM18 => ?_)
        have hF := qM18
        refine j_lconst (x := 0) hJ dX12_takeNumber_39 rfl ?_
        exact j_lret hJ rfl lkm_0 dX12_takeNumber_40 hF
  intro x1 x3 M gx1 gx3 hF
  obtain ⟨n, hF⟩ := hF
  exact H9 n x1 x3 M gx1 gx3 hF
set_option maxHeartbeats 4000000 in
set_option maxRecDepth 100000 in
theorem c_X12_takeNumber {l : Launch} {D : va_G} {cy : Nat → ClassId} {ad : Nat → Nat} (hin : jIn ad ksR.length) : jCN l D vwCl (tyR cy) cy ad ftR ksR (XtR ad) yX12_takeNumber (.code yX12_takeNumber cX12_takeNumber 5 (some .long) :: Om) ({ frames := 1, cells := 0, slots := 0, locals := 22 } : Room) 2 (W_X12_takeNumber ad) := by
  refine jCN_of (y := yX12_takeNumber) (cc := cX12_takeNumber) (nL := 5) (rk := 2) (rm := ({ frames := 1, cells := 0, slots := 0, locals := 22 } : Room)) (own := RX12) (tyR_ok cy) hin (XtR_ok ad) Om_good (by decide) rfl ?_
  intro Q av M hF
  obtain ⟨rfl, hF⟩ := hF
  refine ⟨Nat.le_of_ble_eq_true rfl, fun J hJ => ?_⟩
  show J 0 [(0, .ref (ad 0))] [] M
  unfold w_X12_takeNumber at hF
  refine j_aload_n hJ dX12_takeNumber_0 rfl 0 rfl ?_
  refine j_aload_n hJ dX12_takeNumber_1 rfl 0 rfl ?_
  refine j_gi hJ kR_0 fR_15_142 rfl fl_X12_975 dX12_takeNumber_2 (fun v1 ev1 gv1 => ?_)
  have hF := hF v1 ev1 gv1
  refine j_pi hJ gv1 kR_0 fR_15_143 rfl fp_X12_978 dX12_takeNumber_5 (fun M2 eM2 => ?_)
  have hF := hF M2 eM2
  refine j_lconst (x := 0) hJ dX12_takeNumber_8 rfl ?_
  refine j_lstore_n (lv' := [(1, .long (Ll 0)), (0, .ref (ad 0))]) hJ dX12_takeNumber_9 rfl (by decide) rfl ?_
  refine j_iconst hJ dX12_takeNumber_10 ?_
  refine j_istore_n (lv' := [(3, .int (Ii 0)), (1, .long (Ll 0)), (0, .ref (ad 0))]) hJ dX12_takeNumber_11 rfl (by decide) rfl ?_
  exact j_sub hJ [2, 1, 0] rfl (k_X12_takeNumber_b12 hin  hJ  0 0 _ lkm_0 rk_0 hF)
def W_X12_takeByte (ad : Nat → Nat) (Q : Int → MM → Prop) (av : List Value) (M : MM) : Prop := ∃ (p1 : Int), av = [.ref (ad 0), .int (Ii p1)] ∧ ri_ p1 ∧ w_X12_takeByte  Q p1 M
set_option maxHeartbeats 4000000 in
set_option maxRecDepth 100000 in
theorem k_X12_takeByte_b57 {l : Launch} {D : va_G} {cy : Nat → ClassId} {ad : Nat → Nat} {Q : Int → MM → Prop} {J : Nat → List (Nat × Value) → List Value → MM → Prop} (hin : jIn ad ksR.length)   (hJ : jOk l D vwCl (tyR cy) cy ad ftR ksR (XtR ad) Om RX12 cX12_takeByte 2 0 ({ frames := 1, cells := 0, slots := 0, locals := 22 } : Room) Q J)  : ∀ (M : MM), w_X12_takeByte_b57  Q   M → J 57 [(0, .ref (ad 0))] [] M := by
  intro  M  hF
  unfold w_X12_takeByte_b57 at hF
  refine j_aload_n hJ dX12_takeByte_57 rfl 0 rfl ?_
  refine j_dup hJ dX12_takeByte_58 rfl ?_
  refine j_gi hJ kR_0 fR_15_142 rfl fl_X12_975 dX12_takeByte_59 (fun v1 ev1 gv1 => ?_)
  have hF := hF v1 ev1 gv1
  refine j_iconst hJ dX12_takeByte_62 ?_
  refine j_iadd hJ dX12_takeByte_63 ?_
  have g2 := hF.1; have hF := hF.2
  refine j_pi hJ g2 kR_0 fR_15_142 rfl fp_X12_975 dX12_takeByte_64 (fun M3 eM3 => ?_)
  have hF := hF M3 eM3
  exact j_vret hJ rfl dX12_takeByte_67 hF
set_option maxHeartbeats 4000000 in
set_option maxRecDepth 100000 in
theorem c_X12_takeByte {l : Launch} {D : va_G} {cy : Nat → ClassId} {ad : Nat → Nat} (hin : jIn ad ksR.length) : jCN l D vwCl (tyR cy) cy ad ftR ksR (XtR ad) yX12_takeByte (.code yX12_takeByte cX12_takeByte 2 none :: Om) ({ frames := 1, cells := 0, slots := 0, locals := 22 } : Room) 0 (W_X12_takeByte ad) := by
  refine jCN_of (y := yX12_takeByte) (cc := cX12_takeByte) (nL := 2) (rk := 0) (rm := ({ frames := 1, cells := 0, slots := 0, locals := 22 } : Room)) (own := RX12) (tyR_ok cy) hin (XtR_ok ad) Om_good (by decide) rfl ?_
  intro Q av M hF
  obtain ⟨p1, rfl, gp1, hF⟩ := hF
  refine ⟨Nat.le_of_ble_eq_true rfl, fun J hJ => ?_⟩
  show J 0 [(0, .ref (ad 0)), (1, .int (Ii p1))] [] M
  unfold w_X12_takeByte at hF
  refine j_aload_n hJ dX12_takeByte_0 rfl 0 rfl ?_
  refine j_gi hJ kR_0 fR_15_83 rfl fl_X12_625 dX12_takeByte_1 (fun v1 ev1 gv1 => ?_)
  have hF := hF v1 ev1 gv1
  refine j_if_le hJ 8 gv1 dX12_takeByte_4 (by decide) (fun z2 => ?_) (fun z2 => ?_)
  · have hF := hF.1 z2
    refine j_aload_n hJ dX12_takeByte_8 rfl 0 rfl ?_
    refine j_gi hJ kR_0 fR_15_142 rfl fl_X12_975 dX12_takeByte_9 (fun v3 ev3 gv3 => ?_)
    have hF := hF v3 ev3 gv3
    refine j_aload_n hJ dX12_takeByte_12 rfl 0 rfl ?_
    refine j_gi hJ kR_0 fR_15_141 rfl fl_X12_953 dX12_takeByte_13 (fun v4 ev4 gv4 => ?_)
    have hF := hF v4 ev4 gv4
    refine j_icmp_ne hJ 31 gv3 gv4 dX12_takeByte_16 (by decide) (fun z5 => ?_) (fun z5 => ?_)
    · have hF := hF.1 z5
      refine j_aload_n hJ dX12_takeByte_31 rfl 0 rfl ?_
      refine j_gr (e := 98) hJ kR_0 fR_15_139 fl_X12_369 dX12_takeByte_32 rfl ?_
      refine j_aload_n hJ dX12_takeByte_35 rfl 0 rfl ?_
      refine j_gi hJ kR_0 fR_15_142 rfl fl_X12_975 dX12_takeByte_36 (fun v6 ev6 gv6 => ?_)
      have hF := hF v6 ev6 gv6
      refine j_bald hJ gv6 kR_98 hF.1 hF.2.1 dX12_takeByte_39 (fun v7 ev7 gv7 => ?_)
      have hF := hF.2.2 v7 ev7 gv7
      refine j_sipush hJ dX12_takeByte_40 (by decide) ?_
      refine j_iand hJ dX12_takeByte_43 ?_
      refine j_iload_n hJ dX12_takeByte_44 rfl 1 rfl ?_
      refine j_icmp_eq hJ 57 (ri_of _) gp1 dX12_takeByte_45 (by decide) (fun z8 => ?_) (fun z8 => ?_)
      · have hF := hF.1 z8
        exact j_sub hJ [0] rfl (k_X12_takeByte_b57 hin  hJ   _  hF)
      · have hF := hF.2 z8
        refine j_aload_n hJ dX12_takeByte_48 rfl 0 rfl ?_
        refine j_iconst hJ dX12_takeByte_49 ?_
        refine j_aload_n hJ dX12_takeByte_50 rfl 0 rfl ?_
        refine j_gi hJ kR_0 fR_15_142 rfl fl_X12_975 dX12_takeByte_51 (fun v9 ev9 gv9 => ?_)
        have hF := hF v9 ev9 gv9
        refine j_callVv hJ (c_X12_fail (l := l) (D := D) (cy := cy) (ad := ad) hin) rfl om_1351 ⟨rfl, rfl, Nat.le_of_ble_eq_true rfl, Nat.le_of_ble_eq_true rfl⟩ [.int (Ii 2), .int (Ii v9)] mv_X12_653 hd_X12_failv kR_0 rfl rfl rfl (Nat.le_of_ble_eq_true rfl) dX12_takeByte_54 ⟨2, v9, rfl, rk_2, gv9, hF⟩ (fun M11 qM11 => ?_)
        have hF := qM11
        exact j_sub hJ [0] rfl (k_X12_takeByte_b57 hin  hJ   _  hF)
    · have hF := hF.2 z5
      refine j_aload_n hJ dX12_takeByte_19 rfl 0 rfl ?_
      refine j_iconst hJ dX12_takeByte_20 ?_
      refine j_aload_n hJ dX12_takeByte_21 rfl 0 rfl ?_
      refine j_gi hJ kR_0 fR_15_142 rfl fl_X12_975 dX12_takeByte_22 (fun v12 ev12 gv12 => ?_)
      have hF := hF v12 ev12 gv12
      refine j_callVv hJ (c_X12_fail (l := l) (D := D) (cy := cy) (ad := ad) hin) rfl om_1351 ⟨rfl, rfl, Nat.le_of_ble_eq_true rfl, Nat.le_of_ble_eq_true rfl⟩ [.int (Ii 1), .int (Ii v12)] mv_X12_653 hd_X12_failv kR_0 rfl rfl rfl (Nat.le_of_ble_eq_true rfl) dX12_takeByte_25 ⟨1, v12, rfl, rk_1, gv12, hF⟩ (fun M14 qM14 => ?_)
      have hF := qM14
      refine j_goto hJ 57 dX12_takeByte_28 (by decide) ?_
      exact j_sub hJ [0] rfl (k_X12_takeByte_b57 hin  hJ   _  hF)
  · have hF := hF.2 z2
    exact j_vret hJ rfl dX12_takeByte_7 hF
def W_X12_isType (ad : Nat → Nat) (Q : Int → MM → Prop) (av : List Value) (M : MM) : Prop := ∃ (p1 : Int), av = [.ref (ad 0), .long (Ll p1)] ∧ rl_ p1 ∧ w_X12_isType  Q p1 M
set_option maxHeartbeats 4000000 in
set_option maxRecDepth 100000 in
theorem c_X12_isType {l : Launch} {D : va_G} {cy : Nat → ClassId} {ad : Nat → Nat} (hin : jIn ad ksR.length) : jCN l D vwCl (tyR cy) cy ad ftR ksR (XtR ad) yX12_isType (.code yX12_isType cX12_isType 3 (some .boolean) :: Om) ({ frames := 2, cells := 0, slots := 0, locals := 42 } : Room) 3 (W_X12_isType ad) := by
  refine jCN_of (y := yX12_isType) (cc := cX12_isType) (nL := 3) (rk := 3) (rm := ({ frames := 2, cells := 0, slots := 0, locals := 42 } : Room)) (own := RX12) (tyR_ok cy) hin (XtR_ok ad) Om_good (by decide) rfl ?_
  intro Q av M hF
  obtain ⟨p1, rfl, gp1, hF⟩ := hF
  refine ⟨Nat.le_of_ble_eq_true rfl, fun J hJ => ?_⟩
  show J 0 [(0, .ref (ad 0)), (1, .long (Ll p1))] [] M
  unfold w_X12_isType at hF
  refine j_lload_n hJ dX12_isType_0 rfl 1 rfl ?_
  refine j_lconst (x := 0) hJ dX12_isType_1 rfl ?_
  refine j_lcmp_lt hJ 36 gp1 lkm_0 dX12_isType_2 dX12_isType_3 (by decide) (fun z1 => ?_) (fun z1 => ?_)
  · have hF := hF.1 z1
    refine j_iconst hJ dX12_isType_36 ?_
    exact j_zret hJ rfl (by decide) dX12_isType_37 hF
  · have hF := hF.2 z1
    refine j_lload_n hJ dX12_isType_6 rfl 1 rfl ?_
    refine j_ldc2 hJ 100 om_1553 (by decide) dX12_isType_7 ?_
    refine j_lcmp_ge hJ 36 gp1 lk_100 dX12_isType_10 dX12_isType_11 (by decide) (fun z2 => ?_) (fun z2 => ?_)
    · have hF := hF.1 z2
      refine j_iconst hJ dX12_isType_36 ?_
      exact j_zret hJ rfl (by decide) dX12_isType_37 hF
    · have hF := hF.2 z2
      refine j_aload_n hJ dX12_isType_14 rfl 0 rfl ?_
      refine j_lload_n hJ dX12_isType_15 rfl 1 rfl ?_
      refine j_l2i hJ dX12_isType_16 ?_
      have g3 := hF.1; have hF := hF.2
      refine j_callVz hJ (c_X12_isClass (l := l) (D := D) (cy := cy) (ad := ad) hin) rfl om_1064 ⟨rfl, rfl, Nat.le_of_ble_eq_true rfl, Nat.le_of_ble_eq_true rfl⟩ [.int (Ii p1)] mv_X12_416 hd_X12_isClassv kR_0 rfl rfl rfl (Nat.le_of_ble_eq_true rfl) dX12_isType_17 ⟨p1, rfl, g3, hF⟩ (fun r4 M5 gr4 qM5 => ?_)
      have hF := qM5 gr4
      refine j_if_ne hJ 32 (jz_ri gr4) dX12_isType_20 (by decide) (fun z6 => ?_) (fun z6 => ?_)
      · have hF := hF.1 z6
        refine j_iconst hJ dX12_isType_32 ?_
        refine j_goto hJ 37 dX12_isType_33 (by decide) ?_
        exact j_zret hJ rfl (by decide) dX12_isType_37 hF
      · have hF := hF.2 z6
        refine j_aload_n hJ dX12_isType_23 rfl 0 rfl ?_
        refine j_lload_n hJ dX12_isType_24 rfl 1 rfl ?_
        refine j_l2i hJ dX12_isType_25 ?_
        have g7 := hF.1; have hF := hF.2
        refine j_callVz hJ (c_X12_isArrayType (l := l) (D := D) (cy := cy) (ad := ad) hin) rfl om_1101 ⟨rfl, rfl, Nat.le_of_ble_eq_true rfl, Nat.le_of_ble_eq_true rfl⟩ [.int (Ii p1)] mv_X12_464 hd_X12_isArrayTypev kR_0 rfl rfl rfl (Nat.le_of_ble_eq_true rfl) dX12_isType_26 ⟨p1, rfl, g7, hF⟩ (fun r8 M9 gr8 qM9 => ?_)
        have hF := qM9 gr8
        refine j_if_eq hJ 36 (jz_ri gr8) dX12_isType_29 (by decide) (fun z10 => ?_) (fun z10 => ?_)
        · have hF := hF.1 z10
          refine j_iconst hJ dX12_isType_36 ?_
          exact j_zret hJ rfl (by decide) dX12_isType_37 hF
        · have hF := hF.2 z10
          refine j_iconst hJ dX12_isType_32 ?_
          refine j_goto hJ 37 dX12_isType_33 (by decide) ?_
          exact j_zret hJ rfl (by decide) dX12_isType_37 hF
def W_X12_takeSlot (ad : Nat → Nat) (Q : Int → MM → Prop) (av : List Value) (M : MM) : Prop := ∃ (p1 : Int) (p2 : Int), av = [.ref (ad 0), .int (Ii p1), .int (Ii p2)] ∧ ri_ p1 ∧ ri_ p2 ∧ w_X12_takeSlot  Q p1 p2 M
set_option maxHeartbeats 4000000 in
set_option maxRecDepth 100000 in
theorem k_X12_takeSlot_b152 {l : Launch} {D : va_G} {cy : Nat → ClassId} {ad : Nat → Nat} {Q : Int → MM → Prop} {J : Nat → List (Nat × Value) → List Value → MM → Prop} (hin : jIn ad ksR.length)   (hJ : jOk l D vwCl (tyR cy) cy ad ftR ksR (XtR ad) Om RX12 cX12_takeSlot 9 0 ({ frames := 3, cells := 0, slots := 0, locals := 70 } : Room) Q J)  : ∀ (x5 x6 : Int) (M : MM), ri_ x5 → rl_ x6 → w_X12_takeSlot_b152  Q  x5 x6 M → J 152 [(0, .ref (ad 0)), (5, .int (Ii x5)), (6, .long (Ll x6))] [] M := by
  intro x5 x6 M gx5 gx6 hF
  unfold w_X12_takeSlot_b152 at hF
  refine j_aload_n hJ dX12_takeSlot_152 rfl 0 rfl ?_
  refine j_gr (e := 58) hJ kR_0 fR_15_68 fl_X12_243 dX12_takeSlot_153 rfl ?_
  refine j_sipush hJ dX12_takeSlot_156 (by decide) ?_
  refine j_iload hJ dX12_takeSlot_159 1 rfl ?_
  refine j_iadd hJ dX12_takeSlot_161 ?_
  have g1 := hF.1; have hF := hF.2
  refine j_lload hJ dX12_takeSlot_162 2 rfl ?_
  refine j_last hJ g1 gx6 kR_58 hF.1 hF.2.1 dX12_takeSlot_164 (fun M2 eM2 => ?_)
  have hF := hF.2.2 M2 eM2
  exact j_vret hJ rfl dX12_takeSlot_165 hF
set_option maxHeartbeats 4000000 in
set_option maxRecDepth 100000 in
theorem k_X12_takeSlot_b111 {l : Launch} {D : va_G} {cy : Nat → ClassId} {ad : Nat → Nat} {Q : Int → MM → Prop} {J : Nat → List (Nat × Value) → List Value → MM → Prop} (hin : jIn ad ksR.length)   (hJ : jOk l D vwCl (tyR cy) cy ad ftR ksR (XtR ad) Om RX12 cX12_takeSlot 9 0 ({ frames := 3, cells := 0, slots := 0, locals := 70 } : Room) Q J)  : ∀ (x1 x2 x5 s0 : Int) (M : MM), ri_ x1 → ri_ x2 → ri_ x5 → rl_ s0 → w_X12_takeSlot_b111  Q  x1 x2 x5 s0 M → J 111 [(0, .ref (ad 0)), (1, .int (Ii x1)), (2, .int (Ii x2)), (5, .int (Ii x5))] [.long (Ll s0)] M := by
  intro x1 x2 x5 s0 M gx1 gx2 gx5 gs0 hF
  unfold w_X12_takeSlot_b111 at hF
  refine j_lstore (lv' := [(6, .long (Ll s0)), (0, .ref (ad 0)), (1, .int (Ii x1)), (2, .int (Ii x2)), (5, .int (Ii x5))]) hJ dX12_takeSlot_111 (by decide) rfl ?_
  refine j_aload_n hJ dX12_takeSlot_113 rfl 1 rfl ?_
  refine j_aload_n hJ dX12_takeSlot_114 rfl 1 rfl ?_
  refine j_gr (e := 40) hJ kR_0 fR_15_50 fl_X12_189 dX12_takeSlot_115 rfl ?_
  refine j_aload_n hJ dX12_takeSlot_118 rfl 1 rfl ?_
  refine j_iconst hJ dX12_takeSlot_119 ?_
  refine j_iload_n hJ dX12_takeSlot_120 rfl 2 rfl ?_
  refine j_callVi hJ (c_X12_at (l := l) (D := D) (cy := cy) (ad := ad) hin) rfl om_1153 ⟨rfl, rfl, Nat.le_of_ble_eq_true rfl, Nat.le_of_ble_eq_true rfl⟩ [.int (Ii 4), .int (Ii x1)] mv_X12_545 hd_X12_atv kR_0 rfl rfl rfl (Nat.le_of_ble_eq_true rfl) dX12_takeSlot_121 ⟨4, x1, rfl, rk_4, gx1, hF⟩ (fun r1 M2 gr1 qM2 => ?_)
  have hF := qM2 gr1
  refine j_iald hJ gr1 kR_40 hF.1 hF.2.1 dX12_takeSlot_124 (fun v3 ev3 gv3 => ?_)
  have hF := hF.2.2 v3 ev3 gv3
  refine j_iload_n hJ dX12_takeSlot_125 rfl 3 rfl ?_
  refine j_callVi hJ (c_X12_kindOf (l := l) (D := D) (cy := cy) (ad := ad) hin) rfl om_1093 ⟨rfl, rfl, Nat.le_of_ble_eq_true rfl, Nat.le_of_ble_eq_true rfl⟩ [.int (Ii v3), .int (Ii x2)] mv_X12_458 hd_X12_kindOfv kR_0 rfl rfl rfl (Nat.le_of_ble_eq_true rfl) dX12_takeSlot_126 ⟨v3, x2, rfl, gv3, gx2, hF⟩ (fun r4 M5 gr4 qM5 => ?_)
  have hF := qM5 gr4
  refine j_istore (lv' := [(8, .int (Ii r4)), (6, .long (Ll s0)), (0, .ref (ad 0)), (1, .int (Ii x1)), (2, .int (Ii x2)), (5, .int (Ii x5))]) hJ dX12_takeSlot_129 (by decide) rfl ?_
  refine j_aload_n hJ dX12_takeSlot_131 rfl 2 rfl ?_
  refine j_iload hJ dX12_takeSlot_132 0 rfl ?_
  refine j_iconst hJ dX12_takeSlot_134 ?_
  refine j_lload hJ dX12_takeSlot_135 1 rfl ?_
  refine j_callVz hJ (c_X12_isOfKind (l := l) (D := D) (cy := cy) (ad := ad) hin) rfl om_1117 ⟨rfl, rfl, Nat.le_of_ble_eq_true rfl, Nat.le_of_ble_eq_true rfl⟩ [.int (Ii r4), .int (Ii (-1)), .long (Ll s0)] mv_X12_495 hd_X12_isOfKindv kR_0 rfl rfl rfl (Nat.le_of_ble_eq_true rfl) dX12_takeSlot_137 ⟨r4, (-1), s0, rfl, gr4, rk_m1, gs0, hF⟩ (fun r6 M7 gr6 qM7 => ?_)
  have hF := qM7 gr6
  refine j_if_ne hJ 152 (jz_ri gr6) dX12_takeSlot_140 (by decide) (fun z8 => ?_) (fun z8 => ?_)
  · have hF := hF.1 z8
    exact j_sub hJ [2, 5, 1] rfl (k_X12_takeSlot_b152 hin  hJ  x5 s0 _ gx5 gs0 hF)
  · have hF := hF.2 z8
    refine j_aload_n hJ dX12_takeSlot_143 rfl 2 rfl ?_
    refine j_iconst hJ dX12_takeSlot_144 ?_
    refine j_aload_n hJ dX12_takeSlot_145 rfl 2 rfl ?_
    refine j_gi hJ kR_0 fR_15_143 rfl fl_X12_978 dX12_takeSlot_146 (fun v9 ev9 gv9 => ?_)
    have hF := hF v9 ev9 gv9
    refine j_callVv hJ (c_X12_fail (l := l) (D := D) (cy := cy) (ad := ad) hin) rfl om_1351 ⟨rfl, rfl, Nat.le_of_ble_eq_true rfl, Nat.le_of_ble_eq_true rfl⟩ [.int (Ii 4), .int (Ii v9)] mv_X12_653 hd_X12_failv kR_0 rfl rfl rfl (Nat.le_of_ble_eq_true rfl) dX12_takeSlot_149 ⟨4, v9, rfl, rk_4, gv9, hF⟩ (fun M11 qM11 => ?_)
    have hF := qM11
    exact j_sub hJ [2, 5, 1] rfl (k_X12_takeSlot_b152 hin  hJ  x5 s0 _ gx5 gs0 hF)
set_option maxHeartbeats 4000000 in
set_option maxRecDepth 100000 in
theorem k_X12_takeSlot_b76 {l : Launch} {D : va_G} {cy : Nat → ClassId} {ad : Nat → Nat} {Q : Int → MM → Prop} {J : Nat → List (Nat × Value) → List Value → MM → Prop} (hin : jIn ad ksR.length)   (hJ : jOk l D vwCl (tyR cy) cy ad ftR ksR (XtR ad) Om RX12 cX12_takeSlot 9 0 ({ frames := 3, cells := 0, slots := 0, locals := 70 } : Room) Q J)  : ∀ (x3 x5 : Int) (M : MM), rl_ x3 → ri_ x5 → w_X12_takeSlot_b76  Q  x3 x5 M → J 76 [(0, .ref (ad 0)), (3, .long (Ll x3)), (5, .int (Ii x5))] [] M := by
  intro x3 x5 M gx3 gx5 hF
  unfold w_X12_takeSlot_b76 at hF
  refine j_aload_n hJ dX12_takeSlot_76 rfl 0 rfl ?_
  refine j_gr (e := 58) hJ kR_0 fR_15_68 fl_X12_243 dX12_takeSlot_77 rfl ?_
  refine j_sipush hJ dX12_takeSlot_80 (by decide) ?_
  refine j_iload hJ dX12_takeSlot_83 2 rfl ?_
  refine j_iadd hJ dX12_takeSlot_85 ?_
  have g1 := hF.1; have hF := hF.2
  refine j_lload_n hJ dX12_takeSlot_86 rfl 1 rfl ?_
  refine j_lconst (x := 1) hJ dX12_takeSlot_87 rfl ?_
  refine j_lsubw hJ dX12_takeSlot_88 ?_
  refine j_last hJ g1 (rl_w _) kR_58 hF.1 hF.2.1 dX12_takeSlot_89 (fun M2 eM2 => ?_)
  have hF := hF.2.2 M2 eM2
  exact j_vret hJ rfl dX12_takeSlot_90 hF
set_option maxHeartbeats 4000000 in
set_option maxRecDepth 100000 in
theorem k_X12_takeSlot_b67 {l : Launch} {D : va_G} {cy : Nat → ClassId} {ad : Nat → Nat} {Q : Int → MM → Prop} {J : Nat → List (Nat × Value) → List Value → MM → Prop} (hin : jIn ad ksR.length)   (hJ : jOk l D vwCl (tyR cy) cy ad ftR ksR (XtR ad) Om RX12 cX12_takeSlot 9 0 ({ frames := 3, cells := 0, slots := 0, locals := 70 } : Room) Q J)  : ∀ (x3 x5 : Int) (M : MM), rl_ x3 → ri_ x5 → w_X12_takeSlot_b67  Q  x3 x5 M → J 67 [(0, .ref (ad 0)), (3, .long (Ll x3)), (5, .int (Ii x5))] [] M := by
  intro x3 x5 M gx3 gx5 hF
  unfold w_X12_takeSlot_b67 at hF
  refine j_aload_n hJ dX12_takeSlot_67 rfl 0 rfl ?_
  refine j_iconst hJ dX12_takeSlot_68 ?_
  refine j_aload_n hJ dX12_takeSlot_69 rfl 0 rfl ?_
  refine j_gi hJ kR_0 fR_15_143 rfl fl_X12_978 dX12_takeSlot_70 (fun v1 ev1 gv1 => ?_)
  have hF := hF v1 ev1 gv1
  refine j_callVv hJ (c_X12_fail (l := l) (D := D) (cy := cy) (ad := ad) hin) rfl om_1351 ⟨rfl, rfl, Nat.le_of_ble_eq_true rfl, Nat.le_of_ble_eq_true rfl⟩ [.int (Ii 4), .int (Ii v1)] mv_X12_653 hd_X12_failv kR_0 rfl rfl rfl (Nat.le_of_ble_eq_true rfl) dX12_takeSlot_73 ⟨4, v1, rfl, rk_4, gv1, hF⟩ (fun M3 qM3 => ?_)
  have hF := qM3
  exact j_sub hJ [0, 1, 2] rfl (k_X12_takeSlot_b76 hin  hJ  x3 x5 _ gx3 gx5 hF)
set_option maxHeartbeats 4000000 in
set_option maxRecDepth 100000 in
theorem c_X12_takeSlot {l : Launch} {D : va_G} {cy : Nat → ClassId} {ad : Nat → Nat} (hin : jIn ad ksR.length) : jCN l D vwCl (tyR cy) cy ad ftR ksR (XtR ad) yX12_takeSlot (.code yX12_takeSlot cX12_takeSlot 9 none :: Om) ({ frames := 3, cells := 0, slots := 0, locals := 70 } : Room) 0 (W_X12_takeSlot ad) := by
  refine jCN_of (y := yX12_takeSlot) (cc := cX12_takeSlot) (nL := 9) (rk := 0) (rm := ({ frames := 3, cells := 0, slots := 0, locals := 70 } : Room)) (own := RX12) (tyR_ok cy) hin (XtR_ok ad) Om_good (by decide) rfl ?_
  intro Q av M hF
  obtain ⟨p1, p2, rfl, gp1, gp2, hF⟩ := hF
  refine ⟨Nat.le_of_ble_eq_true rfl, fun J hJ => ?_⟩
  show J 0 [(0, .ref (ad 0)), (1, .int (Ii p1)), (2, .int (Ii p2))] [] M
  unfold w_X12_takeSlot at hF
  refine j_aload_n hJ dX12_takeSlot_0 rfl 0 rfl ?_
  refine j_callVl hJ (c_X12_takeNumber (l := l) (D := D) (cy := cy) (ad := ad) hin) rfl om_1554 ⟨rfl, rfl, Nat.le_of_ble_eq_true rfl, Nat.le_of_ble_eq_true rfl⟩ [] mv_X12_983 hd_X12_takeNumberv kR_0 rfl rfl rfl (Nat.le_of_ble_eq_true rfl) dX12_takeSlot_1 ⟨rfl, hF⟩ (fun r1 M2 gr1 qM2 => ?_)
  have hF := qM2 gr1
  refine j_lstore_n (lv' := [(3, .long (Ll r1)), (0, .ref (ad 0)), (1, .int (Ii p1)), (2, .int (Ii p2))]) hJ dX12_takeSlot_4 rfl (by decide) rfl ?_
  refine j_aload_n hJ dX12_takeSlot_5 rfl 1 rfl ?_
  refine j_gr (e := 42) hJ kR_0 fR_15_52 fl_X12_195 dX12_takeSlot_6 rfl ?_
  refine j_aload_n hJ dX12_takeSlot_9 rfl 1 rfl ?_
  refine j_iconst hJ dX12_takeSlot_10 ?_
  refine j_iload_n hJ dX12_takeSlot_11 rfl 2 rfl ?_
  refine j_callVi hJ (c_X12_at (l := l) (D := D) (cy := cy) (ad := ad) hin) rfl om_1153 ⟨rfl, rfl, Nat.le_of_ble_eq_true rfl, Nat.le_of_ble_eq_true rfl⟩ [.int (Ii 4), .int (Ii p1)] mv_X12_545 hd_X12_atv kR_0 rfl rfl rfl (Nat.le_of_ble_eq_true rfl) dX12_takeSlot_12 ⟨4, p1, rfl, rk_4, gp1, hF⟩ (fun r3 M4 gr3 qM4 => ?_)
  have hF := qM4 gr3
  refine j_iald hJ gr3 kR_42 hF.1 hF.2.1 dX12_takeSlot_15 (fun v5 ev5 gv5 => ?_)
  have hF := hF.2.2 v5 ev5 gv5
  refine j_iload_n hJ dX12_takeSlot_16 rfl 3 rfl ?_
  refine j_iadd hJ dX12_takeSlot_17 ?_
  have g6 := hF.1; have hF := hF.2
  refine j_istore (lv' := [(5, .int (Ii (v5 + p2))), (3, .long (Ll r1)), (0, .ref (ad 0)), (1, .int (Ii p1)), (2, .int (Ii p2))]) hJ dX12_takeSlot_18 (by decide) rfl ?_
  refine j_aload_n hJ dX12_takeSlot_20 rfl 2 rfl ?_
  refine j_gr (e := 101) hJ kR_0 fR_15_145 fl_X12_378 dX12_takeSlot_21 rfl ?_
  refine j_iload hJ dX12_takeSlot_24 0 rfl ?_
  refine j_aload_n hJ dX12_takeSlot_26 rfl 2 rfl ?_
  refine j_gi hJ kR_0 fR_15_143 rfl fl_X12_978 dX12_takeSlot_27 (fun v7 ev7 gv7 => ?_)
  have hF := hF v7 ev7 gv7
  refine j_iast hJ g6 gv7 kR_101 hF.1 hF.2.1 dX12_takeSlot_30 (fun M8 eM8 => ?_)
  have hF := hF.2.2 M8 eM8
  refine j_aload_n hJ dX12_takeSlot_31 rfl 2 rfl ?_
  refine j_gi hJ kR_0 fR_15_83 rfl fl_X12_625 dX12_takeSlot_32 (fun v9 ev9 gv9 => ?_)
  have hF := hF v9 ev9 gv9
  refine j_if_le hJ 39 gv9 dX12_takeSlot_35 (by decide) (fun z10 => ?_) (fun z10 => ?_)
  · have hF := hF.1 z10
    refine j_aload_n hJ dX12_takeSlot_39 rfl 2 rfl ?_
    refine j_iconst hJ dX12_takeSlot_40 ?_
    refine j_iload_n hJ dX12_takeSlot_41 rfl 3 rfl ?_
    refine j_iload_n hJ dX12_takeSlot_42 rfl 4 rfl ?_
    refine j_callVz hJ (c_X12_linksIn (l := l) (D := D) (cy := cy) (ad := ad) hin) rfl om_1169 ⟨rfl, rfl, Nat.le_of_ble_eq_true rfl, Nat.le_of_ble_eq_true rfl⟩ [.int (Ii 4), .int (Ii p1), .int (Ii p2)] mv_X12_573 hd_X12_linksInv kR_0 rfl rfl rfl (Nat.le_of_ble_eq_true rfl) dX12_takeSlot_43 ⟨4, p1, p2, rfl, rk_4, gp1, gp2, hF⟩ (fun r11 M12 gr11 qM12 => ?_)
    have hF := qM12 gr11
    refine j_if_eq hJ 91 (jz_ri gr11) dX12_takeSlot_46 (by decide) (fun z13 => ?_) (fun z13 => ?_)
    · have hF := hF.1 z13
      refine j_lload_n hJ dX12_takeSlot_91 rfl 1 rfl ?_
      refine j_lconst (x := 1) hJ dX12_takeSlot_92 rfl ?_
      refine j_land hJ dX12_takeSlot_93 ?_
      refine j_lconst (x := 0) hJ dX12_takeSlot_94 rfl ?_
      refine j_lcmp_ne hJ 105 (rl_of _) lkm_0 dX12_takeSlot_95 dX12_takeSlot_96 (by decide) (fun z14 => ?_) (fun z14 => ?_)
      · have hF := hF.1 z14
        refine j_lload_n hJ dX12_takeSlot_105 rfl 1 rfl ?_
        refine j_iconst hJ dX12_takeSlot_106 ?_
        refine j_lushr hJ dX12_takeSlot_107 ?_
        refine j_lnegw hJ dX12_takeSlot_108 ?_
        refine j_lconst (x := 1) hJ dX12_takeSlot_109 rfl ?_
        refine j_lsubw hJ dX12_takeSlot_110 ?_
        exact j_sub hJ [2, 3, 4, 0] rfl (k_X12_takeSlot_b111 hin  hJ  p1 p2 (v5 + p2) (w64 ((w64 (-(jlushr r1 1))) - 1)) _ gp1 gp2 g6 (rl_w _) hF)
      · have hF := hF.2 z14
        refine j_lload_n hJ dX12_takeSlot_99 rfl 1 rfl ?_
        refine j_iconst hJ dX12_takeSlot_100 ?_
        refine j_lushr hJ dX12_takeSlot_101 ?_
        refine j_goto hJ 111 dX12_takeSlot_102 (by decide) ?_
        exact j_sub hJ [2, 3, 4, 0] rfl (k_X12_takeSlot_b111 hin  hJ  p1 p2 (v5 + p2) (jlushr r1 1) _ gp1 gp2 g6 (rl_of _) hF)
    · have hF := hF.2 z13
      refine j_lload_n hJ dX12_takeSlot_49 rfl 1 rfl ?_
      refine j_lconst (x := 0) hJ dX12_takeSlot_50 rfl ?_
      refine j_lcmp_lt hJ 67 gr1 lkm_0 dX12_takeSlot_51 dX12_takeSlot_52 (by decide) (fun z15 => ?_) (fun z15 => ?_)
      · have hF := hF.1 z15
        exact j_sub hJ [2, 1, 0] rfl (k_X12_takeSlot_b67 hin  hJ  r1 (v5 + p2) _ gr1 g6 hF)
      · have hF := hF.2 z15
        refine j_lload_n hJ dX12_takeSlot_55 rfl 1 rfl ?_
        refine j_aload_n hJ dX12_takeSlot_56 rfl 2 rfl ?_
        refine j_gr (e := 38) hJ kR_0 fR_15_48 fl_X12_183 dX12_takeSlot_57 rfl ?_
        refine j_iconst hJ dX12_takeSlot_60 ?_
        refine j_iald hJ rk_4 kR_38 (by decide) (by decide) dX12_takeSlot_61 (fun v16 ev16 gv16 => ?_)
        have hF := hF v16 ev16 gv16
        refine j_i2l hJ gv16 dX12_takeSlot_62 ?_
        refine j_lcmp_le hJ 76 gr1 (rl_ri gv16) dX12_takeSlot_63 dX12_takeSlot_64 (by decide) (fun z17 => ?_) (fun z17 => ?_)
        · have hF := hF.1 z17
          exact j_sub hJ [2, 1, 0] rfl (k_X12_takeSlot_b76 hin  hJ  r1 (v5 + p2) _ gr1 g6 hF)
        · have hF := hF.2 z17
          exact j_sub hJ [2, 1, 0] rfl (k_X12_takeSlot_b67 hin  hJ  r1 (v5 + p2) _ gr1 g6 hF)
  · have hF := hF.2 z10
    exact j_vret hJ rfl dX12_takeSlot_38 hF
def W_X12_takeThing (ad : Nat → Nat) (Q : Int → MM → Prop) (av : List Value) (M : MM) : Prop := ∃ (p1 : Int), av = [.ref (ad 0), .int (Ii p1)] ∧ ri_ p1 ∧ w_X12_takeThing  Q p1 M
set_option maxHeartbeats 4000000 in
set_option maxRecDepth 100000 in
theorem k_X12_takeThing_b328 {l : Launch} {D : va_G} {cy : Nat → ClassId} {ad : Nat → Nat} {Q : Int → MM → Prop} {J : Nat → List (Nat × Value) → List Value → MM → Prop} (hin : jIn ad ksR.length)   (hJ : jOk l D vwCl (tyR cy) cy ad ftR ksR (XtR ad) Om RX12 cX12_takeThing 11 0 ({ frames := 4, cells := 0, slots := 0, locals := 98 } : Room) Q J)  : ∀ (x9 : Int) (M : MM), ri_ x9 → w_X12_takeThing_b328  Q  x9 M → J 328 [(0, .ref (ad 0)), (9, .int (Ii x9))] [] M := by
  intro x9 M gx9 hF
  unfold w_X12_takeThing_b328 at hF
  refine j_aload_n hJ dX12_takeThing_328 rfl 0 rfl ?_
  refine j_dup hJ dX12_takeThing_329 rfl ?_
  refine j_gi hJ kR_0 fR_15_146 rfl fl_X12_991 dX12_takeThing_330 (fun v1 ev1 gv1 => ?_)
  have hF := hF v1 ev1 gv1
  refine j_iload hJ dX12_takeThing_333 1 rfl ?_
  refine j_iadd hJ dX12_takeThing_335 ?_
  have g2 := hF.1; have hF := hF.2
  refine j_pi hJ g2 kR_0 fR_15_146 rfl fp_X12_991 dX12_takeThing_336 (fun M3 eM3 => ?_)
  have hF := hF M3 eM3
  exact j_vret hJ rfl dX12_takeThing_339 hF
set_option maxHeartbeats 4000000 in
set_option maxRecDepth 100000 in
theorem k_X12_takeThing_b301 {l : Launch} {D : va_G} {cy : Nat → ClassId} {ad : Nat → Nat} {Q : Int → MM → Prop} {J : Nat → List (Nat × Value) → List Value → MM → Prop} (hin : jIn ad ksR.length)   (hJ : jOk l D vwCl (tyR cy) cy ad ftR ksR (XtR ad) Om RX12 cX12_takeThing 11 0 ({ frames := 4, cells := 0, slots := 0, locals := 98 } : Room) Q J)  : ∀ (x1 x9 x10 : Int) (M : MM), ri_ x1 → ri_ x9 → ri_ x10 → w_X12_takeThing_b301  Q  x1 x9 x10 M → J 301 [(0, .ref (ad 0)), (1, .int (Ii x1)), (9, .int (Ii x9)), (10, .int (Ii x10))] [] M := by
  have H9 : ∀ (n : Nat) (x1 x9 x10 : Int) (M : MM), ri_ x1 → ri_ x9 → ri_ x10 → jit (fun _ _ _ _ => False) (wb_X12_takeThing_b301  Q ) n x1 x9 x10 M → J 301 [(0, .ref (ad 0)), (1, .int (Ii x1)), (9, .int (Ii x9)), (10, .int (Ii x10))] [] M := by
    intro n
    induction n with
    | zero => intro x1 x9 x10 M gx1 gx9 gx10 hF; exact False.elim hF
    | succ n ih =>
    intro x1 x9 x10 M gx1 gx9 gx10 hF
    have hF : wb_X12_takeThing_b301  Q  (jit (fun _ _ _ _ => False) (wb_X12_takeThing_b301  Q ) n) x1 x9 x10 M := hF
    unfold wb_X12_takeThing_b301 at hF
    refine j_iload hJ dX12_takeThing_301 3 rfl ?_
    refine j_iload hJ dX12_takeThing_303 2 rfl ?_
    refine j_icmp_ge hJ 328 gx10 gx9 dX12_takeThing_305 (by decide) (fun z1 => ?_) (fun z1 => ?_)
    · have hF := hF.1 z1
      exact j_sub hJ [0, 2] rfl (k_X12_takeThing_b328 hin  hJ  x9 _ gx9 hF)
    · have hF := hF.2 z1
      refine j_aload_n hJ dX12_takeThing_308 rfl 0 rfl ?_
      refine j_gi hJ kR_0 fR_15_83 rfl fl_X12_625 dX12_takeThing_309 (fun v2 ev2 gv2 => ?_)
      have hF := hF v2 ev2 gv2
      refine j_if_ne hJ 328 gv2 dX12_takeThing_312 (by decide) (fun z3 => ?_) (fun z3 => ?_)
      · have hF := hF.1 z3
        exact j_sub hJ [0, 2] rfl (k_X12_takeThing_b328 hin  hJ  x9 _ gx9 hF)
      · have hF := hF.2 z3
        refine j_aload_n hJ dX12_takeThing_315 rfl 0 rfl ?_
        refine j_iload_n hJ dX12_takeThing_316 rfl 1 rfl ?_
        refine j_iload hJ dX12_takeThing_317 3 rfl ?_
        refine j_callVv hJ (c_X12_takeSlot (l := l) (D := D) (cy := cy) (ad := ad) hin) rfl om_1558 ⟨rfl, rfl, Nat.le_of_ble_eq_true rfl, Nat.le_of_ble_eq_true rfl⟩ [.int (Ii x1), .int (Ii x10)] mv_X12_994 hd_X12_takeSlotv kR_0 rfl rfl rfl (Nat.le_of_ble_eq_true rfl) dX12_takeThing_319 ⟨x1, x10, rfl, gx1, gx10, hF⟩ (fun M5 qM5 => ?_)
        have hF := qM5
        refine j_iinc (lv' := [(10, .int (Ii (x10 + 1))), (0, .ref (ad 0)), (1, .int (Ii x1)), (9, .int (Ii x9))]) (k := 3) hJ dX12_takeThing_322 rfl (by decide) rfl ?_
        have g6 := hF.1; have hF := hF.2
        refine j_goto hJ 301 dX12_takeThing_325 (by decide) ?_
        exact j_sub hJ [1, 2, 3, 0] rfl (ih x1 x9 (x10 + 1) _ gx1 gx9 g6 hF)
  intro x1 x9 x10 M gx1 gx9 gx10 hF
  obtain ⟨n, hF⟩ := hF
  exact H9 n x1 x9 x10 M gx1 gx9 gx10 hF
set_option maxHeartbeats 4000000 in
set_option maxRecDepth 100000 in
theorem k_X12_takeThing_b298 {l : Launch} {D : va_G} {cy : Nat → ClassId} {ad : Nat → Nat} {Q : Int → MM → Prop} {J : Nat → List (Nat × Value) → List Value → MM → Prop} (hin : jIn ad ksR.length)   (hJ : jOk l D vwCl (tyR cy) cy ad ftR ksR (XtR ad) Om RX12 cX12_takeThing 11 0 ({ frames := 4, cells := 0, slots := 0, locals := 98 } : Room) Q J)  : ∀ (x1 x9 : Int) (M : MM), ri_ x1 → ri_ x9 → w_X12_takeThing_b298  Q  x1 x9 M → J 298 [(0, .ref (ad 0)), (1, .int (Ii x1)), (9, .int (Ii x9))] [] M := by
  intro x1 x9 M gx1 gx9 hF
  unfold w_X12_takeThing_b298 at hF
  refine j_iconst hJ dX12_takeThing_298 ?_
  refine j_istore (lv' := [(10, .int (Ii 0)), (0, .ref (ad 0)), (1, .int (Ii x1)), (9, .int (Ii x9))]) hJ dX12_takeThing_299 (by decide) rfl ?_
  exact j_sub hJ [1, 2, 3, 0] rfl (k_X12_takeThing_b301 hin  hJ  x1 x9 0 _ gx1 gx9 rk_0 hF)
set_option maxHeartbeats 4000000 in
set_option maxRecDepth 100000 in
theorem k_X12_takeThing_b227 {l : Launch} {D : va_G} {cy : Nat → ClassId} {ad : Nat → Nat} {Q : Int → MM → Prop} {J : Nat → List (Nat × Value) → List Value → MM → Prop} (hin : jIn ad ksR.length)   (hJ : jOk l D vwCl (tyR cy) cy ad ftR ksR (XtR ad) Om RX12 cX12_takeThing 11 0 ({ frames := 4, cells := 0, slots := 0, locals := 98 } : Room) Q J)  : ∀ (x1 x5 x7 : Int) (M : MM), ri_ x1 → rl_ x5 → rl_ x7 → w_X12_takeThing_b227  Q  x1 x5 x7 M → J 227 [(0, .ref (ad 0)), (1, .int (Ii x1)), (5, .long (Ll x5)), (7, .long (Ll x7))] [] M := by
  intro x1 x5 x7 M gx1 gx5 gx7 hF
  unfold w_X12_takeThing_b227 at hF
  refine j_aload_n hJ dX12_takeThing_227 rfl 0 rfl ?_
  refine j_gi hJ kR_0 fR_15_83 rfl fl_X12_625 dX12_takeThing_228 (fun v1 ev1 gv1 => ?_)
  have hF := hF v1 ev1 gv1
  refine j_if_le hJ 235 gv1 dX12_takeThing_231 (by decide) (fun z2 => ?_) (fun z2 => ?_)
  · have hF := hF.1 z2
    refine j_aload_n hJ dX12_takeThing_235 rfl 0 rfl ?_
    refine j_gr (e := 41) hJ kR_0 fR_15_51 fl_X12_192 dX12_takeThing_236 rfl ?_
    refine j_aload_n hJ dX12_takeThing_239 rfl 0 rfl ?_
    refine j_iconst hJ dX12_takeThing_240 ?_
    refine j_iload_n hJ dX12_takeThing_241 rfl 1 rfl ?_
    refine j_callVi hJ (c_X12_at (l := l) (D := D) (cy := cy) (ad := ad) hin) rfl om_1153 ⟨rfl, rfl, Nat.le_of_ble_eq_true rfl, Nat.le_of_ble_eq_true rfl⟩ [.int (Ii 4), .int (Ii x1)] mv_X12_545 hd_X12_atv kR_0 rfl rfl rfl (Nat.le_of_ble_eq_true rfl) dX12_takeThing_242 ⟨4, x1, rfl, rk_4, gx1, hF⟩ (fun r3 M4 gr3 qM4 => ?_)
    have hF := qM4 gr3
    refine j_lload hJ dX12_takeThing_245 3 rfl ?_
    refine j_l2i hJ dX12_takeThing_247 ?_
    have g5 := hF.1; have hF := hF.2
    refine j_iast hJ gr3 g5 kR_41 hF.1 hF.2.1 dX12_takeThing_248 (fun M6 eM6 => ?_)
    have hF := hF.2.2 M6 eM6
    refine j_aload_n hJ dX12_takeThing_249 rfl 0 rfl ?_
    refine j_gr (e := 42) hJ kR_0 fR_15_52 fl_X12_195 dX12_takeThing_250 rfl ?_
    refine j_aload_n hJ dX12_takeThing_253 rfl 0 rfl ?_
    refine j_iconst hJ dX12_takeThing_254 ?_
    refine j_iload_n hJ dX12_takeThing_255 rfl 1 rfl ?_
    refine j_callVi hJ (c_X12_at (l := l) (D := D) (cy := cy) (ad := ad) hin) rfl om_1153 ⟨rfl, rfl, Nat.le_of_ble_eq_true rfl, Nat.le_of_ble_eq_true rfl⟩ [.int (Ii 4), .int (Ii x1)] mv_X12_545 hd_X12_atv kR_0 rfl rfl rfl (Nat.le_of_ble_eq_true rfl) dX12_takeThing_256 ⟨4, x1, rfl, rk_4, gx1, hF⟩ (fun r7 M8 gr7 qM8 => ?_)
    have hF := qM8 gr7
    refine j_aload_n hJ dX12_takeThing_259 rfl 0 rfl ?_
    refine j_gi hJ kR_0 fR_15_146 rfl fl_X12_991 dX12_takeThing_260 (fun v9 ev9 gv9 => ?_)
    have hF := hF v9 ev9 gv9
    refine j_iast hJ gr7 gv9 kR_42 hF.1 hF.2.1 dX12_takeThing_263 (fun M10 eM10 => ?_)
    have hF := hF.2.2 M10 eM10
    refine j_aload_n hJ dX12_takeThing_264 rfl 0 rfl ?_
    refine j_lload hJ dX12_takeThing_265 2 rfl ?_
    refine j_l2i hJ dX12_takeThing_267 ?_
    have g11 := hF.1; have hF := hF.2
    refine j_lload hJ dX12_takeThing_268 3 rfl ?_
    refine j_l2i hJ dX12_takeThing_270 ?_
    have g12 := hF.1; have hF := hF.2
    refine j_callVi hJ (c_X12_slotCount (l := l) (D := D) (cy := cy) (ad := ad) hin) rfl om_1089 ⟨rfl, rfl, Nat.le_of_ble_eq_true rfl, Nat.le_of_ble_eq_true rfl⟩ [.int (Ii x5), .int (Ii x7)] mv_X12_455 hd_X12_slotCountv kR_0 rfl rfl rfl (Nat.le_of_ble_eq_true rfl) dX12_takeThing_271 ⟨x5, x7, rfl, g11, g12, hF⟩ (fun r13 M14 gr13 qM14 => ?_)
    have hF := qM14 gr13
    refine j_istore (lv' := [(9, .int (Ii r13)), (0, .ref (ad 0)), (1, .int (Ii x1)), (5, .long (Ll x5)), (7, .long (Ll x7))]) hJ dX12_takeThing_274 (by decide) rfl ?_
    refine j_aload_n hJ dX12_takeThing_276 rfl 1 rfl ?_
    refine j_gi hJ kR_0 fR_15_146 rfl fl_X12_991 dX12_takeThing_277 (fun v15 ev15 gv15 => ?_)
    have hF := hF v15 ev15 gv15
    refine j_iload hJ dX12_takeThing_280 0 rfl ?_
    refine j_iadd hJ dX12_takeThing_282 ?_
    have g16 := hF.1; have hF := hF.2
    refine j_sipush hJ dX12_takeThing_283 (by decide) ?_
    refine j_icmp_le hJ 298 g16 rk_4000 dX12_takeThing_286 (by decide) (fun z17 => ?_) (fun z17 => ?_)
    · have hF := hF.1 z17
      exact j_sub hJ [1, 2, 0] rfl (k_X12_takeThing_b298 hin  hJ  x1 r13 _ gx1 gr13 hF)
    · have hF := hF.2 z17
      refine j_aload_n hJ dX12_takeThing_289 rfl 1 rfl ?_
      refine j_iconst hJ dX12_takeThing_290 ?_
      refine j_aload_n hJ dX12_takeThing_291 rfl 1 rfl ?_
      refine j_gi hJ kR_0 fR_15_143 rfl fl_X12_978 dX12_takeThing_292 (fun v18 ev18 gv18 => ?_)
      have hF := hF v18 ev18 gv18
      refine j_callVv hJ (c_X12_fail (l := l) (D := D) (cy := cy) (ad := ad) hin) rfl om_1351 ⟨rfl, rfl, Nat.le_of_ble_eq_true rfl, Nat.le_of_ble_eq_true rfl⟩ [.int (Ii 4), .int (Ii v18)] mv_X12_653 hd_X12_failv kR_0 rfl rfl rfl (Nat.le_of_ble_eq_true rfl) dX12_takeThing_295 ⟨4, v18, rfl, rk_4, gv18, hF⟩ (fun M20 qM20 => ?_)
      have hF := qM20
      exact j_sub hJ [1, 2, 0] rfl (k_X12_takeThing_b298 hin  hJ  x1 r13 _ gx1 gr13 hF)
  · have hF := hF.2 z2
    exact j_vret hJ rfl dX12_takeThing_234 hF
set_option maxHeartbeats 4000000 in
set_option maxRecDepth 100000 in
theorem k_X12_takeThing_b218 {l : Launch} {D : va_G} {cy : Nat → ClassId} {ad : Nat → Nat} {Q : Int → MM → Prop} {J : Nat → List (Nat × Value) → List Value → MM → Prop} (hin : jIn ad ksR.length)   (hJ : jOk l D vwCl (tyR cy) cy ad ftR ksR (XtR ad) Om RX12 cX12_takeThing 11 0 ({ frames := 4, cells := 0, slots := 0, locals := 98 } : Room) Q J)  : ∀ (x1 x5 x7 : Int) (M : MM), ri_ x1 → rl_ x5 → rl_ x7 → w_X12_takeThing_b218  Q  x1 x5 x7 M → J 218 [(0, .ref (ad 0)), (1, .int (Ii x1)), (5, .long (Ll x5)), (7, .long (Ll x7))] [] M := by
  intro x1 x5 x7 M gx1 gx5 gx7 hF
  unfold w_X12_takeThing_b218 at hF
  refine j_aload_n hJ dX12_takeThing_218 rfl 0 rfl ?_
  refine j_iconst hJ dX12_takeThing_219 ?_
  refine j_aload_n hJ dX12_takeThing_220 rfl 0 rfl ?_
  refine j_gi hJ kR_0 fR_15_143 rfl fl_X12_978 dX12_takeThing_221 (fun v1 ev1 gv1 => ?_)
  have hF := hF v1 ev1 gv1
  refine j_callVv hJ (c_X12_fail (l := l) (D := D) (cy := cy) (ad := ad) hin) rfl om_1351 ⟨rfl, rfl, Nat.le_of_ble_eq_true rfl, Nat.le_of_ble_eq_true rfl⟩ [.int (Ii 4), .int (Ii v1)] mv_X12_653 hd_X12_failv kR_0 rfl rfl rfl (Nat.le_of_ble_eq_true rfl) dX12_takeThing_224 ⟨4, v1, rfl, rk_4, gv1, hF⟩ (fun M3 qM3 => ?_)
  have hF := qM3
  exact j_sub hJ [0, 1, 2, 3] rfl (k_X12_takeThing_b227 hin  hJ  x1 x5 x7 _ gx1 gx5 gx7 hF)
set_option maxHeartbeats 4000000 in
set_option maxRecDepth 100000 in
theorem k_X12_takeThing_b150 {l : Launch} {D : va_G} {cy : Nat → ClassId} {ad : Nat → Nat} {Q : Int → MM → Prop} {J : Nat → List (Nat × Value) → List Value → MM → Prop} (hin : jIn ad ksR.length)   (hJ : jOk l D vwCl (tyR cy) cy ad ftR ksR (XtR ad) Om RX12 cX12_takeThing 11 0 ({ frames := 4, cells := 0, slots := 0, locals := 98 } : Room) Q J)  : ∀ (x1 x5 : Int) (M : MM), ri_ x1 → rl_ x5 → w_X12_takeThing_b150  Q  x1 x5 M → J 150 [(0, .ref (ad 0)), (1, .int (Ii x1)), (5, .long (Ll x5))] [] M := by
  intro x1 x5 M gx1 gx5 hF
  unfold w_X12_takeThing_b150 at hF
  refine j_aload_n hJ dX12_takeThing_150 rfl 0 rfl ?_
  refine j_gi hJ kR_0 fR_15_83 rfl fl_X12_625 dX12_takeThing_151 (fun v1 ev1 gv1 => ?_)
  have hF := hF v1 ev1 gv1
  refine j_if_le hJ 158 gv1 dX12_takeThing_154 (by decide) (fun z2 => ?_) (fun z2 => ?_)
  · have hF := hF.1 z2
    refine j_aload_n hJ dX12_takeThing_158 rfl 0 rfl ?_
    refine j_gr (e := 40) hJ kR_0 fR_15_50 fl_X12_189 dX12_takeThing_159 rfl ?_
    refine j_aload_n hJ dX12_takeThing_162 rfl 0 rfl ?_
    refine j_iconst hJ dX12_takeThing_163 ?_
    refine j_iload_n hJ dX12_takeThing_164 rfl 1 rfl ?_
    refine j_callVi hJ (c_X12_at (l := l) (D := D) (cy := cy) (ad := ad) hin) rfl om_1153 ⟨rfl, rfl, Nat.le_of_ble_eq_true rfl, Nat.le_of_ble_eq_true rfl⟩ [.int (Ii 4), .int (Ii x1)] mv_X12_545 hd_X12_atv kR_0 rfl rfl rfl (Nat.le_of_ble_eq_true rfl) dX12_takeThing_165 ⟨4, x1, rfl, rk_4, gx1, hF⟩ (fun r3 M4 gr3 qM4 => ?_)
    have hF := qM4 gr3
    refine j_lload hJ dX12_takeThing_168 2 rfl ?_
    refine j_l2i hJ dX12_takeThing_170 ?_
    have g5 := hF.1; have hF := hF.2
    refine j_iast hJ gr3 g5 kR_40 hF.1 hF.2.1 dX12_takeThing_171 (fun M6 eM6 => ?_)
    have hF := hF.2.2 M6 eM6
    refine j_aload_n hJ dX12_takeThing_172 rfl 0 rfl ?_
    refine j_callVl hJ (c_X12_takeNumber (l := l) (D := D) (cy := cy) (ad := ad) hin) rfl om_1554 ⟨rfl, rfl, Nat.le_of_ble_eq_true rfl, Nat.le_of_ble_eq_true rfl⟩ [] mv_X12_983 hd_X12_takeNumberv kR_0 rfl rfl rfl (Nat.le_of_ble_eq_true rfl) dX12_takeThing_173 ⟨rfl, hF⟩ (fun r7 M8 gr7 qM8 => ?_)
    have hF := qM8 gr7
    refine j_lstore (lv' := [(7, .long (Ll r7)), (0, .ref (ad 0)), (1, .int (Ii x1)), (5, .long (Ll x5))]) hJ dX12_takeThing_176 (by decide) rfl ?_
    refine j_aload_n hJ dX12_takeThing_178 rfl 1 rfl ?_
    refine j_gi hJ kR_0 fR_15_83 rfl fl_X12_625 dX12_takeThing_179 (fun v9 ev9 gv9 => ?_)
    have hF := hF v9 ev9 gv9
    refine j_if_ne hJ 227 gv9 dX12_takeThing_182 (by decide) (fun z10 => ?_) (fun z10 => ?_)
    · have hF := hF.1 z10
      exact j_sub hJ [1, 2, 3, 0] rfl (k_X12_takeThing_b227 hin  hJ  x1 x5 r7 _ gx1 gx5 gr7 hF)
    · have hF := hF.2 z10
      refine j_lload hJ dX12_takeThing_185 0 rfl ?_
      refine j_lconst (x := 0) hJ dX12_takeThing_187 rfl ?_
      refine j_lcmp_lt hJ 218 gr7 lkm_0 dX12_takeThing_188 dX12_takeThing_189 (by decide) (fun z11 => ?_) (fun z11 => ?_)
      · have hF := hF.1 z11
        exact j_sub hJ [1, 2, 3, 0] rfl (k_X12_takeThing_b218 hin  hJ  x1 x5 r7 _ gx1 gx5 gr7 hF)
      · have hF := hF.2 z11
        refine j_lload hJ dX12_takeThing_192 0 rfl ?_
        refine j_ldc2 hJ 60 om_1393 (by decide) dX12_takeThing_194 ?_
        refine j_lcmp_gt hJ 218 gr7 lk_60 dX12_takeThing_197 dX12_takeThing_198 (by decide) (fun z12 => ?_) (fun z12 => ?_)
        · have hF := hF.1 z12
          exact j_sub hJ [1, 2, 3, 0] rfl (k_X12_takeThing_b218 hin  hJ  x1 x5 r7 _ gx1 gx5 gr7 hF)
        · have hF := hF.2 z12
          refine j_aload_n hJ dX12_takeThing_201 rfl 1 rfl ?_
          refine j_lload hJ dX12_takeThing_202 3 rfl ?_
          refine j_l2i hJ dX12_takeThing_204 ?_
          have g13 := hF.1; have hF := hF.2
          refine j_callVz hJ (c_X12_isClass (l := l) (D := D) (cy := cy) (ad := ad) hin) rfl om_1064 ⟨rfl, rfl, Nat.le_of_ble_eq_true rfl, Nat.le_of_ble_eq_true rfl⟩ [.int (Ii x5)] mv_X12_416 hd_X12_isClassv kR_0 rfl rfl rfl (Nat.le_of_ble_eq_true rfl) dX12_takeThing_205 ⟨x5, rfl, g13, hF⟩ (fun r14 M15 gr14 qM15 => ?_)
          have hF := qM15 gr14
          refine j_if_eq hJ 227 (jz_ri gr14) dX12_takeThing_208 (by decide) (fun z16 => ?_) (fun z16 => ?_)
          · have hF := hF.1 z16
            exact j_sub hJ [1, 2, 3, 0] rfl (k_X12_takeThing_b227 hin  hJ  x1 x5 r7 _ gx1 gx5 gr7 hF)
          · have hF := hF.2 z16
            refine j_lload hJ dX12_takeThing_211 0 rfl ?_
            refine j_lconst (x := 0) hJ dX12_takeThing_213 rfl ?_
            refine j_lcmp_eq hJ 227 gr7 lkm_0 dX12_takeThing_214 dX12_takeThing_215 (by decide) (fun z17 => ?_) (fun z17 => ?_)
            · have hF := hF.1 z17
              exact j_sub hJ [1, 2, 3, 0] rfl (k_X12_takeThing_b227 hin  hJ  x1 x5 r7 _ gx1 gx5 gr7 hF)
            · have hF := hF.2 z17
              exact j_sub hJ [1, 2, 3, 0] rfl (k_X12_takeThing_b218 hin  hJ  x1 x5 r7 _ gx1 gx5 gr7 hF)
  · have hF := hF.2 z2
    exact j_vret hJ rfl dX12_takeThing_157 hF
set_option maxHeartbeats 4000000 in
set_option maxRecDepth 100000 in
theorem k_X12_takeThing_b98 {l : Launch} {D : va_G} {cy : Nat → ClassId} {ad : Nat → Nat} {Q : Int → MM → Prop} {J : Nat → List (Nat × Value) → List Value → MM → Prop} (hin : jIn ad ksR.length)   (hJ : jOk l D vwCl (tyR cy) cy ad ftR ksR (XtR ad) Om RX12 cX12_takeThing 11 0 ({ frames := 4, cells := 0, slots := 0, locals := 98 } : Room) Q J)  : ∀ (x1 x2 : Int) (M : MM), ri_ x1 → rl_ x2 → w_X12_takeThing_b98  Q  x1 x2 M → J 98 [(0, .ref (ad 0)), (1, .int (Ii x1)), (2, .long (Ll x2))] [] M := by
  intro x1 x2 M gx1 gx2 hF
  unfold w_X12_takeThing_b98 at hF
  refine j_aload_n hJ dX12_takeThing_98 rfl 0 rfl ?_
  refine j_gi hJ kR_0 fR_15_83 rfl fl_X12_625 dX12_takeThing_99 (fun v1 ev1 gv1 => ?_)
  have hF := hF v1 ev1 gv1
  refine j_if_le hJ 106 gv1 dX12_takeThing_102 (by decide) (fun z2 => ?_) (fun z2 => ?_)
  · have hF := hF.1 z2
    refine j_aload_n hJ dX12_takeThing_106 rfl 0 rfl ?_
    refine j_gr (e := 39) hJ kR_0 fR_15_49 fl_X12_186 dX12_takeThing_107 rfl ?_
    refine j_aload_n hJ dX12_takeThing_110 rfl 0 rfl ?_
    refine j_iconst hJ dX12_takeThing_111 ?_
    refine j_iload_n hJ dX12_takeThing_112 rfl 1 rfl ?_
    refine j_callVi hJ (c_X12_at (l := l) (D := D) (cy := cy) (ad := ad) hin) rfl om_1153 ⟨rfl, rfl, Nat.le_of_ble_eq_true rfl, Nat.le_of_ble_eq_true rfl⟩ [.int (Ii 4), .int (Ii x1)] mv_X12_545 hd_X12_atv kR_0 rfl rfl rfl (Nat.le_of_ble_eq_true rfl) dX12_takeThing_113 ⟨4, x1, rfl, rk_4, gx1, hF⟩ (fun r3 M4 gr3 qM4 => ?_)
    have hF := qM4 gr3
    refine j_lload_n hJ dX12_takeThing_116 rfl 2 rfl ?_
    refine j_l2i hJ dX12_takeThing_117 ?_
    have g5 := hF.1; have hF := hF.2
    refine j_iast hJ gr3 g5 kR_39 hF.1 hF.2.1 dX12_takeThing_118 (fun M6 eM6 => ?_)
    have hF := hF.2.2 M6 eM6
    refine j_aload_n hJ dX12_takeThing_119 rfl 0 rfl ?_
    refine j_callVl hJ (c_X12_takeNumber (l := l) (D := D) (cy := cy) (ad := ad) hin) rfl om_1554 ⟨rfl, rfl, Nat.le_of_ble_eq_true rfl, Nat.le_of_ble_eq_true rfl⟩ [] mv_X12_983 hd_X12_takeNumberv kR_0 rfl rfl rfl (Nat.le_of_ble_eq_true rfl) dX12_takeThing_120 ⟨rfl, hF⟩ (fun r7 M8 gr7 qM8 => ?_)
    have hF := qM8 gr7
    refine j_lstore (lv' := [(5, .long (Ll r7)), (0, .ref (ad 0)), (1, .int (Ii x1)), (2, .long (Ll x2))]) hJ dX12_takeThing_123 (by decide) rfl ?_
    refine j_aload_n hJ dX12_takeThing_125 rfl 1 rfl ?_
    refine j_gi hJ kR_0 fR_15_83 rfl fl_X12_625 dX12_takeThing_126 (fun v9 ev9 gv9 => ?_)
    have hF := hF v9 ev9 gv9
    refine j_if_ne hJ 150 gv9 dX12_takeThing_129 (by decide) (fun z10 => ?_) (fun z10 => ?_)
    · have hF := hF.1 z10
      exact j_sub hJ [1, 2, 0] rfl (k_X12_takeThing_b150 hin  hJ  x1 r7 _ gx1 gr7 hF)
    · have hF := hF.2 z10
      refine j_aload_n hJ dX12_takeThing_132 rfl 1 rfl ?_
      refine j_lload hJ dX12_takeThing_133 0 rfl ?_
      refine j_callVz hJ (c_X12_isType (l := l) (D := D) (cy := cy) (ad := ad) hin) rfl om_1562 ⟨rfl, rfl, Nat.le_of_ble_eq_true rfl, Nat.le_of_ble_eq_true rfl⟩ [.long (Ll r7)] mv_X12_988 hd_X12_isTypev kR_0 rfl rfl rfl (Nat.le_of_ble_eq_true rfl) dX12_takeThing_135 ⟨r7, rfl, gr7, hF⟩ (fun r11 M12 gr11 qM12 => ?_)
      have hF := qM12 gr11
      refine j_if_ne hJ 150 (jz_ri gr11) dX12_takeThing_138 (by decide) (fun z13 => ?_) (fun z13 => ?_)
      · have hF := hF.1 z13
        exact j_sub hJ [1, 2, 0] rfl (k_X12_takeThing_b150 hin  hJ  x1 r7 _ gx1 gr7 hF)
      · have hF := hF.2 z13
        refine j_aload_n hJ dX12_takeThing_141 rfl 1 rfl ?_
        refine j_iconst hJ dX12_takeThing_142 ?_
        refine j_aload_n hJ dX12_takeThing_143 rfl 1 rfl ?_
        refine j_gi hJ kR_0 fR_15_143 rfl fl_X12_978 dX12_takeThing_144 (fun v14 ev14 gv14 => ?_)
        have hF := hF v14 ev14 gv14
        refine j_callVv hJ (c_X12_fail (l := l) (D := D) (cy := cy) (ad := ad) hin) rfl om_1351 ⟨rfl, rfl, Nat.le_of_ble_eq_true rfl, Nat.le_of_ble_eq_true rfl⟩ [.int (Ii 4), .int (Ii v14)] mv_X12_653 hd_X12_failv kR_0 rfl rfl rfl (Nat.le_of_ble_eq_true rfl) dX12_takeThing_147 ⟨4, v14, rfl, rk_4, gv14, hF⟩ (fun M16 qM16 => ?_)
        have hF := qM16
        exact j_sub hJ [1, 2, 0] rfl (k_X12_takeThing_b150 hin  hJ  x1 r7 _ gx1 gr7 hF)
  · have hF := hF.2 z2
    exact j_vret hJ rfl dX12_takeThing_105 hF
set_option maxHeartbeats 4000000 in
set_option maxRecDepth 100000 in
theorem k_X12_takeThing_b89 {l : Launch} {D : va_G} {cy : Nat → ClassId} {ad : Nat → Nat} {Q : Int → MM → Prop} {J : Nat → List (Nat × Value) → List Value → MM → Prop} (hin : jIn ad ksR.length)   (hJ : jOk l D vwCl (tyR cy) cy ad ftR ksR (XtR ad) Om RX12 cX12_takeThing 11 0 ({ frames := 4, cells := 0, slots := 0, locals := 98 } : Room) Q J)  : ∀ (x1 x2 : Int) (M : MM), ri_ x1 → rl_ x2 → w_X12_takeThing_b89  Q  x1 x2 M → J 89 [(0, .ref (ad 0)), (1, .int (Ii x1)), (2, .long (Ll x2))] [] M := by
  intro x1 x2 M gx1 gx2 hF
  unfold w_X12_takeThing_b89 at hF
  refine j_aload_n hJ dX12_takeThing_89 rfl 0 rfl ?_
  refine j_iconst hJ dX12_takeThing_90 ?_
  refine j_aload_n hJ dX12_takeThing_91 rfl 0 rfl ?_
  refine j_gi hJ kR_0 fR_15_143 rfl fl_X12_978 dX12_takeThing_92 (fun v1 ev1 gv1 => ?_)
  have hF := hF v1 ev1 gv1
  refine j_callVv hJ (c_X12_fail (l := l) (D := D) (cy := cy) (ad := ad) hin) rfl om_1351 ⟨rfl, rfl, Nat.le_of_ble_eq_true rfl, Nat.le_of_ble_eq_true rfl⟩ [.int (Ii 4), .int (Ii v1)] mv_X12_653 hd_X12_failv kR_0 rfl rfl rfl (Nat.le_of_ble_eq_true rfl) dX12_takeThing_95 ⟨4, v1, rfl, rk_4, gv1, hF⟩ (fun M3 qM3 => ?_)
  have hF := qM3
  exact j_sub hJ [0, 1, 2] rfl (k_X12_takeThing_b98 hin  hJ  x1 x2 _ gx1 gx2 hF)
set_option maxHeartbeats 4000000 in
set_option maxRecDepth 100000 in
theorem k_X12_takeThing_b55 {l : Launch} {D : va_G} {cy : Nat → ClassId} {ad : Nat → Nat} {Q : Int → MM → Prop} {J : Nat → List (Nat × Value) → List Value → MM → Prop} (hin : jIn ad ksR.length)   (hJ : jOk l D vwCl (tyR cy) cy ad ftR ksR (XtR ad) Om RX12 cX12_takeThing 11 0 ({ frames := 4, cells := 0, slots := 0, locals := 98 } : Room) Q J) {K21 : Int → Int → Int → Int → MM → Prop} (hK21 : ∀ (x1 x2 x4 x5 : Int) (M : MM), ri_ x1 → rl_ x2 → ri_ x4 → ri_ x5 → K21 x1 x2 x4 x5 M → J 21 [(0, .ref (ad 0)), (1, .int (Ii x1)), (2, .long (Ll x2)), (4, .int (Ii x4)), (5, .int (Ii x5))] [] M) : ∀ (x1 x2 x5 s0 : Int) (M : MM), ri_ x1 → rl_ x2 → ri_ x5 → ri_ s0 → w_X12_takeThing_b55  Q K21 x1 x2 x5 s0 M → J 55 [(0, .ref (ad 0)), (1, .int (Ii x1)), (2, .long (Ll x2)), (5, .int (Ii x5))] [.int (Ii s0)] M := by
  intro x1 x2 x5 s0 M gx1 gx2 gx5 gs0 hF
  unfold w_X12_takeThing_b55 at hF
  refine j_istore (lv' := [(4, .int (Ii s0)), (0, .ref (ad 0)), (1, .int (Ii x1)), (2, .long (Ll x2)), (5, .int (Ii x5))]) hJ dX12_takeThing_55 (by decide) rfl ?_
  refine j_iinc (lv' := [(5, .int (Ii (x5 + 1))), (4, .int (Ii s0)), (0, .ref (ad 0)), (1, .int (Ii x1)), (2, .long (Ll x2))]) (k := 4) hJ dX12_takeThing_57 rfl (by decide) rfl ?_
  have g1 := hF.1; have hF := hF.2
  refine j_goto hJ 21 dX12_takeThing_60 (by decide) ?_
  exact j_sub hJ [2, 3, 4, 1, 0] rfl (hK21 x1 x2 s0 (x5 + 1) _ gx1 gx2 gs0 g1 hF)
set_option maxHeartbeats 4000000 in
set_option maxRecDepth 100000 in
theorem k_X12_takeThing_b50 {l : Launch} {D : va_G} {cy : Nat → ClassId} {ad : Nat → Nat} {Q : Int → MM → Prop} {J : Nat → List (Nat × Value) → List Value → MM → Prop} (hin : jIn ad ksR.length)   (hJ : jOk l D vwCl (tyR cy) cy ad ftR ksR (XtR ad) Om RX12 cX12_takeThing 11 0 ({ frames := 4, cells := 0, slots := 0, locals := 98 } : Room) Q J) {K21 : Int → Int → Int → Int → MM → Prop} (hK21 : ∀ (x1 x2 x4 x5 : Int) (M : MM), ri_ x1 → rl_ x2 → ri_ x4 → ri_ x5 → K21 x1 x2 x4 x5 M → J 21 [(0, .ref (ad 0)), (1, .int (Ii x1)), (2, .long (Ll x2)), (4, .int (Ii x4)), (5, .int (Ii x5))] [] M) : ∀ (x1 x2 x5 : Int) (M : MM), ri_ x1 → rl_ x2 → ri_ x5 → w_X12_takeThing_b50  Q K21 x1 x2 x5 M → J 50 [(0, .ref (ad 0)), (1, .int (Ii x1)), (2, .long (Ll x2)), (5, .int (Ii x5))] [] M := by
  intro x1 x2 x5 M gx1 gx2 gx5 hF
  unfold w_X12_takeThing_b50 at hF
  refine j_iconst hJ dX12_takeThing_50 ?_
  refine j_goto hJ 55 dX12_takeThing_51 (by decide) ?_
  exact j_sub hJ [0, 1, 2, 3] rfl (k_X12_takeThing_b55 hin  hJ hK21 x1 x2 x5 1 _ gx1 gx2 gx5 rk_1 hF)
set_option maxHeartbeats 4000000 in
set_option maxRecDepth 100000 in
theorem k_X12_takeThing_b21 {l : Launch} {D : va_G} {cy : Nat → ClassId} {ad : Nat → Nat} {Q : Int → MM → Prop} {J : Nat → List (Nat × Value) → List Value → MM → Prop} (hin : jIn ad ksR.length)   (hJ : jOk l D vwCl (tyR cy) cy ad ftR ksR (XtR ad) Om RX12 cX12_takeThing 11 0 ({ frames := 4, cells := 0, slots := 0, locals := 98 } : Room) Q J)  : ∀ (x1 x2 x4 x5 : Int) (M : MM), ri_ x1 → rl_ x2 → ri_ x4 → ri_ x5 → w_X12_takeThing_b21  Q  x1 x2 x4 x5 M → J 21 [(0, .ref (ad 0)), (1, .int (Ii x1)), (2, .long (Ll x2)), (4, .int (Ii x4)), (5, .int (Ii x5))] [] M := by
  have H9 : ∀ (n : Nat) (x1 x2 x4 x5 : Int) (M : MM), ri_ x1 → rl_ x2 → ri_ x4 → ri_ x5 → jit (fun _ _ _ _ _ => False) (wb_X12_takeThing_b21  Q ) n x1 x2 x4 x5 M → J 21 [(0, .ref (ad 0)), (1, .int (Ii x1)), (2, .long (Ll x2)), (4, .int (Ii x4)), (5, .int (Ii x5))] [] M := by
    intro n
    induction n with
    | zero => intro x1 x2 x4 x5 M gx1 gx2 gx4 gx5 hF; exact False.elim hF
    | succ n ih =>
    intro x1 x2 x4 x5 M gx1 gx2 gx4 gx5 hF
    have hF : wb_X12_takeThing_b21  Q  (jit (fun _ _ _ _ _ => False) (wb_X12_takeThing_b21  Q ) n) x1 x2 x4 x5 M := hF
    unfold wb_X12_takeThing_b21 at hF
    refine j_iload hJ dX12_takeThing_21 4 rfl ?_
    refine j_iload_n hJ dX12_takeThing_23 rfl 1 rfl ?_
    refine j_icmp_ge hJ 63 gx5 gx1 dX12_takeThing_24 (by decide) (fun z1 => ?_) (fun z1 => ?_)
    · have hF := hF.1 z1
      refine j_aload_n hJ dX12_takeThing_63 rfl 0 rfl ?_
      refine j_gi hJ kR_0 fR_15_83 rfl fl_X12_625 dX12_takeThing_64 (fun v2 ev2 gv2 => ?_)
      have hF := hF v2 ev2 gv2
      refine j_if_ne hJ 98 gv2 dX12_takeThing_67 (by decide) (fun z3 => ?_) (fun z3 => ?_)
      · have hF := hF.1 z3
        exact j_sub hJ [0, 1, 2] rfl (k_X12_takeThing_b98 hin  hJ  x1 x2 _ gx1 gx2 hF)
      · have hF := hF.2 z3
        refine j_lload_n hJ dX12_takeThing_70 rfl 2 rfl ?_
        refine j_lconst (x := 0) hJ dX12_takeThing_71 rfl ?_
        refine j_lcmp_lt hJ 89 gx2 lkm_0 dX12_takeThing_72 dX12_takeThing_73 (by decide) (fun z4 => ?_) (fun z4 => ?_)
        · have hF := hF.1 z4
          exact j_sub hJ [0, 1, 2] rfl (k_X12_takeThing_b89 hin  hJ  x1 x2 _ gx1 gx2 hF)
        · have hF := hF.2 z4
          refine j_lload_n hJ dX12_takeThing_76 rfl 2 rfl ?_
          refine j_ldc2 hJ 399 om_1566 (by decide) dX12_takeThing_77 ?_
          refine j_lcmp_gt hJ 89 gx2 lk_399 dX12_takeThing_80 dX12_takeThing_81 (by decide) (fun z5 => ?_) (fun z5 => ?_)
          · have hF := hF.1 z5
            exact j_sub hJ [0, 1, 2] rfl (k_X12_takeThing_b89 hin  hJ  x1 x2 _ gx1 gx2 hF)
          · have hF := hF.2 z5
            refine j_iload hJ dX12_takeThing_84 3 rfl ?_
            refine j_if_eq hJ 98 gx4 dX12_takeThing_86 (by decide) (fun z6 => ?_) (fun z6 => ?_)
            · have hF := hF.1 z6
              exact j_sub hJ [0, 1, 2] rfl (k_X12_takeThing_b98 hin  hJ  x1 x2 _ gx1 gx2 hF)
            · have hF := hF.2 z6
              exact j_sub hJ [0, 1, 2] rfl (k_X12_takeThing_b89 hin  hJ  x1 x2 _ gx1 gx2 hF)
    · have hF := hF.2 z1
      refine j_iload hJ dX12_takeThing_27 3 rfl ?_
      refine j_if_ne hJ 50 gx4 dX12_takeThing_29 (by decide) (fun z7 => ?_) (fun z7 => ?_)
      · have hF := hF.1 z7
        exact j_sub hJ [0, 1, 2, 4] rfl (k_X12_takeThing_b50 hin  hJ ih x1 x2 x5 _ gx1 gx2 gx5 hF)
      · have hF := hF.2 z7
        refine j_aload_n hJ dX12_takeThing_32 rfl 0 rfl ?_
        refine j_gr (e := 39) hJ kR_0 fR_15_49 fl_X12_186 dX12_takeThing_33 rfl ?_
        refine j_aload_n hJ dX12_takeThing_36 rfl 0 rfl ?_
        refine j_iconst hJ dX12_takeThing_37 ?_
        refine j_iload hJ dX12_takeThing_38 4 rfl ?_
        refine j_callVi hJ (c_X12_at (l := l) (D := D) (cy := cy) (ad := ad) hin) rfl om_1153 ⟨rfl, rfl, Nat.le_of_ble_eq_true rfl, Nat.le_of_ble_eq_true rfl⟩ [.int (Ii 4), .int (Ii x5)] mv_X12_545 hd_X12_atv kR_0 rfl rfl rfl (Nat.le_of_ble_eq_true rfl) dX12_takeThing_40 ⟨4, x5, rfl, rk_4, gx5, hF⟩ (fun r8 M9 gr8 qM9 => ?_)
        have hF := qM9 gr8
        refine j_iald hJ gr8 kR_39 hF.1 hF.2.1 dX12_takeThing_43 (fun v10 ev10 gv10 => ?_)
        have hF := hF.2.2 v10 ev10 gv10
        refine j_i2l hJ gv10 dX12_takeThing_44 ?_
        refine j_lload_n hJ dX12_takeThing_45 rfl 2 rfl ?_
        refine j_lcmp_ne hJ 54 (rl_ri gv10) gx2 dX12_takeThing_46 dX12_takeThing_47 (by decide) (fun z11 => ?_) (fun z11 => ?_)
        · have hF := hF.1 z11
          refine j_iconst hJ dX12_takeThing_54 ?_
          exact j_sub hJ [0, 1, 2, 4] rfl (k_X12_takeThing_b55 hin  hJ ih x1 x2 x5 0 _ gx1 gx2 gx5 rk_0 hF)
        · have hF := hF.2 z11
          exact j_sub hJ [0, 1, 2, 4] rfl (k_X12_takeThing_b50 hin  hJ ih x1 x2 x5 _ gx1 gx2 gx5 hF)
  intro x1 x2 x4 x5 M gx1 gx2 gx4 gx5 hF
  obtain ⟨n, hF⟩ := hF
  exact H9 n x1 x2 x4 x5 M gx1 gx2 gx4 gx5 hF
set_option maxHeartbeats 4000000 in
set_option maxRecDepth 100000 in
theorem c_X12_takeThing {l : Launch} {D : va_G} {cy : Nat → ClassId} {ad : Nat → Nat} (hin : jIn ad ksR.length) : jCN l D vwCl (tyR cy) cy ad ftR ksR (XtR ad) yX12_takeThing (.code yX12_takeThing cX12_takeThing 11 none :: Om) ({ frames := 4, cells := 0, slots := 0, locals := 98 } : Room) 0 (W_X12_takeThing ad) := by
  refine jCN_of (y := yX12_takeThing) (cc := cX12_takeThing) (nL := 11) (rk := 0) (rm := ({ frames := 4, cells := 0, slots := 0, locals := 98 } : Room)) (own := RX12) (tyR_ok cy) hin (XtR_ok ad) Om_good (by decide) rfl ?_
  intro Q av M hF
  obtain ⟨p1, rfl, gp1, hF⟩ := hF
  refine ⟨Nat.le_of_ble_eq_true rfl, fun J hJ => ?_⟩
  show J 0 [(0, .ref (ad 0)), (1, .int (Ii p1))] [] M
  unfold w_X12_takeThing at hF
  refine j_aload_n hJ dX12_takeThing_0 rfl 0 rfl ?_
  refine j_callVl hJ (c_X12_takeNumber (l := l) (D := D) (cy := cy) (ad := ad) hin) rfl om_1554 ⟨rfl, rfl, Nat.le_of_ble_eq_true rfl, Nat.le_of_ble_eq_true rfl⟩ [] mv_X12_983 hd_X12_takeNumberv kR_0 rfl rfl rfl (Nat.le_of_ble_eq_true rfl) dX12_takeThing_1 ⟨rfl, hF⟩ (fun r1 M2 gr1 qM2 => ?_)
  have hF := qM2 gr1
  refine j_lstore_n (lv' := [(2, .long (Ll r1)), (0, .ref (ad 0)), (1, .int (Ii p1))]) hJ dX12_takeThing_4 rfl (by decide) rfl ?_
  refine j_iconst hJ dX12_takeThing_5 ?_
  refine j_istore (lv' := [(4, .int (Ii 0)), (2, .long (Ll r1)), (0, .ref (ad 0)), (1, .int (Ii p1))]) hJ dX12_takeThing_6 (by decide) rfl ?_
  refine j_aload_n hJ dX12_takeThing_8 rfl 2 rfl ?_
  refine j_gr (e := 100) hJ kR_0 fR_15_144 fl_X12_375 dX12_takeThing_9 rfl ?_
  refine j_iload_n hJ dX12_takeThing_12 rfl 3 rfl ?_
  refine j_aload_n hJ dX12_takeThing_13 rfl 2 rfl ?_
  refine j_gi hJ kR_0 fR_15_143 rfl fl_X12_978 dX12_takeThing_14 (fun v3 ev3 gv3 => ?_)
  have hF := hF v3 ev3 gv3
  refine j_iast hJ gp1 gv3 kR_100 hF.1 hF.2.1 dX12_takeThing_17 (fun M4 eM4 => ?_)
  have hF := hF.2.2 M4 eM4
  refine j_iconst hJ dX12_takeThing_18 ?_
  refine j_istore (lv' := [(5, .int (Ii 0)), (4, .int (Ii 0)), (2, .long (Ll r1)), (0, .ref (ad 0)), (1, .int (Ii p1))]) hJ dX12_takeThing_19 (by decide) rfl ?_
  exact j_sub hJ [3, 4, 2, 1, 0] rfl (k_X12_takeThing_b21 hin  hJ  p1 r1 0 0 _ gp1 gr1 rk_0 rk_0 hF)
def W_X12_checkLinks (ad : Nat → Nat) (Q : Int → MM → Prop) (av : List Value) (M : MM) : Prop := av = [.ref (ad 0)] ∧ w_X12_checkLinks  Q  M
set_option maxHeartbeats 4000000 in
set_option maxRecDepth 100000 in
theorem k_X12_checkLinks_b134 {l : Launch} {D : va_G} {cy : Nat → ClassId} {ad : Nat → Nat} {Q : Int → MM → Prop} {J : Nat → List (Nat × Value) → List Value → MM → Prop} (hin : jIn ad ksR.length)   (hJ : jOk l D vwCl (tyR cy) cy ad ftR ksR (XtR ad) Om RX12 cX12_checkLinks 5 0 ({ frames := 3, cells := 0, slots := 0, locals := 70 } : Room) Q J) {K2 : Int → MM → Prop} (hK2 : ∀ (x1 : Int) (M : MM), ri_ x1 → K2 x1 M → J 2 [(0, .ref (ad 0)), (1, .int (Ii x1))] [] M) : ∀ (x1 : Int) (M : MM), ri_ x1 → w_X12_checkLinks_b134  Q K2 x1 M → J 134 [(0, .ref (ad 0)), (1, .int (Ii x1))] [] M := by
  intro x1 M gx1 hF
  unfold w_X12_checkLinks_b134 at hF
  refine j_iinc (lv' := [(1, .int (Ii (x1 + 1))), (0, .ref (ad 0))]) (k := 1) hJ dX12_checkLinks_134 rfl (by decide) rfl ?_
  have g1 := hF.1; have hF := hF.2
  refine j_goto hJ 2 dX12_checkLinks_137 (by decide) ?_
  exact j_sub hJ [1, 0] rfl (hK2 (x1 + 1) _ g1 hF)
set_option maxHeartbeats 4000000 in
set_option maxRecDepth 100000 in
theorem k_X12_checkLinks_b128 {l : Launch} {D : va_G} {cy : Nat → ClassId} {ad : Nat → Nat} {Q : Int → MM → Prop} {J : Nat → List (Nat × Value) → List Value → MM → Prop} (hin : jIn ad ksR.length)   (hJ : jOk l D vwCl (tyR cy) cy ad ftR ksR (XtR ad) Om RX12 cX12_checkLinks 5 0 ({ frames := 3, cells := 0, slots := 0, locals := 70 } : Room) Q J) {K2 : Int → MM → Prop} (hK2 : ∀ (x1 : Int) (M : MM), ri_ x1 → K2 x1 M → J 2 [(0, .ref (ad 0)), (1, .int (Ii x1))] [] M) {K21 : Int → Int → MM → Prop} (hK21 : ∀ (x1 x2 : Int) (M : MM), ri_ x1 → ri_ x2 → K21 x1 x2 M → J 21 [(0, .ref (ad 0)), (1, .int (Ii x1)), (2, .int (Ii x2))] [] M) : ∀ (x1 x2 : Int) (M : MM), ri_ x1 → ri_ x2 → w_X12_checkLinks_b128  Q K2 K21 x1 x2 M → J 128 [(0, .ref (ad 0)), (1, .int (Ii x1)), (2, .int (Ii x2))] [] M := by
  intro x1 x2 M gx1 gx2 hF
  unfold w_X12_checkLinks_b128 at hF
  refine j_iinc (lv' := [(2, .int (Ii (x2 + 1))), (0, .ref (ad 0)), (1, .int (Ii x1))]) (k := 2) hJ dX12_checkLinks_128 rfl (by decide) rfl ?_
  have g1 := hF.1; have hF := hF.2
  refine j_goto hJ 21 dX12_checkLinks_131 (by decide) ?_
  exact j_sub hJ [1, 2, 0] rfl (hK21 x1 (x2 + 1) _ gx1 g1 hF)
set_option maxHeartbeats 4000000 in
set_option maxRecDepth 100000 in
theorem k_X12_checkLinks_b61 {l : Launch} {D : va_G} {cy : Nat → ClassId} {ad : Nat → Nat} {Q : Int → MM → Prop} {J : Nat → List (Nat × Value) → List Value → MM → Prop} (hin : jIn ad ksR.length)   (hJ : jOk l D vwCl (tyR cy) cy ad ftR ksR (XtR ad) Om RX12 cX12_checkLinks 5 0 ({ frames := 3, cells := 0, slots := 0, locals := 70 } : Room) Q J) {K2 : Int → MM → Prop} (hK2 : ∀ (x1 : Int) (M : MM), ri_ x1 → K2 x1 M → J 2 [(0, .ref (ad 0)), (1, .int (Ii x1))] [] M) {K21 : Int → Int → MM → Prop} (hK21 : ∀ (x1 x2 : Int) (M : MM), ri_ x1 → ri_ x2 → K21 x1 x2 M → J 21 [(0, .ref (ad 0)), (1, .int (Ii x1)), (2, .int (Ii x2))] [] M) : ∀ (x1 x2 s0 : Int) (M : MM), ri_ x1 → ri_ x2 → rl_ s0 → w_X12_checkLinks_b61  Q K2 K21 x1 x2 s0 M → J 61 [(0, .ref (ad 0)), (1, .int (Ii x1)), (2, .int (Ii x2))] [.long (Ll s0)] M := by
  intro x1 x2 s0 M gx1 gx2 gs0 hF
  unfold w_X12_checkLinks_b61 at hF
  refine j_lstore_n (lv' := [(3, .long (Ll s0)), (0, .ref (ad 0)), (1, .int (Ii x1)), (2, .int (Ii x2))]) hJ dX12_checkLinks_61 rfl (by decide) rfl ?_
  refine j_lload_n hJ dX12_checkLinks_62 rfl 0 rfl ?_
  refine j_ldc2 hJ (-1) om_1068 (by decide) dX12_checkLinks_63 ?_
  refine j_lcmp_eq hJ 128 gs0 lk_m1 dX12_checkLinks_66 dX12_checkLinks_67 (by decide) (fun z1 => ?_) (fun z1 => ?_)
  · have hF := hF.1 z1
    exact j_sub hJ [1, 2, 3] rfl (k_X12_checkLinks_b128 hin  hJ hK2 hK21 x1 x2 _ gx1 gx2 hF)
  · have hF := hF.2 z1
    refine j_aload_n hJ dX12_checkLinks_70 rfl 1 rfl ?_
    refine j_aload_n hJ dX12_checkLinks_71 rfl 1 rfl ?_
    refine j_gr (e := 40) hJ kR_0 fR_15_50 fl_X12_189 dX12_checkLinks_72 rfl ?_
    refine j_aload_n hJ dX12_checkLinks_75 rfl 1 rfl ?_
    refine j_iconst hJ dX12_checkLinks_76 ?_
    refine j_lload_n hJ dX12_checkLinks_77 rfl 0 rfl ?_
    refine j_l2i hJ dX12_checkLinks_78 ?_
    have g2 := hF.1; have hF := hF.2
    refine j_callVi hJ (c_X12_at (l := l) (D := D) (cy := cy) (ad := ad) hin) rfl om_1153 ⟨rfl, rfl, Nat.le_of_ble_eq_true rfl, Nat.le_of_ble_eq_true rfl⟩ [.int (Ii 4), .int (Ii s0)] mv_X12_545 hd_X12_atv kR_0 rfl rfl rfl (Nat.le_of_ble_eq_true rfl) dX12_checkLinks_79 ⟨4, s0, rfl, rk_4, g2, hF⟩ (fun r3 M4 gr3 qM4 => ?_)
    have hF := qM4 gr3
    refine j_iald hJ gr3 kR_40 hF.1 hF.2.1 dX12_checkLinks_82 (fun v5 ev5 gv5 => ?_)
    have hF := hF.2.2 v5 ev5 gv5
    refine j_aload_n hJ dX12_checkLinks_83 rfl 1 rfl ?_
    refine j_aload_n hJ dX12_checkLinks_84 rfl 1 rfl ?_
    refine j_gr (e := 40) hJ kR_0 fR_15_50 fl_X12_189 dX12_checkLinks_85 rfl ?_
    refine j_aload_n hJ dX12_checkLinks_88 rfl 1 rfl ?_
    refine j_iconst hJ dX12_checkLinks_89 ?_
    refine j_iload_n hJ dX12_checkLinks_90 rfl 2 rfl ?_
    refine j_callVi hJ (c_X12_at (l := l) (D := D) (cy := cy) (ad := ad) hin) rfl om_1153 ⟨rfl, rfl, Nat.le_of_ble_eq_true rfl, Nat.le_of_ble_eq_true rfl⟩ [.int (Ii 4), .int (Ii x1)] mv_X12_545 hd_X12_atv kR_0 rfl rfl rfl (Nat.le_of_ble_eq_true rfl) dX12_checkLinks_91 ⟨4, x1, rfl, rk_4, gx1, hF⟩ (fun r6 M7 gr6 qM7 => ?_)
    have hF := qM7 gr6
    refine j_iald hJ gr6 kR_40 hF.1 hF.2.1 dX12_checkLinks_94 (fun v8 ev8 gv8 => ?_)
    have hF := hF.2.2 v8 ev8 gv8
    refine j_iload_n hJ dX12_checkLinks_95 rfl 3 rfl ?_
    refine j_callVi hJ (c_X12_linkOf (l := l) (D := D) (cy := cy) (ad := ad) hin) rfl om_1285 ⟨rfl, rfl, Nat.le_of_ble_eq_true rfl, Nat.le_of_ble_eq_true rfl⟩ [.int (Ii v8), .int (Ii x2)] mv_X12_492 hd_X12_linkOfv kR_0 rfl rfl rfl (Nat.le_of_ble_eq_true rfl) dX12_checkLinks_96 ⟨v8, x2, rfl, gv8, gx2, hF⟩ (fun r9 M10 gr9 qM10 => ?_)
    have hF := qM10 gr9
    refine j_callVz hJ (c_X12_fits (l := l) (D := D) (cy := cy) (ad := ad) hin) rfl om_1085 ⟨rfl, rfl, Nat.le_of_ble_eq_true rfl, Nat.le_of_ble_eq_true rfl⟩ [.int (Ii v5), .int (Ii r9)] mv_X12_449 hd_X12_fitsv kR_0 rfl rfl rfl (Nat.le_of_ble_eq_true rfl) dX12_checkLinks_99 ⟨v5, r9, rfl, gv5, gr9, hF⟩ (fun r11 M12 gr11 qM12 => ?_)
    have hF := qM12 gr11
    refine j_if_ne hJ 128 (jz_ri gr11) dX12_checkLinks_102 (by decide) (fun z13 => ?_) (fun z13 => ?_)
    · have hF := hF.1 z13
      exact j_sub hJ [1, 2, 3] rfl (k_X12_checkLinks_b128 hin  hJ hK2 hK21 x1 x2 _ gx1 gx2 hF)
    · have hF := hF.2 z13
      refine j_aload_n hJ dX12_checkLinks_105 rfl 1 rfl ?_
      refine j_iconst hJ dX12_checkLinks_106 ?_
      refine j_aload_n hJ dX12_checkLinks_107 rfl 1 rfl ?_
      refine j_gr (e := 101) hJ kR_0 fR_15_145 fl_X12_378 dX12_checkLinks_108 rfl ?_
      refine j_aload_n hJ dX12_checkLinks_111 rfl 1 rfl ?_
      refine j_gr (e := 42) hJ kR_0 fR_15_52 fl_X12_195 dX12_checkLinks_112 rfl ?_
      refine j_aload_n hJ dX12_checkLinks_115 rfl 1 rfl ?_
      refine j_iconst hJ dX12_checkLinks_116 ?_
      refine j_iload_n hJ dX12_checkLinks_117 rfl 2 rfl ?_
      refine j_callVi hJ (c_X12_at (l := l) (D := D) (cy := cy) (ad := ad) hin) rfl om_1153 ⟨rfl, rfl, Nat.le_of_ble_eq_true rfl, Nat.le_of_ble_eq_true rfl⟩ [.int (Ii 4), .int (Ii x1)] mv_X12_545 hd_X12_atv kR_0 rfl rfl rfl (Nat.le_of_ble_eq_true rfl) dX12_checkLinks_118 ⟨4, x1, rfl, rk_4, gx1, hF⟩ (fun r14 M15 gr14 qM15 => ?_)
      have hF := qM15 gr14
      refine j_iald hJ gr14 kR_42 hF.1 hF.2.1 dX12_checkLinks_121 (fun v16 ev16 gv16 => ?_)
      have hF := hF.2.2 v16 ev16 gv16
      refine j_iload_n hJ dX12_checkLinks_122 rfl 3 rfl ?_
      refine j_iadd hJ dX12_checkLinks_123 ?_
      have g17 := hF.1; have hF := hF.2
      refine j_iald hJ g17 kR_101 hF.1 hF.2.1 dX12_checkLinks_124 (fun v18 ev18 gv18 => ?_)
      have hF := hF.2.2 v18 ev18 gv18
      refine j_callVv hJ (c_X12_fail (l := l) (D := D) (cy := cy) (ad := ad) hin) rfl om_1351 ⟨rfl, rfl, Nat.le_of_ble_eq_true rfl, Nat.le_of_ble_eq_true rfl⟩ [.int (Ii 4), .int (Ii v18)] mv_X12_653 hd_X12_failv kR_0 rfl rfl rfl (Nat.le_of_ble_eq_true rfl) dX12_checkLinks_125 ⟨4, v18, rfl, rk_4, gv18, hF⟩ (fun M20 qM20 => ?_)
      have hF := qM20
      exact j_sub hJ [1, 2, 3] rfl (k_X12_checkLinks_b128 hin  hJ hK2 hK21 x1 x2 _ gx1 gx2 hF)
set_option maxHeartbeats 4000000 in
set_option maxRecDepth 100000 in
theorem k_X12_checkLinks_b21 {l : Launch} {D : va_G} {cy : Nat → ClassId} {ad : Nat → Nat} {Q : Int → MM → Prop} {J : Nat → List (Nat × Value) → List Value → MM → Prop} (hin : jIn ad ksR.length)   (hJ : jOk l D vwCl (tyR cy) cy ad ftR ksR (XtR ad) Om RX12 cX12_checkLinks 5 0 ({ frames := 3, cells := 0, slots := 0, locals := 70 } : Room) Q J) {K2 : Int → MM → Prop} (hK2 : ∀ (x1 : Int) (M : MM), ri_ x1 → K2 x1 M → J 2 [(0, .ref (ad 0)), (1, .int (Ii x1))] [] M) : ∀ (x1 x2 : Int) (M : MM), ri_ x1 → ri_ x2 → w_X12_checkLinks_b21  Q K2 x1 x2 M → J 21 [(0, .ref (ad 0)), (1, .int (Ii x1)), (2, .int (Ii x2))] [] M := by
  have H9 : ∀ (n : Nat) (x1 x2 : Int) (M : MM), ri_ x1 → ri_ x2 → jit (fun _ _ _ => False) (wb_X12_checkLinks_b21  Q K2) n x1 x2 M → J 21 [(0, .ref (ad 0)), (1, .int (Ii x1)), (2, .int (Ii x2))] [] M := by
    intro n
    induction n with
    | zero => intro x1 x2 M gx1 gx2 hF; exact False.elim hF
    | succ n ih =>
    intro x1 x2 M gx1 gx2 hF
    have hF : wb_X12_checkLinks_b21  Q K2 (jit (fun _ _ _ => False) (wb_X12_checkLinks_b21  Q K2) n) x1 x2 M := hF
    unfold wb_X12_checkLinks_b21 at hF
    refine j_iload_n hJ dX12_checkLinks_21 rfl 2 rfl ?_
    refine j_aload_n hJ dX12_checkLinks_22 rfl 0 rfl ?_
    refine j_iconst hJ dX12_checkLinks_23 ?_
    refine j_iload_n hJ dX12_checkLinks_24 rfl 1 rfl ?_
    refine j_callVi hJ (c_X12_slotsIn (l := l) (D := D) (cy := cy) (ad := ad) hin) rfl om_1165 ⟨rfl, rfl, Nat.le_of_ble_eq_true rfl, Nat.le_of_ble_eq_true rfl⟩ [.int (Ii 4), .int (Ii x1)] mv_X12_570 hd_X12_slotsInv kR_0 rfl rfl rfl (Nat.le_of_ble_eq_true rfl) dX12_checkLinks_25 ⟨4, x1, rfl, rk_4, gx1, hF⟩ (fun r1 M2 gr1 qM2 => ?_)
    have hF := qM2 gr1
    refine j_icmp_ge hJ 134 gx2 gr1 dX12_checkLinks_28 (by decide) (fun z3 => ?_) (fun z3 => ?_)
    · have hF := hF.1 z3
      exact j_sub hJ [0, 1] rfl (k_X12_checkLinks_b134 hin  hJ hK2 x1 _ gx1 hF)
    · have hF := hF.2 z3
      refine j_aload_n hJ dX12_checkLinks_31 rfl 0 rfl ?_
      refine j_gi hJ kR_0 fR_15_83 rfl fl_X12_625 dX12_checkLinks_32 (fun v4 ev4 gv4 => ?_)
      have hF := hF v4 ev4 gv4
      refine j_if_ne hJ 134 gv4 dX12_checkLinks_35 (by decide) (fun z5 => ?_) (fun z5 => ?_)
      · have hF := hF.1 z5
        exact j_sub hJ [0, 1] rfl (k_X12_checkLinks_b134 hin  hJ hK2 x1 _ gx1 hF)
      · have hF := hF.2 z5
        refine j_aload_n hJ dX12_checkLinks_38 rfl 0 rfl ?_
        refine j_iconst hJ dX12_checkLinks_39 ?_
        refine j_iload_n hJ dX12_checkLinks_40 rfl 1 rfl ?_
        refine j_iload_n hJ dX12_checkLinks_41 rfl 2 rfl ?_
        refine j_callVz hJ (c_X12_linksIn (l := l) (D := D) (cy := cy) (ad := ad) hin) rfl om_1169 ⟨rfl, rfl, Nat.le_of_ble_eq_true rfl, Nat.le_of_ble_eq_true rfl⟩ [.int (Ii 4), .int (Ii x1), .int (Ii x2)] mv_X12_573 hd_X12_linksInv kR_0 rfl rfl rfl (Nat.le_of_ble_eq_true rfl) dX12_checkLinks_42 ⟨4, x1, x2, rfl, rk_4, gx1, gx2, hF⟩ (fun r6 M7 gr6 qM7 => ?_)
        have hF := qM7 gr6
        refine j_if_eq hJ 58 (jz_ri gr6) dX12_checkLinks_45 (by decide) (fun z8 => ?_) (fun z8 => ?_)
        · have hF := hF.1 z8
          refine j_ldc2 hJ (-1) om_1068 (by decide) dX12_checkLinks_58 ?_
          exact j_sub hJ [0, 1, 2] rfl (k_X12_checkLinks_b61 hin  hJ hK2 ih x1 x2 (-1) _ gx1 gx2 lk_m1 hF)
        · have hF := hF.2 z8
          refine j_aload_n hJ dX12_checkLinks_48 rfl 0 rfl ?_
          refine j_iconst hJ dX12_checkLinks_49 ?_
          refine j_iload_n hJ dX12_checkLinks_50 rfl 1 rfl ?_
          refine j_iload_n hJ dX12_checkLinks_51 rfl 2 rfl ?_
          refine j_callVl hJ (c_X12_valueIn (l := l) (D := D) (cy := cy) (ad := ad) hin) rfl om_1173 ⟨rfl, rfl, Nat.le_of_ble_eq_true rfl, Nat.le_of_ble_eq_true rfl⟩ [.int (Ii 4), .int (Ii x1), .int (Ii x2)] mv_X12_577 hd_X12_valueInv kR_0 rfl rfl rfl (Nat.le_of_ble_eq_true rfl) dX12_checkLinks_52 ⟨4, x1, x2, rfl, rk_4, gx1, gx2, hF⟩ (fun r9 M10 gr9 qM10 => ?_)
          have hF := qM10 gr9
          refine j_goto hJ 61 dX12_checkLinks_55 (by decide) ?_
          exact j_sub hJ [0, 1, 2] rfl (k_X12_checkLinks_b61 hin  hJ hK2 ih x1 x2 r9 _ gx1 gx2 gr9 hF)
  intro x1 x2 M gx1 gx2 hF
  obtain ⟨n, hF⟩ := hF
  exact H9 n x1 x2 M gx1 gx2 hF
set_option maxHeartbeats 4000000 in
set_option maxRecDepth 100000 in
theorem k_X12_checkLinks_b2 {l : Launch} {D : va_G} {cy : Nat → ClassId} {ad : Nat → Nat} {Q : Int → MM → Prop} {J : Nat → List (Nat × Value) → List Value → MM → Prop} (hin : jIn ad ksR.length)   (hJ : jOk l D vwCl (tyR cy) cy ad ftR ksR (XtR ad) Om RX12 cX12_checkLinks 5 0 ({ frames := 3, cells := 0, slots := 0, locals := 70 } : Room) Q J)  : ∀ (x1 : Int) (M : MM), ri_ x1 → w_X12_checkLinks_b2  Q  x1 M → J 2 [(0, .ref (ad 0)), (1, .int (Ii x1))] [] M := by
  have H9 : ∀ (n : Nat) (x1 : Int) (M : MM), ri_ x1 → jit (fun _ _ => False) (wb_X12_checkLinks_b2  Q ) n x1 M → J 2 [(0, .ref (ad 0)), (1, .int (Ii x1))] [] M := by
    intro n
    induction n with
    | zero => intro x1 M gx1 hF; exact False.elim hF
    | succ n ih =>
    intro x1 M gx1 hF
    have hF : wb_X12_checkLinks_b2  Q  (jit (fun _ _ => False) (wb_X12_checkLinks_b2  Q ) n) x1 M := hF
    unfold wb_X12_checkLinks_b2 at hF
    refine j_iload_n hJ dX12_checkLinks_2 rfl 1 rfl ?_
    refine j_aload_n hJ dX12_checkLinks_3 rfl 0 rfl ?_
    refine j_gr (e := 38) hJ kR_0 fR_15_48 fl_X12_183 dX12_checkLinks_4 rfl ?_
    refine j_iconst hJ dX12_checkLinks_7 ?_
    refine j_iald hJ rk_4 kR_38 (by decide) (by decide) dX12_checkLinks_8 (fun v1 ev1 gv1 => ?_)
    have hF := hF v1 ev1 gv1
    refine j_icmp_ge hJ 140 gx1 gv1 dX12_checkLinks_9 (by decide) (fun z2 => ?_) (fun z2 => ?_)
    · have hF := hF.1 z2
      exact j_vret hJ rfl dX12_checkLinks_140 hF
    · have hF := hF.2 z2
      refine j_aload_n hJ dX12_checkLinks_12 rfl 0 rfl ?_
      refine j_gi hJ kR_0 fR_15_83 rfl fl_X12_625 dX12_checkLinks_13 (fun v3 ev3 gv3 => ?_)
      have hF := hF v3 ev3 gv3
      refine j_if_ne hJ 140 gv3 dX12_checkLinks_16 (by decide) (fun z4 => ?_) (fun z4 => ?_)
      · have hF := hF.1 z4
        exact j_vret hJ rfl dX12_checkLinks_140 hF
      · have hF := hF.2 z4
        refine j_iconst hJ dX12_checkLinks_19 ?_
        refine j_istore_n (lv' := [(2, .int (Ii 0)), (0, .ref (ad 0)), (1, .int (Ii x1))]) hJ dX12_checkLinks_20 rfl (by decide) rfl ?_
        exact j_sub hJ [1, 2, 0] rfl (k_X12_checkLinks_b21 hin  hJ ih x1 0 _ gx1 rk_0 hF)
  intro x1 M gx1 hF
  obtain ⟨n, hF⟩ := hF
  exact H9 n x1 M gx1 hF
set_option maxHeartbeats 4000000 in
set_option maxRecDepth 100000 in
theorem c_X12_checkLinks {l : Launch} {D : va_G} {cy : Nat → ClassId} {ad : Nat → Nat} (hin : jIn ad ksR.length) : jCN l D vwCl (tyR cy) cy ad ftR ksR (XtR ad) yX12_checkLinks (.code yX12_checkLinks cX12_checkLinks 5 none :: Om) ({ frames := 3, cells := 0, slots := 0, locals := 70 } : Room) 0 (W_X12_checkLinks ad) := by
  refine jCN_of (y := yX12_checkLinks) (cc := cX12_checkLinks) (nL := 5) (rk := 0) (rm := ({ frames := 3, cells := 0, slots := 0, locals := 70 } : Room)) (own := RX12) (tyR_ok cy) hin (XtR_ok ad) Om_good (by decide) rfl ?_
  intro Q av M hF
  obtain ⟨rfl, hF⟩ := hF
  refine ⟨Nat.le_of_ble_eq_true rfl, fun J hJ => ?_⟩
  show J 0 [(0, .ref (ad 0))] [] M
  unfold w_X12_checkLinks at hF
  refine j_iconst hJ dX12_checkLinks_0 ?_
  refine j_istore_n (lv' := [(1, .int (Ii 0)), (0, .ref (ad 0))]) hJ dX12_checkLinks_1 rfl (by decide) rfl ?_
  exact j_sub hJ [1, 0] rfl (k_X12_checkLinks_b2 hin  hJ  0 _ rk_0 hF)
def W_X12_takeRoots (ad : Nat → Nat) (Q : Int → MM → Prop) (av : List Value) (M : MM) : Prop := av = [.ref (ad 0)] ∧ w_X12_takeRoots  Q  M
set_option maxHeartbeats 4000000 in
set_option maxRecDepth 100000 in
theorem k_X12_takeRoots_b176 {l : Launch} {D : va_G} {cy : Nat → ClassId} {ad : Nat → Nat} {Q : Int → MM → Prop} {J : Nat → List (Nat × Value) → List Value → MM → Prop} (hin : jIn ad ksR.length)   (hJ : jOk l D vwCl (tyR cy) cy ad ftR ksR (XtR ad) Om RX12 cX12_takeRoots 10 0 ({ frames := 2, cells := 0, slots := 0, locals := 46 } : Room) Q J) {K49 : Int → Int → Int → MM → Prop} (hK49 : ∀ (x1 x3 x5 : Int) (M : MM), rl_ x1 → rl_ x3 → ri_ x5 → K49 x1 x3 x5 M → J 49 [(0, .ref (ad 0)), (1, .long (Ll x1)), (3, .long (Ll x3)), (5, .int (Ii x5))] [] M) : ∀ (x1 x3 x5 : Int) (M : MM), rl_ x1 → rl_ x3 → ri_ x5 → w_X12_takeRoots_b176  Q K49 x1 x3 x5 M → J 176 [(0, .ref (ad 0)), (1, .long (Ll x1)), (3, .long (Ll x3)), (5, .int (Ii x5))] [] M := by
  intro x1 x3 x5 M gx1 gx3 gx5 hF
  unfold w_X12_takeRoots_b176 at hF
  refine j_iinc (lv' := [(5, .int (Ii (x5 + 1))), (0, .ref (ad 0)), (1, .long (Ll x1)), (3, .long (Ll x3))]) (k := 3) hJ dX12_takeRoots_176 rfl (by decide) rfl ?_
  have g1 := hF.1; have hF := hF.2
  refine j_goto hJ 49 dX12_takeRoots_179 (by decide) ?_
  exact j_sub hJ [1, 2, 3, 0] rfl (hK49 x1 x3 (x5 + 1) _ gx1 gx3 g1 hF)
set_option maxHeartbeats 4000000 in
set_option maxRecDepth 100000 in
theorem k_X12_takeRoots_b158 {l : Launch} {D : va_G} {cy : Nat → ClassId} {ad : Nat → Nat} {Q : Int → MM → Prop} {J : Nat → List (Nat × Value) → List Value → MM → Prop} (hin : jIn ad ksR.length)   (hJ : jOk l D vwCl (tyR cy) cy ad ftR ksR (XtR ad) Om RX12 cX12_takeRoots 10 0 ({ frames := 2, cells := 0, slots := 0, locals := 46 } : Room) Q J) {K49 : Int → Int → Int → MM → Prop} (hK49 : ∀ (x1 x3 x5 : Int) (M : MM), rl_ x1 → rl_ x3 → ri_ x5 → K49 x1 x3 x5 M → J 49 [(0, .ref (ad 0)), (1, .long (Ll x1)), (3, .long (Ll x3)), (5, .int (Ii x5))] [] M) : ∀ (x1 x3 x5 x6 x8 : Int) (M : MM), rl_ x1 → rl_ x3 → ri_ x5 → rl_ x6 → rl_ x8 → w_X12_takeRoots_b158  Q K49 x1 x3 x5 x6 x8 M → J 158 [(0, .ref (ad 0)), (1, .long (Ll x1)), (3, .long (Ll x3)), (5, .int (Ii x5)), (6, .long (Ll x6)), (8, .long (Ll x8))] [] M := by
  intro x1 x3 x5 x6 x8 M gx1 gx3 gx5 gx6 gx8 hF
  unfold w_X12_takeRoots_b158 at hF
  refine j_aload_n hJ dX12_takeRoots_158 rfl 0 rfl ?_
  refine j_gi hJ kR_0 fR_15_83 rfl fl_X12_625 dX12_takeRoots_159 (fun v1 ev1 gv1 => ?_)
  have hF := hF v1 ev1 gv1
  refine j_if_ne hJ 176 gv1 dX12_takeRoots_162 (by decide) (fun z2 => ?_) (fun z2 => ?_)
  · have hF := hF.1 z2
    exact j_sub hJ [0, 1, 2, 3] rfl (k_X12_takeRoots_b176 hin  hJ hK49 x1 x3 x5 _ gx1 gx3 gx5 hF)
  · have hF := hF.2 z2
    refine j_aload_n hJ dX12_takeRoots_165 rfl 0 rfl ?_
    refine j_iconst hJ dX12_takeRoots_166 ?_
    refine j_lload hJ dX12_takeRoots_167 4 rfl ?_
    refine j_l2i hJ dX12_takeRoots_169 ?_
    have g3 := hF.1; have hF := hF.2
    refine j_lload hJ dX12_takeRoots_170 5 rfl ?_
    refine j_l2i hJ dX12_takeRoots_172 ?_
    have g4 := hF.1; have hF := hF.2
    refine j_callVv hJ (c_X12_addRoot (l := l) (D := D) (cy := cy) (ad := ad) hin) rfl om_1157 ⟨rfl, rfl, Nat.le_of_ble_eq_true rfl, Nat.le_of_ble_eq_true rfl⟩ [.int (Ii 4), .int (Ii x6), .int (Ii x8)] mv_X12_548 hd_X12_addRootv kR_0 rfl rfl rfl (Nat.le_of_ble_eq_true rfl) dX12_takeRoots_173 ⟨4, x6, x8, rfl, rk_4, g3, g4, hF⟩ (fun M6 qM6 => ?_)
    have hF := qM6
    exact j_sub hJ [0, 1, 2, 3] rfl (k_X12_takeRoots_b176 hin  hJ hK49 x1 x3 x5 _ gx1 gx3 gx5 hF)
set_option maxHeartbeats 4000000 in
set_option maxRecDepth 100000 in
theorem k_X12_takeRoots_b149 {l : Launch} {D : va_G} {cy : Nat → ClassId} {ad : Nat → Nat} {Q : Int → MM → Prop} {J : Nat → List (Nat × Value) → List Value → MM → Prop} (hin : jIn ad ksR.length)   (hJ : jOk l D vwCl (tyR cy) cy ad ftR ksR (XtR ad) Om RX12 cX12_takeRoots 10 0 ({ frames := 2, cells := 0, slots := 0, locals := 46 } : Room) Q J) {K49 : Int → Int → Int → MM → Prop} (hK49 : ∀ (x1 x3 x5 : Int) (M : MM), rl_ x1 → rl_ x3 → ri_ x5 → K49 x1 x3 x5 M → J 49 [(0, .ref (ad 0)), (1, .long (Ll x1)), (3, .long (Ll x3)), (5, .int (Ii x5))] [] M) : ∀ (x1 x3 x5 x6 x8 : Int) (M : MM), rl_ x1 → rl_ x3 → ri_ x5 → rl_ x6 → rl_ x8 → w_X12_takeRoots_b149  Q K49 x1 x3 x5 x6 x8 M → J 149 [(0, .ref (ad 0)), (1, .long (Ll x1)), (3, .long (Ll x3)), (5, .int (Ii x5)), (6, .long (Ll x6)), (8, .long (Ll x8))] [] M := by
  intro x1 x3 x5 x6 x8 M gx1 gx3 gx5 gx6 gx8 hF
  unfold w_X12_takeRoots_b149 at hF
  refine j_aload_n hJ dX12_takeRoots_149 rfl 0 rfl ?_
  refine j_iconst hJ dX12_takeRoots_150 ?_
  refine j_aload_n hJ dX12_takeRoots_151 rfl 0 rfl ?_
  refine j_gi hJ kR_0 fR_15_143 rfl fl_X12_978 dX12_takeRoots_152 (fun v1 ev1 gv1 => ?_)
  have hF := hF v1 ev1 gv1
  refine j_callVv hJ (c_X12_fail (l := l) (D := D) (cy := cy) (ad := ad) hin) rfl om_1351 ⟨rfl, rfl, Nat.le_of_ble_eq_true rfl, Nat.le_of_ble_eq_true rfl⟩ [.int (Ii 4), .int (Ii v1)] mv_X12_653 hd_X12_failv kR_0 rfl rfl rfl (Nat.le_of_ble_eq_true rfl) dX12_takeRoots_155 ⟨4, v1, rfl, rk_4, gv1, hF⟩ (fun M3 qM3 => ?_)
  have hF := qM3
  exact j_sub hJ [0, 1, 2, 3, 4, 5] rfl (k_X12_takeRoots_b158 hin  hJ hK49 x1 x3 x5 x6 x8 _ gx1 gx3 gx5 gx6 gx8 hF)
set_option maxHeartbeats 4000000 in
set_option maxRecDepth 100000 in
theorem k_X12_takeRoots_b120 {l : Launch} {D : va_G} {cy : Nat → ClassId} {ad : Nat → Nat} {Q : Int → MM → Prop} {J : Nat → List (Nat × Value) → List Value → MM → Prop} (hin : jIn ad ksR.length)   (hJ : jOk l D vwCl (tyR cy) cy ad ftR ksR (XtR ad) Om RX12 cX12_takeRoots 10 0 ({ frames := 2, cells := 0, slots := 0, locals := 46 } : Room) Q J) {K49 : Int → Int → Int → MM → Prop} (hK49 : ∀ (x1 x3 x5 : Int) (M : MM), rl_ x1 → rl_ x3 → ri_ x5 → K49 x1 x3 x5 M → J 49 [(0, .ref (ad 0)), (1, .long (Ll x1)), (3, .long (Ll x3)), (5, .int (Ii x5))] [] M) : ∀ (x1 x3 x5 x6 s0 : Int) (M : MM), rl_ x1 → rl_ x3 → ri_ x5 → rl_ x6 → rl_ s0 → w_X12_takeRoots_b120  Q K49 x1 x3 x5 x6 s0 M → J 120 [(0, .ref (ad 0)), (1, .long (Ll x1)), (3, .long (Ll x3)), (5, .int (Ii x5)), (6, .long (Ll x6))] [.long (Ll s0)] M := by
  intro x1 x3 x5 x6 s0 M gx1 gx3 gx5 gx6 gs0 hF
  unfold w_X12_takeRoots_b120 at hF
  refine j_lstore (lv' := [(8, .long (Ll s0)), (0, .ref (ad 0)), (1, .long (Ll x1)), (3, .long (Ll x3)), (5, .int (Ii x5)), (6, .long (Ll x6))]) hJ dX12_takeRoots_120 (by decide) rfl ?_
  refine j_aload_n hJ dX12_takeRoots_122 rfl 1 rfl ?_
  refine j_gi hJ kR_0 fR_15_83 rfl fl_X12_625 dX12_takeRoots_123 (fun v1 ev1 gv1 => ?_)
  have hF := hF v1 ev1 gv1
  refine j_if_ne hJ 158 gv1 dX12_takeRoots_126 (by decide) (fun z2 => ?_) (fun z2 => ?_)
  · have hF := hF.1 z2
    exact j_sub hJ [1, 2, 3, 4, 5, 0] rfl (k_X12_takeRoots_b158 hin  hJ hK49 x1 x3 x5 x6 s0 _ gx1 gx3 gx5 gx6 gs0 hF)
  · have hF := hF.2 z2
    refine j_lload hJ dX12_takeRoots_129 0 rfl ?_
    refine j_lconst (x := 0) hJ dX12_takeRoots_131 rfl ?_
    refine j_lcmp_lt hJ 149 gs0 lkm_0 dX12_takeRoots_132 dX12_takeRoots_133 (by decide) (fun z3 => ?_) (fun z3 => ?_)
    · have hF := hF.1 z3
      exact j_sub hJ [1, 2, 3, 4, 5, 0] rfl (k_X12_takeRoots_b149 hin  hJ hK49 x1 x3 x5 x6 s0 _ gx1 gx3 gx5 gx6 gs0 hF)
    · have hF := hF.2 z3
      refine j_lload hJ dX12_takeRoots_136 0 rfl ?_
      refine j_aload_n hJ dX12_takeRoots_138 rfl 1 rfl ?_
      refine j_gr (e := 38) hJ kR_0 fR_15_48 fl_X12_183 dX12_takeRoots_139 rfl ?_
      refine j_iconst hJ dX12_takeRoots_142 ?_
      refine j_iald hJ rk_4 kR_38 (by decide) (by decide) dX12_takeRoots_143 (fun v4 ev4 gv4 => ?_)
      have hF := hF v4 ev4 gv4
      refine j_i2l hJ gv4 dX12_takeRoots_144 ?_
      refine j_lcmp_lt hJ 158 gs0 (rl_ri gv4) dX12_takeRoots_145 dX12_takeRoots_146 (by decide) (fun z5 => ?_) (fun z5 => ?_)
      · have hF := hF.1 z5
        exact j_sub hJ [1, 2, 3, 4, 5, 0] rfl (k_X12_takeRoots_b158 hin  hJ hK49 x1 x3 x5 x6 s0 _ gx1 gx3 gx5 gx6 gs0 hF)
      · have hF := hF.2 z5
        exact j_sub hJ [1, 2, 3, 4, 5, 0] rfl (k_X12_takeRoots_b149 hin  hJ hK49 x1 x3 x5 x6 s0 _ gx1 gx3 gx5 gx6 gs0 hF)
set_option maxHeartbeats 4000000 in
set_option maxRecDepth 100000 in
theorem k_X12_takeRoots_b102 {l : Launch} {D : va_G} {cy : Nat → ClassId} {ad : Nat → Nat} {Q : Int → MM → Prop} {J : Nat → List (Nat × Value) → List Value → MM → Prop} (hin : jIn ad ksR.length)   (hJ : jOk l D vwCl (tyR cy) cy ad ftR ksR (XtR ad) Om RX12 cX12_takeRoots 10 0 ({ frames := 2, cells := 0, slots := 0, locals := 46 } : Room) Q J) {K49 : Int → Int → Int → MM → Prop} (hK49 : ∀ (x1 x3 x5 : Int) (M : MM), rl_ x1 → rl_ x3 → ri_ x5 → K49 x1 x3 x5 M → J 49 [(0, .ref (ad 0)), (1, .long (Ll x1)), (3, .long (Ll x3)), (5, .int (Ii x5))] [] M) : ∀ (x1 x5 x6 : Int) (M : MM), rl_ x1 → ri_ x5 → rl_ x6 → w_X12_takeRoots_b102  Q K49 x1 x5 x6 M → J 102 [(0, .ref (ad 0)), (1, .long (Ll x1)), (5, .int (Ii x5)), (6, .long (Ll x6))] [] M := by
  intro x1 x5 x6 M gx1 gx5 gx6 hF
  unfold w_X12_takeRoots_b102 at hF
  refine j_lload hJ dX12_takeRoots_102 3 rfl ?_
  refine j_lstore_n (lv' := [(3, .long (Ll x6)), (0, .ref (ad 0)), (1, .long (Ll x1)), (5, .int (Ii x5)), (6, .long (Ll x6))]) hJ dX12_takeRoots_104 rfl (by decide) rfl ?_
  refine j_aload_n hJ dX12_takeRoots_105 rfl 1 rfl ?_
  refine j_gi hJ kR_0 fR_15_83 rfl fl_X12_625 dX12_takeRoots_106 (fun v1 ev1 gv1 => ?_)
  have hF := hF v1 ev1 gv1
  refine j_if_ne hJ 119 gv1 dX12_takeRoots_109 (by decide) (fun z2 => ?_) (fun z2 => ?_)
  · have hF := hF.1 z2
    refine j_lconst (x := 0) hJ dX12_takeRoots_119 rfl ?_
    exact j_sub hJ [1, 2, 0, 3, 4] rfl (k_X12_takeRoots_b120 hin  hJ hK49 x1 x6 x5 x6 0 _ gx1 gx6 gx5 gx6 lkm_0 hF)
  · have hF := hF.2 z2
    refine j_aload_n hJ dX12_takeRoots_112 rfl 1 rfl ?_
    refine j_callVl hJ (c_X12_takeNumber (l := l) (D := D) (cy := cy) (ad := ad) hin) rfl om_1554 ⟨rfl, rfl, Nat.le_of_ble_eq_true rfl, Nat.le_of_ble_eq_true rfl⟩ [] mv_X12_983 hd_X12_takeNumberv kR_0 rfl rfl rfl (Nat.le_of_ble_eq_true rfl) dX12_takeRoots_113 ⟨rfl, hF⟩ (fun r3 M4 gr3 qM4 => ?_)
    have hF := qM4 gr3
    refine j_goto hJ 120 dX12_takeRoots_116 (by decide) ?_
    exact j_sub hJ [1, 2, 0, 3, 4] rfl (k_X12_takeRoots_b120 hin  hJ hK49 x1 x6 x5 x6 r3 _ gx1 gx6 gx5 gx6 gr3 hF)
set_option maxHeartbeats 4000000 in
set_option maxRecDepth 100000 in
theorem k_X12_takeRoots_b93 {l : Launch} {D : va_G} {cy : Nat → ClassId} {ad : Nat → Nat} {Q : Int → MM → Prop} {J : Nat → List (Nat × Value) → List Value → MM → Prop} (hin : jIn ad ksR.length)   (hJ : jOk l D vwCl (tyR cy) cy ad ftR ksR (XtR ad) Om RX12 cX12_takeRoots 10 0 ({ frames := 2, cells := 0, slots := 0, locals := 46 } : Room) Q J) {K49 : Int → Int → Int → MM → Prop} (hK49 : ∀ (x1 x3 x5 : Int) (M : MM), rl_ x1 → rl_ x3 → ri_ x5 → K49 x1 x3 x5 M → J 49 [(0, .ref (ad 0)), (1, .long (Ll x1)), (3, .long (Ll x3)), (5, .int (Ii x5))] [] M) : ∀ (x1 x5 x6 : Int) (M : MM), rl_ x1 → ri_ x5 → rl_ x6 → w_X12_takeRoots_b93  Q K49 x1 x5 x6 M → J 93 [(0, .ref (ad 0)), (1, .long (Ll x1)), (5, .int (Ii x5)), (6, .long (Ll x6))] [] M := by
  intro x1 x5 x6 M gx1 gx5 gx6 hF
  unfold w_X12_takeRoots_b93 at hF
  refine j_aload_n hJ dX12_takeRoots_93 rfl 0 rfl ?_
  refine j_iconst hJ dX12_takeRoots_94 ?_
  refine j_aload_n hJ dX12_takeRoots_95 rfl 0 rfl ?_
  refine j_gi hJ kR_0 fR_15_143 rfl fl_X12_978 dX12_takeRoots_96 (fun v1 ev1 gv1 => ?_)
  have hF := hF v1 ev1 gv1
  refine j_callVv hJ (c_X12_fail (l := l) (D := D) (cy := cy) (ad := ad) hin) rfl om_1351 ⟨rfl, rfl, Nat.le_of_ble_eq_true rfl, Nat.le_of_ble_eq_true rfl⟩ [.int (Ii 4), .int (Ii v1)] mv_X12_653 hd_X12_failv kR_0 rfl rfl rfl (Nat.le_of_ble_eq_true rfl) dX12_takeRoots_99 ⟨4, v1, rfl, rk_4, gv1, hF⟩ (fun M3 qM3 => ?_)
  have hF := qM3
  exact j_sub hJ [0, 1, 2, 3] rfl (k_X12_takeRoots_b102 hin  hJ hK49 x1 x5 x6 _ gx1 gx5 gx6 hF)
set_option maxHeartbeats 4000000 in
set_option maxRecDepth 100000 in
theorem k_X12_takeRoots_b49 {l : Launch} {D : va_G} {cy : Nat → ClassId} {ad : Nat → Nat} {Q : Int → MM → Prop} {J : Nat → List (Nat × Value) → List Value → MM → Prop} (hin : jIn ad ksR.length)   (hJ : jOk l D vwCl (tyR cy) cy ad ftR ksR (XtR ad) Om RX12 cX12_takeRoots 10 0 ({ frames := 2, cells := 0, slots := 0, locals := 46 } : Room) Q J)  : ∀ (x1 x3 x5 : Int) (M : MM), rl_ x1 → rl_ x3 → ri_ x5 → w_X12_takeRoots_b49  Q  x1 x3 x5 M → J 49 [(0, .ref (ad 0)), (1, .long (Ll x1)), (3, .long (Ll x3)), (5, .int (Ii x5))] [] M := by
  have H9 : ∀ (n : Nat) (x1 x3 x5 : Int) (M : MM), rl_ x1 → rl_ x3 → ri_ x5 → jit (fun _ _ _ _ => False) (wb_X12_takeRoots_b49  Q ) n x1 x3 x5 M → J 49 [(0, .ref (ad 0)), (1, .long (Ll x1)), (3, .long (Ll x3)), (5, .int (Ii x5))] [] M := by
    intro n
    induction n with
    | zero => intro x1 x3 x5 M gx1 gx3 gx5 hF; exact False.elim hF
    | succ n ih =>
    intro x1 x3 x5 M gx1 gx3 gx5 hF
    have hF : wb_X12_takeRoots_b49  Q  (jit (fun _ _ _ _ => False) (wb_X12_takeRoots_b49  Q ) n) x1 x3 x5 M := hF
    unfold wb_X12_takeRoots_b49 at hF
    refine j_iload hJ dX12_takeRoots_49 3 rfl ?_
    refine j_i2l hJ gx5 dX12_takeRoots_51 ?_
    refine j_lload_n hJ dX12_takeRoots_52 rfl 1 rfl ?_
    refine j_lcmp_ge hJ 182 (rl_ri gx5) gx1 dX12_takeRoots_53 dX12_takeRoots_54 (by decide) (fun z1 => ?_) (fun z1 => ?_)
    · have hF := hF.1 z1
      exact j_vret hJ rfl dX12_takeRoots_182 hF
    · have hF := hF.2 z1
      refine j_aload_n hJ dX12_takeRoots_57 rfl 0 rfl ?_
      refine j_gi hJ kR_0 fR_15_83 rfl fl_X12_625 dX12_takeRoots_58 (fun v2 ev2 gv2 => ?_)
      have hF := hF v2 ev2 gv2
      refine j_if_ne hJ 182 gv2 dX12_takeRoots_61 (by decide) (fun z3 => ?_) (fun z3 => ?_)
      · have hF := hF.1 z3
        exact j_vret hJ rfl dX12_takeRoots_182 hF
      · have hF := hF.2 z3
        refine j_aload_n hJ dX12_takeRoots_64 rfl 0 rfl ?_
        refine j_callVl hJ (c_X12_takeNumber (l := l) (D := D) (cy := cy) (ad := ad) hin) rfl om_1554 ⟨rfl, rfl, Nat.le_of_ble_eq_true rfl, Nat.le_of_ble_eq_true rfl⟩ [] mv_X12_983 hd_X12_takeNumberv kR_0 rfl rfl rfl (Nat.le_of_ble_eq_true rfl) dX12_takeRoots_65 ⟨rfl, hF⟩ (fun r4 M5 gr4 qM5 => ?_)
        have hF := qM5 gr4
        refine j_lstore (lv' := [(6, .long (Ll r4)), (0, .ref (ad 0)), (1, .long (Ll x1)), (3, .long (Ll x3)), (5, .int (Ii x5))]) hJ dX12_takeRoots_68 (by decide) rfl ?_
        refine j_aload_n hJ dX12_takeRoots_70 rfl 1 rfl ?_
        refine j_gi hJ kR_0 fR_15_83 rfl fl_X12_625 dX12_takeRoots_71 (fun v6 ev6 gv6 => ?_)
        have hF := hF v6 ev6 gv6
        refine j_if_ne hJ 102 gv6 dX12_takeRoots_74 (by decide) (fun z7 => ?_) (fun z7 => ?_)
        · have hF := hF.1 z7
          exact j_sub hJ [1, 2, 4, 0] rfl (k_X12_takeRoots_b102 hin  hJ ih x1 x5 r4 _ gx1 gx5 gr4 hF)
        · have hF := hF.2 z7
          refine j_lload hJ dX12_takeRoots_77 0 rfl ?_
          refine j_lload_n hJ dX12_takeRoots_79 rfl 3 rfl ?_
          refine j_lcmp_le hJ 93 gr4 gx3 dX12_takeRoots_80 dX12_takeRoots_81 (by decide) (fun z8 => ?_) (fun z8 => ?_)
          · have hF := hF.1 z8
            exact j_sub hJ [1, 2, 4, 0] rfl (k_X12_takeRoots_b93 hin  hJ ih x1 x5 r4 _ gx1 gx5 gr4 hF)
          · have hF := hF.2 z8
            refine j_lload hJ dX12_takeRoots_84 0 rfl ?_
            refine j_ldc2 hJ 107 om_1567 (by decide) dX12_takeRoots_86 ?_
            refine j_lcmp_le hJ 102 gr4 lk_107 dX12_takeRoots_89 dX12_takeRoots_90 (by decide) (fun z9 => ?_) (fun z9 => ?_)
            · have hF := hF.1 z9
              exact j_sub hJ [1, 2, 4, 0] rfl (k_X12_takeRoots_b102 hin  hJ ih x1 x5 r4 _ gx1 gx5 gr4 hF)
            · have hF := hF.2 z9
              exact j_sub hJ [1, 2, 4, 0] rfl (k_X12_takeRoots_b93 hin  hJ ih x1 x5 r4 _ gx1 gx5 gr4 hF)
  intro x1 x3 x5 M gx1 gx3 gx5 hF
  obtain ⟨n, hF⟩ := hF
  exact H9 n x1 x3 x5 M gx1 gx3 gx5 hF
set_option maxHeartbeats 4000000 in
set_option maxRecDepth 100000 in
theorem k_X12_takeRoots_b35 {l : Launch} {D : va_G} {cy : Nat → ClassId} {ad : Nat → Nat} {Q : Int → MM → Prop} {J : Nat → List (Nat × Value) → List Value → MM → Prop} (hin : jIn ad ksR.length)   (hJ : jOk l D vwCl (tyR cy) cy ad ftR ksR (XtR ad) Om RX12 cX12_takeRoots 10 0 ({ frames := 2, cells := 0, slots := 0, locals := 46 } : Room) Q J)  : ∀ (x1 : Int) (M : MM), rl_ x1 → w_X12_takeRoots_b35  Q  x1 M → J 35 [(0, .ref (ad 0)), (1, .long (Ll x1))] [] M := by
  intro x1 M gx1 hF
  unfold w_X12_takeRoots_b35 at hF
  refine j_aload_n hJ dX12_takeRoots_35 rfl 0 rfl ?_
  refine j_gr (e := 55) hJ kR_0 fR_15_65 fl_X12_234 dX12_takeRoots_36 rfl ?_
  refine j_iconst hJ dX12_takeRoots_39 ?_
  refine j_iconst hJ dX12_takeRoots_40 ?_
  refine j_iast hJ rk_4 rk_0 kR_55 (by decide) (by decide) dX12_takeRoots_41 (fun M1 eM1 => ?_)
  have hF := hF M1 eM1
  refine j_ldc2 hJ (-1) om_1068 (by decide) dX12_takeRoots_42 ?_
  refine j_lstore_n (lv' := [(3, .long (Ll (-1))), (0, .ref (ad 0)), (1, .long (Ll x1))]) hJ dX12_takeRoots_45 rfl (by decide) rfl ?_
  refine j_iconst hJ dX12_takeRoots_46 ?_
  refine j_istore (lv' := [(5, .int (Ii 0)), (3, .long (Ll (-1))), (0, .ref (ad 0)), (1, .long (Ll x1))]) hJ dX12_takeRoots_47 (by decide) rfl ?_
  exact j_sub hJ [2, 3, 1, 0] rfl (k_X12_takeRoots_b49 hin  hJ  x1 (-1) 0 _ gx1 lk_m1 rk_0 hF)
set_option maxHeartbeats 4000000 in
set_option maxRecDepth 100000 in
theorem k_X12_takeRoots_b26 {l : Launch} {D : va_G} {cy : Nat → ClassId} {ad : Nat → Nat} {Q : Int → MM → Prop} {J : Nat → List (Nat × Value) → List Value → MM → Prop} (hin : jIn ad ksR.length)   (hJ : jOk l D vwCl (tyR cy) cy ad ftR ksR (XtR ad) Om RX12 cX12_takeRoots 10 0 ({ frames := 2, cells := 0, slots := 0, locals := 46 } : Room) Q J)  : ∀ (x1 : Int) (M : MM), rl_ x1 → w_X12_takeRoots_b26  Q  x1 M → J 26 [(0, .ref (ad 0)), (1, .long (Ll x1))] [] M := by
  intro x1 M gx1 hF
  unfold w_X12_takeRoots_b26 at hF
  refine j_aload_n hJ dX12_takeRoots_26 rfl 0 rfl ?_
  refine j_iconst hJ dX12_takeRoots_27 ?_
  refine j_aload_n hJ dX12_takeRoots_28 rfl 0 rfl ?_
  refine j_gi hJ kR_0 fR_15_143 rfl fl_X12_978 dX12_takeRoots_29 (fun v1 ev1 gv1 => ?_)
  have hF := hF v1 ev1 gv1
  refine j_callVv hJ (c_X12_fail (l := l) (D := D) (cy := cy) (ad := ad) hin) rfl om_1351 ⟨rfl, rfl, Nat.le_of_ble_eq_true rfl, Nat.le_of_ble_eq_true rfl⟩ [.int (Ii 4), .int (Ii v1)] mv_X12_653 hd_X12_failv kR_0 rfl rfl rfl (Nat.le_of_ble_eq_true rfl) dX12_takeRoots_32 ⟨4, v1, rfl, rk_4, gv1, hF⟩ (fun M3 qM3 => ?_)
  have hF := qM3
  exact j_sub hJ [0, 1] rfl (k_X12_takeRoots_b35 hin  hJ  x1 _ gx1 hF)
set_option maxHeartbeats 4000000 in
set_option maxRecDepth 100000 in
theorem c_X12_takeRoots {l : Launch} {D : va_G} {cy : Nat → ClassId} {ad : Nat → Nat} (hin : jIn ad ksR.length) : jCN l D vwCl (tyR cy) cy ad ftR ksR (XtR ad) yX12_takeRoots (.code yX12_takeRoots cX12_takeRoots 10 none :: Om) ({ frames := 2, cells := 0, slots := 0, locals := 46 } : Room) 0 (W_X12_takeRoots ad) := by
  refine jCN_of (y := yX12_takeRoots) (cc := cX12_takeRoots) (nL := 10) (rk := 0) (rm := ({ frames := 2, cells := 0, slots := 0, locals := 46 } : Room)) (own := RX12) (tyR_ok cy) hin (XtR_ok ad) Om_good (by decide) rfl ?_
  intro Q av M hF
  obtain ⟨rfl, hF⟩ := hF
  refine ⟨Nat.le_of_ble_eq_true rfl, fun J hJ => ?_⟩
  show J 0 [(0, .ref (ad 0))] [] M
  unfold w_X12_takeRoots at hF
  refine j_aload_n hJ dX12_takeRoots_0 rfl 0 rfl ?_
  refine j_callVl hJ (c_X12_takeNumber (l := l) (D := D) (cy := cy) (ad := ad) hin) rfl om_1554 ⟨rfl, rfl, Nat.le_of_ble_eq_true rfl, Nat.le_of_ble_eq_true rfl⟩ [] mv_X12_983 hd_X12_takeNumberv kR_0 rfl rfl rfl (Nat.le_of_ble_eq_true rfl) dX12_takeRoots_1 ⟨rfl, hF⟩ (fun r1 M2 gr1 qM2 => ?_)
  have hF := qM2 gr1
  refine j_lstore_n (lv' := [(1, .long (Ll r1)), (0, .ref (ad 0))]) hJ dX12_takeRoots_4 rfl (by decide) rfl ?_
  refine j_aload_n hJ dX12_takeRoots_5 rfl 1 rfl ?_
  refine j_gi hJ kR_0 fR_15_83 rfl fl_X12_625 dX12_takeRoots_6 (fun v3 ev3 gv3 => ?_)
  have hF := hF v3 ev3 gv3
  refine j_if_ne hJ 35 gv3 dX12_takeRoots_9 (by decide) (fun z4 => ?_) (fun z4 => ?_)
  · have hF := hF.1 z4
    exact j_sub hJ [1, 0] rfl (k_X12_takeRoots_b35 hin  hJ  r1 _ gr1 hF)
  · have hF := hF.2 z4
    refine j_lload_n hJ dX12_takeRoots_12 rfl 0 rfl ?_
    refine j_lconst (x := 0) hJ dX12_takeRoots_13 rfl ?_
    refine j_lcmp_lt hJ 26 gr1 lkm_0 dX12_takeRoots_14 dX12_takeRoots_15 (by decide) (fun z5 => ?_) (fun z5 => ?_)
    · have hF := hF.1 z5
      exact j_sub hJ [1, 0] rfl (k_X12_takeRoots_b26 hin  hJ  r1 _ gr1 hF)
    · have hF := hF.2 z5
      refine j_lload_n hJ dX12_takeRoots_18 rfl 0 rfl ?_
      refine j_ldc2 hJ 108 om_1568 (by decide) dX12_takeRoots_19 ?_
      refine j_lcmp_le hJ 35 gr1 lk_108 dX12_takeRoots_22 dX12_takeRoots_23 (by decide) (fun z6 => ?_) (fun z6 => ?_)
      · have hF := hF.1 z6
        exact j_sub hJ [1, 0] rfl (k_X12_takeRoots_b35 hin  hJ  r1 _ gr1 hF)
      · have hF := hF.2 z6
        exact j_sub hJ [1, 0] rfl (k_X12_takeRoots_b26 hin  hJ  r1 _ gr1 hF)
def W_X12_meetNext (ad : Nat → Nat) (Q : Int → MM → Prop) (av : List Value) (M : MM) : Prop := ∃ (p1 : Int) (p2 : Int), av = [.ref (ad 0), .int (Ii p1), .int (Ii p2)] ∧ ri_ p1 ∧ ri_ p2 ∧ w_X12_meetNext  Q p1 p2 M
set_option maxHeartbeats 4000000 in
set_option maxRecDepth 100000 in
theorem k_X12_meetNext_b28 {l : Launch} {D : va_G} {cy : Nat → ClassId} {ad : Nat → Nat} {Q : Int → MM → Prop} {J : Nat → List (Nat × Value) → List Value → MM → Prop} (hin : jIn ad ksR.length)   (hJ : jOk l D vwCl (tyR cy) cy ad ftR ksR (XtR ad) Om RX12 cX12_meetNext 3 1 ({ frames := 1, cells := 0, slots := 0, locals := 22 } : Room) Q J)  : ∀ (x1 x2 : Int) (M : MM), ri_ x1 → ri_ x2 → w_X12_meetNext_b28  Q  x1 x2 M → J 28 [(0, .ref (ad 0)), (1, .int (Ii x1)), (2, .int (Ii x2))] [] M := by
  intro x1 x2 M gx1 gx2 hF
  unfold w_X12_meetNext_b28 at hF
  refine j_aload_n hJ dX12_meetNext_28 rfl 0 rfl ?_
  refine j_gr (e := 60) hJ kR_0 fR_15_70 fl_X12_249 dX12_meetNext_29 rfl ?_
  refine j_iload_n hJ dX12_meetNext_32 rfl 1 rfl ?_
  refine j_iconst hJ dX12_meetNext_33 ?_
  refine j_zast hJ gx1 (by decide) kR_60 hF.1 hF.2.1 dX12_meetNext_34 (fun M1 eM1 => ?_)
  have hF := hF.2.2 M1 eM1
  refine j_iload_n hJ dX12_meetNext_35 rfl 2 rfl ?_
  refine j_iconst hJ dX12_meetNext_36 ?_
  refine j_iadd hJ dX12_meetNext_37 ?_
  have g2 := hF.1; have hF := hF.2
  exact j_iret hJ rfl g2 dX12_meetNext_38 hF
set_option maxHeartbeats 4000000 in
set_option maxRecDepth 100000 in
theorem c_X12_meetNext {l : Launch} {D : va_G} {cy : Nat → ClassId} {ad : Nat → Nat} (hin : jIn ad ksR.length) : jCN l D vwCl (tyR cy) cy ad ftR ksR (XtR ad) yX12_meetNext (.code yX12_meetNext cX12_meetNext 3 (some .int) :: Om) ({ frames := 1, cells := 0, slots := 0, locals := 22 } : Room) 1 (W_X12_meetNext ad) := by
  refine jCN_of (y := yX12_meetNext) (cc := cX12_meetNext) (nL := 3) (rk := 1) (rm := ({ frames := 1, cells := 0, slots := 0, locals := 22 } : Room)) (own := RX12) (tyR_ok cy) hin (XtR_ok ad) Om_good (by decide) rfl ?_
  intro Q av M hF
  obtain ⟨p1, p2, rfl, gp1, gp2, hF⟩ := hF
  refine ⟨Nat.le_of_ble_eq_true rfl, fun J hJ => ?_⟩
  show J 0 [(0, .ref (ad 0)), (1, .int (Ii p1)), (2, .int (Ii p2))] [] M
  unfold w_X12_meetNext at hF
  refine j_aload_n hJ dX12_meetNext_0 rfl 0 rfl ?_
  refine j_gr (e := 60) hJ kR_0 fR_15_70 fl_X12_249 dX12_meetNext_1 rfl ?_
  refine j_iload_n hJ dX12_meetNext_4 rfl 1 rfl ?_
  refine j_zald hJ gp1 kR_60 hF.1 hF.2.1 dX12_meetNext_5 (fun v1 ev1 gv1 => ?_)
  have hF := hF.2.2 v1 ev1 gv1
  refine j_if_eq hJ 11 (jz_ri gv1) dX12_meetNext_6 (by decide) (fun z2 => ?_) (fun z2 => ?_)
  · have hF := hF.1 z2
    refine j_iload_n hJ dX12_meetNext_11 rfl 1 rfl ?_
    refine j_iload_n hJ dX12_meetNext_12 rfl 2 rfl ?_
    refine j_icmp_eq hJ 28 gp1 gp2 dX12_meetNext_13 (by decide) (fun z3 => ?_) (fun z3 => ?_)
    · have hF := hF.1 z3
      exact j_sub hJ [0, 1, 2] rfl (k_X12_meetNext_b28 hin  hJ  p1 p2 _ gp1 gp2 hF)
    · have hF := hF.2 z3
      refine j_aload_n hJ dX12_meetNext_16 rfl 0 rfl ?_
      refine j_bipush hJ dX12_meetNext_17 (by decide) ?_
      refine j_aload_n hJ dX12_meetNext_19 rfl 0 rfl ?_
      refine j_gr (e := 100) hJ kR_0 fR_15_144 fl_X12_375 dX12_meetNext_20 rfl ?_
      refine j_iload_n hJ dX12_meetNext_23 rfl 2 rfl ?_
      refine j_iald hJ gp2 kR_100 hF.1 hF.2.1 dX12_meetNext_24 (fun v4 ev4 gv4 => ?_)
      have hF := hF.2.2 v4 ev4 gv4
      refine j_callVv hJ (c_X12_fail (l := l) (D := D) (cy := cy) (ad := ad) hin) rfl om_1351 ⟨rfl, rfl, Nat.le_of_ble_eq_true rfl, Nat.le_of_ble_eq_true rfl⟩ [.int (Ii 7), .int (Ii v4)] mv_X12_653 hd_X12_failv kR_0 rfl rfl rfl (Nat.le_of_ble_eq_true rfl) dX12_meetNext_25 ⟨7, v4, rfl, rk_7, gv4, hF⟩ (fun M6 qM6 => ?_)
      have hF := qM6
      exact j_sub hJ [0, 1, 2] rfl (k_X12_meetNext_b28 hin  hJ  p1 p2 _ gp1 gp2 hF)
  · have hF := hF.2 z2
    refine j_iload_n hJ dX12_meetNext_9 rfl 2 rfl ?_
    exact j_iret hJ rfl gp2 dX12_meetNext_10 hF
