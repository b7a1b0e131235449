def W_X4_nextThing (ad : Nat → Nat) (Q : Int → MM → Prop) (av : List Value) (M : MM) : Prop := ∃ (p1 : Int), av = [.ref (ad 219), .int (Ii p1)] ∧ ri_ p1 ∧ w_X4_nextThing  Q p1 M
set_option maxHeartbeats 4000000 in
set_option maxRecDepth 100000 in
theorem k_X4_nextThing_b0 {l : Launch} {D : va_G} {cy : Nat → ClassId} {ad : Nat → Nat} {Q : Int → MM → Prop} {J : Nat → List (Nat × Value) → List Value → MM → Prop} (hin : jIn ad ksC.length)   (hJ : jOk l D vwCl (tyC cy) cy ad ftC ksC (XtC ad) Om RX4 cX4_nextThing 4 1 ({ frames := 1, cells := 0, slots := 0, locals := 23 } : Room) Q J)  : ∀ (x1 : Int) (M : MM), ri_ x1 → w_X4_nextThing_b0  Q  x1 M → J 0 [(0, .ref (ad 219)), (1, .int (Ii x1))] [] M := by
  have H9 : ∀ (n : Nat) (x1 : Int) (M : MM), ri_ x1 → jit (fun _ _ => False) (wb_X4_nextThing_b0  Q ) n x1 M → J 0 [(0, .ref (ad 219)), (1, .int (Ii x1))] [] M := by
    intro n
    induction n with
    | zero => intro x1 M gx1 hF; exact False.elim hF
    | succ n ih =>
    intro x1 M gx1 hF
    have hF : wb_X4_nextThing_b0  Q  (jit (fun _ _ => False) (wb_X4_nextThing_b0  Q ) n) x1 M := hF
    unfold wb_X4_nextThing_b0 at hF
    refine j_aload_n hJ dX4_nextThing_0 rfl 0 rfl ?_
    refine j_gr (e := 224) hJ kC_219 fC_7_9 fl_X4_33 dX4_nextThing_1 rfl ?_
    refine j_iload_n hJ dX4_nextThing_4 rfl 1 rfl ?_
    refine j_iald hJ gx1 kC_224 hF.1 hF.2.1 dX4_nextThing_5 (fun v1 ev1 gv1 => ?_)
    have hF := hF.2.2 v1 ev1 gv1
    refine j_aload_n hJ dX4_nextThing_6 rfl 0 rfl ?_
    refine j_gr (e := 225) hJ kC_219 fC_7_10 fl_X4_36 dX4_nextThing_7 rfl ?_
    refine j_iload_n hJ dX4_nextThing_10 rfl 1 rfl ?_
    refine j_iald hJ gx1 kC_225 hF.1 hF.2.1 dX4_nextThing_11 (fun v2 ev2 gv2 => ?_)
    have hF := hF.2.2 v2 ev2 gv2
    refine j_icmp_ge hJ 49 gv1 gv2 dX4_nextThing_12 (by decide) (fun z3 => ?_) (fun z3 => ?_)
    · have hF := hF.1 z3
      refine j_iconst hJ dX4_nextThing_49 ?_
      exact j_iret hJ rfl rk_m1 dX4_nextThing_50 hF
    · have hF := hF.2 z3
      refine j_aload_n hJ dX4_nextThing_15 rfl 0 rfl ?_
      refine j_gr (e := 224) hJ kC_219 fC_7_9 fl_X4_33 dX4_nextThing_16 rfl ?_
      refine j_iload_n hJ dX4_nextThing_19 rfl 1 rfl ?_
      refine j_iald hJ gx1 kC_224 hF.1 hF.2.1 dX4_nextThing_20 (fun v4 ev4 gv4 => ?_)
      have hF := hF.2.2 v4 ev4 gv4
      refine j_istore_n (lv' := [(2, .int (Ii v4)), (0, .ref (ad 219)), (1, .int (Ii x1))]) hJ dX4_nextThing_21 rfl (by decide) rfl ?_
      refine j_aload_n hJ dX4_nextThing_22 rfl 1 rfl ?_
      refine j_gr (e := 224) hJ kC_219 fC_7_9 fl_X4_33 dX4_nextThing_23 rfl ?_
      refine j_iload_n hJ dX4_nextThing_26 rfl 2 rfl ?_
      refine j_dup2_11 hJ dX4_nextThing_27 rfl rfl ?_
      refine j_iald hJ gx1 kC_224 hF.1 hF.2.1 dX4_nextThing_28 (fun v5 ev5 gv5 => ?_)
      have hF := hF.2.2 v5 ev5 gv5
      refine j_iconst hJ dX4_nextThing_29 ?_
      refine j_iadd hJ dX4_nextThing_30 ?_
      have g6 := hF.1; have hF := hF.2
      refine j_iast hJ gx1 g6 kC_224 hF.1 hF.2.1 dX4_nextThing_31 (fun M7 eM7 => ?_)
      have hF := hF.2.2 M7 eM7
      refine j_aload_n hJ dX4_nextThing_32 rfl 1 rfl ?_
      refine j_iload_n hJ dX4_nextThing_33 rfl 2 rfl ?_
      refine j_iload_n hJ dX4_nextThing_34 rfl 0 rfl ?_
      refine j_callVi hJ (c_X4_giveAt (l := l) (D := D) (cy := cy) (ad := ad) hin) rfl om_299 ⟨rfl, rfl, Nat.le_of_ble_eq_true rfl, Nat.le_of_ble_eq_true rfl⟩ [.int (Ii x1), .int (Ii v4)] mv_X4_242 hd_X4_giveAtv kC_219 rfl rfl rfl (Nat.le_of_ble_eq_true rfl) dX4_nextThing_35 ⟨x1, v4, rfl, gx1, gv4, hF⟩ (fun r8 M9 gr8 qM9 => ?_)
      have hF := qM9 gr8
      refine j_istore_n (lv' := [(3, .int (Ii r8)), (2, .int (Ii v4)), (0, .ref (ad 219)), (1, .int (Ii x1))]) hJ dX4_nextThing_38 rfl (by decide) rfl ?_
      refine j_iload_n hJ dX4_nextThing_39 rfl 0 rfl ?_
      refine j_iconst hJ dX4_nextThing_40 ?_
      refine j_icmp_eq hJ 46 gr8 rk_m1 dX4_nextThing_41 (by decide) (fun z10 => ?_) (fun z10 => ?_)
      · have hF := hF.1 z10
        refine j_goto hJ 0 dX4_nextThing_46 (by decide) ?_
        exact j_sub hJ [2, 3] rfl (ih x1 _ gx1 hF)
      · have hF := hF.2 z10
        refine j_iload_n hJ dX4_nextThing_44 rfl 0 rfl ?_
        exact j_iret hJ rfl gr8 dX4_nextThing_45 hF
  intro x1 M gx1 hF
  obtain ⟨n, hF⟩ := hF
  exact H9 n x1 M gx1 hF
set_option maxHeartbeats 4000000 in
set_option maxRecDepth 100000 in
theorem c_X4_nextThing {l : Launch} {D : va_G} {cy : Nat → ClassId} {ad : Nat → Nat} (hin : jIn ad ksC.length) : jCN l D vwCl (tyC cy) cy ad ftC ksC (XtC ad) yX4_nextThing (.code yX4_nextThing cX4_nextThing 4 (some .int) :: Om) ({ frames := 1, cells := 0, slots := 0, locals := 23 } : Room) 1 (W_X4_nextThing ad) := by
  refine jCN_of (y := yX4_nextThing) (cc := cX4_nextThing) (nL := 4) (rk := 1) (rm := ({ frames := 1, cells := 0, slots := 0, locals := 23 } : Room)) (own := RX4) (tyC_ok cy) hin (XtC_ok ad) Om_good (by decide) rfl ?_
  intro Q av M hF
  obtain ⟨p1, rfl, gp1, hF⟩ := hF
  refine ⟨Nat.le_of_ble_eq_true rfl, fun J hJ => ?_⟩
  show J 0 [(0, .ref (ad 219)), (1, .int (Ii p1))] [] M
  unfold w_X4_nextThing at hF
  exact j_sub hJ [0, 1] rfl (k_X4_nextThing_b0 hin  hJ  p1 _ gp1 hF)
def W_X4_addReached (ad : Nat → Nat) (Q : Int → MM → Prop) (av : List Value) (M : MM) : Prop := ∃ (p1 : Int) (p2 : Int), av = [.ref (ad 219), .int (Ii p1), .int (Ii p2)] ∧ ri_ p1 ∧ ri_ p2 ∧ w_X4_addReached  Q p1 p2 M
set_option maxHeartbeats 4000000 in
set_option maxRecDepth 100000 in
theorem c_X4_addReached {l : Launch} {D : va_G} {cy : Nat → ClassId} {ad : Nat → Nat} (hin : jIn ad ksC.length) : jCN l D vwCl (tyC cy) cy ad ftC ksC (XtC ad) yX4_addReached (.code yX4_addReached cX4_addReached 3 none :: Om) ({ frames := 0, cells := 0, slots := 0, locals := 0 } : Room) 0 (W_X4_addReached ad) := by
  refine jCN_of (y := yX4_addReached) (cc := cX4_addReached) (nL := 3) (rk := 0) (rm := ({ frames := 0, cells := 0, slots := 0, locals := 0 } : Room)) (own := RX4) (tyC_ok cy) hin (XtC_ok ad) Om_good (by decide) rfl ?_
  intro Q av M hF
  obtain ⟨p1, p2, rfl, gp1, gp2, hF⟩ := hF
  refine ⟨Nat.le_of_ble_eq_true rfl, fun J hJ => ?_⟩
  show J 0 [(0, .ref (ad 219)), (1, .int (Ii p1)), (2, .int (Ii p2))] [] M
  unfold w_X4_addReached at hF
  refine j_aload_n hJ dX4_addReached_0 rfl 0 rfl ?_
  refine j_gr (e := 230) hJ kC_219 fC_7_15 fl_X4_52 dX4_addReached_1 rfl ?_
  refine j_iload_n hJ dX4_addReached_4 rfl 1 rfl ?_
  refine j_sipush hJ dX4_addReached_5 (by decide) ?_
  refine j_imul hJ dX4_addReached_8 ?_
  have g1 := hF.1; have hF := hF.2
  refine j_iload_n hJ dX4_addReached_9 rfl 2 rfl ?_
  refine j_iadd hJ dX4_addReached_10 ?_
  have g2 := hF.1; have hF := hF.2
  refine j_iald hJ g2 kC_230 hF.1 hF.2.1 dX4_addReached_11 (fun v3 ev3 gv3 => ?_)
  have hF := hF.2.2 v3 ev3 gv3
  refine j_aload_n hJ dX4_addReached_12 rfl 0 rfl ?_
  refine j_gr (e := 231) hJ kC_219 fC_7_16 fl_X4_55 dX4_addReached_13 rfl ?_
  refine j_iload_n hJ dX4_addReached_16 rfl 1 rfl ?_
  refine j_iald hJ gp1 kC_231 hF.1 hF.2.1 dX4_addReached_17 (fun v4 ev4 gv4 => ?_)
  have hF := hF.2.2 v4 ev4 gv4
  refine j_icmp_eq hJ 67 gv3 gv4 dX4_addReached_18 (by decide) (fun z5 => ?_) (fun z5 => ?_)
  · have hF := hF.1 z5
    exact j_vret hJ rfl dX4_addReached_67 hF
  · have hF := hF.2 z5
    refine j_aload_n hJ dX4_addReached_21 rfl 0 rfl ?_
    refine j_gr (e := 230) hJ kC_219 fC_7_15 fl_X4_52 dX4_addReached_22 rfl ?_
    refine j_iload_n hJ dX4_addReached_25 rfl 1 rfl ?_
    refine j_sipush hJ dX4_addReached_26 (by decide) ?_
    refine j_imul hJ dX4_addReached_29 ?_
    have g6 := hF.1; have hF := hF.2
    refine j_iload_n hJ dX4_addReached_30 rfl 2 rfl ?_
    refine j_iadd hJ dX4_addReached_31 ?_
    have g7 := hF.1; have hF := hF.2
    refine j_aload_n hJ dX4_addReached_32 rfl 0 rfl ?_
    refine j_gr (e := 231) hJ kC_219 fC_7_16 fl_X4_55 dX4_addReached_33 rfl ?_
    refine j_iload_n hJ dX4_addReached_36 rfl 1 rfl ?_
    refine j_iald hJ gp1 kC_231 hF.1 hF.2.1 dX4_addReached_37 (fun v8 ev8 gv8 => ?_)
    have hF := hF.2.2 v8 ev8 gv8
    refine j_iast hJ g7 gv8 kC_230 hF.1 hF.2.1 dX4_addReached_38 (fun M9 eM9 => ?_)
    have hF := hF.2.2 M9 eM9
    refine j_aload_n hJ dX4_addReached_39 rfl 0 rfl ?_
    refine j_gr (e := 229) hJ kC_219 fC_7_14 fl_X4_49 dX4_addReached_40 rfl ?_
    refine j_iload_n hJ dX4_addReached_43 rfl 1 rfl ?_
    refine j_sipush hJ dX4_addReached_44 (by decide) ?_
    refine j_imul hJ dX4_addReached_47 ?_
    have g10 := hF.1; have hF := hF.2
    refine j_aload_n hJ dX4_addReached_48 rfl 0 rfl ?_
    refine j_gr (e := 225) hJ kC_219 fC_7_10 fl_X4_36 dX4_addReached_49 rfl ?_
    refine j_iload_n hJ dX4_addReached_52 rfl 1 rfl ?_
    refine j_iald hJ gp1 kC_225 hF.1 hF.2.1 dX4_addReached_53 (fun v11 ev11 gv11 => ?_)
    have hF := hF.2.2 v11 ev11 gv11
    refine j_iadd hJ dX4_addReached_54 ?_
    have g12 := hF.1; have hF := hF.2
    refine j_iload_n hJ dX4_addReached_55 rfl 2 rfl ?_
    refine j_iast hJ g12 gp2 kC_229 hF.1 hF.2.1 dX4_addReached_56 (fun M13 eM13 => ?_)
    have hF := hF.2.2 M13 eM13
    refine j_aload_n hJ dX4_addReached_57 rfl 0 rfl ?_
    refine j_gr (e := 225) hJ kC_219 fC_7_10 fl_X4_36 dX4_addReached_58 rfl ?_
    refine j_iload_n hJ dX4_addReached_61 rfl 1 rfl ?_
    refine j_dup2_11 hJ dX4_addReached_62 rfl rfl ?_
    refine j_iald hJ gp1 kC_225 hF.1 hF.2.1 dX4_addReached_63 (fun v14 ev14 gv14 => ?_)
    have hF := hF.2.2 v14 ev14 gv14
    refine j_iconst hJ dX4_addReached_64 ?_
    refine j_iadd hJ dX4_addReached_65 ?_
    have g15 := hF.1; have hF := hF.2
    refine j_iast hJ gp1 g15 kC_225 hF.1 hF.2.1 dX4_addReached_66 (fun M16 eM16 => ?_)
    have hF := hF.2.2 M16 eM16
    exact j_vret hJ rfl dX4_addReached_67 hF
def W_X4_nextReached (ad : Nat → Nat) (Q : Int → MM → Prop) (av : List Value) (M : MM) : Prop := ∃ (p1 : Int), av = [.ref (ad 219), .int (Ii p1)] ∧ ri_ p1 ∧ w_X4_nextReached  Q p1 M
set_option maxHeartbeats 4000000 in
set_option maxRecDepth 100000 in
theorem k_X4_nextReached_b151 {l : Launch} {D : va_G} {cy : Nat → ClassId} {ad : Nat → Nat} {Q : Int → MM → Prop} {J : Nat → List (Nat × Value) → List Value → MM → Prop} (hin : jIn ad ksC.length)   (hJ : jOk l D vwCl (tyC cy) cy ad ftC ksC (XtC ad) Om RX4 cX4_nextReached 4 1 ({ frames := 1, cells := 0, slots := 0, locals := 22 } : Room) Q J)  : ∀ (x1 : Int) (M : MM), ri_ x1 → w_X4_nextReached_b151  Q  x1 M → J 151 [(0, .ref (ad 219)), (1, .int (Ii x1))] [] M := by
  intro x1 M gx1 hF
  unfold w_X4_nextReached_b151 at hF
  refine j_aload_n hJ dX4_nextReached_151 rfl 0 rfl ?_
  refine j_gr (e := 224) hJ kC_219 fC_7_9 fl_X4_33 dX4_nextReached_152 rfl ?_
  refine j_iload_n hJ dX4_nextReached_155 rfl 1 rfl ?_
  refine j_iald hJ gx1 kC_224 hF.1 hF.2.1 dX4_nextReached_156 (fun v1 ev1 gv1 => ?_)
  have hF := hF.2.2 v1 ev1 gv1
  refine j_aload_n hJ dX4_nextReached_157 rfl 0 rfl ?_
  refine j_gr (e := 225) hJ kC_219 fC_7_10 fl_X4_36 dX4_nextReached_158 rfl ?_
  refine j_iload_n hJ dX4_nextReached_161 rfl 1 rfl ?_
  refine j_iald hJ gx1 kC_225 hF.1 hF.2.1 dX4_nextReached_162 (fun v2 ev2 gv2 => ?_)
  have hF := hF.2.2 v2 ev2 gv2
  refine j_icmp_ne hJ 168 gv1 gv2 dX4_nextReached_163 (by decide) (fun z3 => ?_) (fun z3 => ?_)
  · have hF := hF.1 z3
    refine j_aload_n hJ dX4_nextReached_168 rfl 0 rfl ?_
    refine j_gr (e := 224) hJ kC_219 fC_7_9 fl_X4_33 dX4_nextReached_169 rfl ?_
    refine j_iload_n hJ dX4_nextReached_172 rfl 1 rfl ?_
    refine j_dup2_11 hJ dX4_nextReached_173 rfl rfl ?_
    refine j_iald hJ gx1 kC_224 hF.1 hF.2.1 dX4_nextReached_174 (fun v4 ev4 gv4 => ?_)
    have hF := hF.2.2 v4 ev4 gv4
    refine j_iconst hJ dX4_nextReached_175 ?_
    refine j_iadd hJ dX4_nextReached_176 ?_
    have g5 := hF.1; have hF := hF.2
    refine j_iast hJ gx1 g5 kC_224 hF.1 hF.2.1 dX4_nextReached_177 (fun M6 eM6 => ?_)
    have hF := hF.2.2 M6 eM6
    refine j_aload_n hJ dX4_nextReached_178 rfl 0 rfl ?_
    refine j_gr (e := 229) hJ kC_219 fC_7_14 fl_X4_49 dX4_nextReached_179 rfl ?_
    refine j_iload_n hJ dX4_nextReached_182 rfl 1 rfl ?_
    refine j_sipush hJ dX4_nextReached_183 (by decide) ?_
    refine j_imul hJ dX4_nextReached_186 ?_
    have g7 := hF.1; have hF := hF.2
    refine j_aload_n hJ dX4_nextReached_187 rfl 0 rfl ?_
    refine j_gr (e := 224) hJ kC_219 fC_7_9 fl_X4_33 dX4_nextReached_188 rfl ?_
    refine j_iload_n hJ dX4_nextReached_191 rfl 1 rfl ?_
    refine j_iald hJ gx1 kC_224 hF.1 hF.2.1 dX4_nextReached_192 (fun v8 ev8 gv8 => ?_)
    have hF := hF.2.2 v8 ev8 gv8
    refine j_iadd hJ dX4_nextReached_193 ?_
    have g9 := hF.1; have hF := hF.2
    refine j_iconst hJ dX4_nextReached_194 ?_
    refine j_isub hJ dX4_nextReached_195 ?_
    have g10 := hF.1; have hF := hF.2
    refine j_iald hJ g10 kC_229 hF.1 hF.2.1 dX4_nextReached_196 (fun v11 ev11 gv11 => ?_)
    have hF := hF.2.2 v11 ev11 gv11
    exact j_iret hJ rfl gv11 dX4_nextReached_197 hF
  · have hF := hF.2 z3
    refine j_iconst hJ dX4_nextReached_166 ?_
    exact j_iret hJ rfl rk_m1 dX4_nextReached_167 hF
set_option maxHeartbeats 4000000 in
set_option maxRecDepth 100000 in
theorem k_X4_nextReached_b142 {l : Launch} {D : va_G} {cy : Nat → ClassId} {ad : Nat → Nat} {Q : Int → MM → Prop} {J : Nat → List (Nat × Value) → List Value → MM → Prop} (hin : jIn ad ksC.length)   (hJ : jOk l D vwCl (tyC cy) cy ad ftC ksC (XtC ad) Om RX4 cX4_nextReached 4 1 ({ frames := 1, cells := 0, slots := 0, locals := 22 } : Room) Q J) {K0 : Int → MM → Prop} (hK0 : ∀ (x1 : Int) (M : MM), ri_ x1 → K0 x1 M → J 0 [(0, .ref (ad 219)), (1, .int (Ii x1))] [] M) {K84 : Int → Int → Int → MM → Prop} (hK84 : ∀ (x1 x2 x3 : Int) (M : MM), ri_ x1 → ri_ x2 → ri_ x3 → K84 x1 x2 x3 M → J 84 [(0, .ref (ad 219)), (1, .int (Ii x1)), (2, .int (Ii x2)), (3, .int (Ii x3))] [] M) : ∀ (x1 x2 x3 : Int) (M : MM), ri_ x1 → ri_ x2 → ri_ x3 → w_X4_nextReached_b142  Q K0 K84 x1 x2 x3 M → J 142 [(0, .ref (ad 219)), (1, .int (Ii x1)), (2, .int (Ii x2)), (3, .int (Ii x3))] [] M := by
  intro x1 x2 x3 M gx1 gx2 gx3 hF
  unfold w_X4_nextReached_b142 at hF
  refine j_iinc (lv' := [(3, .int (Ii (x3 + 1))), (0, .ref (ad 219)), (1, .int (Ii x1)), (2, .int (Ii x2))]) (k := 3) hJ dX4_nextReached_142 rfl (by decide) rfl ?_
  have g1 := hF.1; have hF := hF.2
  refine j_goto hJ 84 dX4_nextReached_145 (by decide) ?_
  exact j_sub hJ [1, 2, 3, 0] rfl (hK84 x1 x2 (x3 + 1) _ gx1 gx2 g1 hF)
set_option maxHeartbeats 4000000 in
set_option maxRecDepth 100000 in
theorem k_X4_nextReached_b84 {l : Launch} {D : va_G} {cy : Nat → ClassId} {ad : Nat → Nat} {Q : Int → MM → Prop} {J : Nat → List (Nat × Value) → List Value → MM → Prop} (hin : jIn ad ksC.length)   (hJ : jOk l D vwCl (tyC cy) cy ad ftC ksC (XtC ad) Om RX4 cX4_nextReached 4 1 ({ frames := 1, cells := 0, slots := 0, locals := 22 } : Room) Q J) {K0 : Int → MM → Prop} (hK0 : ∀ (x1 : Int) (M : MM), ri_ x1 → K0 x1 M → J 0 [(0, .ref (ad 219)), (1, .int (Ii x1))] [] M) : ∀ (x1 x2 x3 : Int) (M : MM), ri_ x1 → ri_ x2 → ri_ x3 → w_X4_nextReached_b84  Q K0 x1 x2 x3 M → J 84 [(0, .ref (ad 219)), (1, .int (Ii x1)), (2, .int (Ii x2)), (3, .int (Ii x3))] [] M := by
  have H9 : ∀ (n : Nat) (x1 x2 x3 : Int) (M : MM), ri_ x1 → ri_ x2 → ri_ x3 → jit (fun _ _ _ _ => False) (wb_X4_nextReached_b84  Q K0) n x1 x2 x3 M → J 84 [(0, .ref (ad 219)), (1, .int (Ii x1)), (2, .int (Ii x2)), (3, .int (Ii x3))] [] M := by
    intro n
    induction n with
    | zero => intro x1 x2 x3 M gx1 gx2 gx3 hF; exact False.elim hF
    | succ n ih =>
    intro x1 x2 x3 M gx1 gx2 gx3 hF
    have hF : wb_X4_nextReached_b84  Q K0 (jit (fun _ _ _ _ => False) (wb_X4_nextReached_b84  Q K0) n) x1 x2 x3 M := hF
    unfold wb_X4_nextReached_b84 at hF
    refine j_iload_n hJ dX4_nextReached_84 rfl 3 rfl ?_
    refine j_aload_n hJ dX4_nextReached_85 rfl 0 rfl ?_
    obtain ⟨c1, ec1, hc1, hF⟩ := hF
    refine j_gq hJ kC_219 fC_7_1 rfl fl_X4_79 dX4_nextReached_86 ec1 ?_
    refine j_gr (e := (c1 + 4)) hJ (kP_0 hc1) fC_8_4 fl_X4_191 dX4_nextReached_89 rfl ?_
    refine j_iload_n hJ dX4_nextReached_92 rfl 2 rfl ?_
    refine j_iconst hJ dX4_nextReached_93 ?_
    refine j_iadd hJ dX4_nextReached_94 ?_
    have g2 := hF.1; have hF := hF.2
    refine j_iald hJ g2 (kP_4 hc1) hF.1 hF.2.1 dX4_nextReached_95 (fun v3 ev3 gv3 => ?_)
    have hF := hF.2.2 v3 ev3 gv3
    refine j_icmp_ge hJ 148 gx3 gv3 dX4_nextReached_96 (by decide) (fun z4 => ?_) (fun z4 => ?_)
    · have hF := hF.1 z4
      refine j_goto hJ 0 dX4_nextReached_148 (by decide) ?_
      exact j_sub hJ [0, 1] rfl (hK0 x1 _ gx1 hF)
    · have hF := hF.2 z4
      refine j_aload_n hJ dX4_nextReached_99 rfl 0 rfl ?_
      obtain ⟨c5, ec5, hc5, hF⟩ := hF
      refine j_gq hJ kC_219 fC_7_1 rfl fl_X4_79 dX4_nextReached_100 ec5 ?_
      refine j_gr (e := (c5 + 10)) hJ (kP_0 hc5) fC_8_10 fl_X4_194 dX4_nextReached_103 rfl ?_
      refine j_iload_n hJ dX4_nextReached_106 rfl 3 rfl ?_
      refine j_zald hJ gx3 (kP_10 hc5) hF.1 hF.2.1 dX4_nextReached_107 (fun v6 ev6 gv6 => ?_)
      have hF := hF.2.2 v6 ev6 gv6
      refine j_if_eq hJ 142 (jz_ri gv6) dX4_nextReached_108 (by decide) (fun z7 => ?_) (fun z7 => ?_)
      · have hF := hF.1 z7
        exact j_sub hJ [0, 1, 2, 3] rfl (k_X4_nextReached_b142 hin  hJ hK0 ih x1 x2 x3 _ gx1 gx2 gx3 hF)
      · have hF := hF.2 z7
        refine j_aload_n hJ dX4_nextReached_111 rfl 0 rfl ?_
        obtain ⟨c8, ec8, hc8, hF⟩ := hF
        refine j_gq hJ kC_219 fC_7_1 rfl fl_X4_79 dX4_nextReached_112 ec8 ?_
        refine j_gr (e := (c8 + 9)) hJ (kP_0 hc8) fC_8_9 fl_X4_197 dX4_nextReached_115 rfl ?_
        refine j_iload_n hJ dX4_nextReached_118 rfl 3 rfl ?_
        refine j_lald hJ gx3 (kP_9 hc8) hF.1 hF.2.1 dX4_nextReached_119 (fun v9 ev9 gv9 => ?_)
        have hF := hF.2.2 v9 ev9 gv9
        refine j_ldc2 hJ (-1) om_307 (by decide) dX4_nextReached_120 ?_
        refine j_lcmp_eq hJ 142 gv9 lk_m1 dX4_nextReached_123 dX4_nextReached_124 (by decide) (fun z10 => ?_) (fun z10 => ?_)
        · have hF := hF.1 z10
          exact j_sub hJ [0, 1, 2, 3] rfl (k_X4_nextReached_b142 hin  hJ hK0 ih x1 x2 x3 _ gx1 gx2 gx3 hF)
        · have hF := hF.2 z10
          refine j_aload_n hJ dX4_nextReached_127 rfl 0 rfl ?_
          refine j_iload_n hJ dX4_nextReached_128 rfl 1 rfl ?_
          refine j_aload_n hJ dX4_nextReached_129 rfl 0 rfl ?_
          obtain ⟨c11, ec11, hc11, hF⟩ := hF
          refine j_gq hJ kC_219 fC_7_1 rfl fl_X4_79 dX4_nextReached_130 ec11 ?_
          refine j_gr (e := (c11 + 9)) hJ (kP_0 hc11) fC_8_9 fl_X4_197 dX4_nextReached_133 rfl ?_
          refine j_iload_n hJ dX4_nextReached_136 rfl 3 rfl ?_
          refine j_lald hJ gx3 (kP_9 hc11) hF.1 hF.2.1 dX4_nextReached_137 (fun v12 ev12 gv12 => ?_)
          have hF := hF.2.2 v12 ev12 gv12
          refine j_l2i hJ dX4_nextReached_138 ?_
          have g13 := hF.1; have hF := hF.2
          refine j_callVv hJ (c_X4_addReached (l := l) (D := D) (cy := cy) (ad := ad) hin) rfl om_308 ⟨rfl, rfl, Nat.le_of_ble_eq_true rfl, Nat.le_of_ble_eq_true rfl⟩ [.int (Ii x1), .int (Ii v12)] mv_X4_239 hd_X4_addReachedv kC_219 rfl rfl rfl (Nat.le_of_ble_eq_true rfl) dX4_nextReached_139 ⟨x1, v12, rfl, gx1, g13, hF⟩ (fun M15 qM15 => ?_)
          have hF := qM15
          exact j_sub hJ [0, 1, 2, 3] rfl (k_X4_nextReached_b142 hin  hJ hK0 ih x1 x2 x3 _ gx1 gx2 gx3 hF)
  intro x1 x2 x3 M gx1 gx2 gx3 hF
  obtain ⟨n, hF⟩ := hF
  exact H9 n x1 x2 x3 M gx1 gx2 gx3 hF
set_option maxHeartbeats 4000000 in
set_option maxRecDepth 100000 in
theorem k_X4_nextReached_b0 {l : Launch} {D : va_G} {cy : Nat → ClassId} {ad : Nat → Nat} {Q : Int → MM → Prop} {J : Nat → List (Nat × Value) → List Value → MM → Prop} (hin : jIn ad ksC.length)   (hJ : jOk l D vwCl (tyC cy) cy ad ftC ksC (XtC ad) Om RX4 cX4_nextReached 4 1 ({ frames := 1, cells := 0, slots := 0, locals := 22 } : Room) Q J)  : ∀ (x1 : Int) (M : MM), ri_ x1 → w_X4_nextReached_b0  Q  x1 M → J 0 [(0, .ref (ad 219)), (1, .int (Ii x1))] [] M := by
  have H9 : ∀ (n : Nat) (x1 : Int) (M : MM), ri_ x1 → jit (fun _ _ => False) (wb_X4_nextReached_b0  Q ) n x1 M → J 0 [(0, .ref (ad 219)), (1, .int (Ii x1))] [] M := by
    intro n
    induction n with
    | zero => intro x1 M gx1 hF; exact False.elim hF
    | succ n ih =>
    intro x1 M gx1 hF
    have hF : wb_X4_nextReached_b0  Q  (jit (fun _ _ => False) (wb_X4_nextReached_b0  Q ) n) x1 M := hF
    unfold wb_X4_nextReached_b0 at hF
    refine j_aload_n hJ dX4_nextReached_0 rfl 0 rfl ?_
    refine j_gr (e := 224) hJ kC_219 fC_7_9 fl_X4_33 dX4_nextReached_1 rfl ?_
    refine j_iload_n hJ dX4_nextReached_4 rfl 1 rfl ?_
    refine j_iald hJ gx1 kC_224 hF.1 hF.2.1 dX4_nextReached_5 (fun v1 ev1 gv1 => ?_)
    have hF := hF.2.2 v1 ev1 gv1
    refine j_aload_n hJ dX4_nextReached_6 rfl 0 rfl ?_
    refine j_gr (e := 225) hJ kC_219 fC_7_10 fl_X4_36 dX4_nextReached_7 rfl ?_
    refine j_iload_n hJ dX4_nextReached_10 rfl 1 rfl ?_
    refine j_iald hJ gx1 kC_225 hF.1 hF.2.1 dX4_nextReached_11 (fun v2 ev2 gv2 => ?_)
    have hF := hF.2.2 v2 ev2 gv2
    refine j_icmp_ne hJ 151 gv1 gv2 dX4_nextReached_12 (by decide) (fun z3 => ?_) (fun z3 => ?_)
    · have hF := hF.1 z3
      exact j_sub hJ [0, 1] rfl (k_X4_nextReached_b151 hin  hJ  x1 _ gx1 hF)
    · have hF := hF.2 z3
      refine j_aload_n hJ dX4_nextReached_15 rfl 0 rfl ?_
      refine j_gr (e := 223) hJ kC_219 fC_7_8 fl_X4_30 dX4_nextReached_16 rfl ?_
      refine j_iload_n hJ dX4_nextReached_19 rfl 1 rfl ?_
      refine j_iald hJ gx1 kC_223 hF.1 hF.2.1 dX4_nextReached_20 (fun v4 ev4 gv4 => ?_)
      have hF := hF.2.2 v4 ev4 gv4
      refine j_aload_n hJ dX4_nextReached_21 rfl 0 rfl ?_
      refine j_gr (e := 225) hJ kC_219 fC_7_10 fl_X4_36 dX4_nextReached_22 rfl ?_
      refine j_iload_n hJ dX4_nextReached_25 rfl 1 rfl ?_
      refine j_iald hJ gx1 kC_225 hF.1 hF.2.1 dX4_nextReached_26 (fun v5 ev5 gv5 => ?_)
      have hF := hF.2.2 v5 ev5 gv5
      refine j_icmp_ge hJ 151 gv4 gv5 dX4_nextReached_27 (by decide) (fun z6 => ?_) (fun z6 => ?_)
      · have hF := hF.1 z6
        exact j_sub hJ [0, 1] rfl (k_X4_nextReached_b151 hin  hJ  x1 _ gx1 hF)
      · have hF := hF.2 z6
        refine j_aload_n hJ dX4_nextReached_30 rfl 0 rfl ?_
        refine j_gr (e := 223) hJ kC_219 fC_7_8 fl_X4_30 dX4_nextReached_31 rfl ?_
        refine j_iload_n hJ dX4_nextReached_34 rfl 1 rfl ?_
        refine j_iald hJ gx1 kC_223 hF.1 hF.2.1 dX4_nextReached_35 (fun v7 ev7 gv7 => ?_)
        have hF := hF.2.2 v7 ev7 gv7
        refine j_aload_n hJ dX4_nextReached_36 rfl 0 rfl ?_
        obtain ⟨c8, ec8, hc8, hF⟩ := hF
        refine j_gq hJ kC_219 fC_7_1 rfl fl_X4_79 dX4_nextReached_37 ec8 ?_
        refine j_gi hJ (kP_0 hc8) fC_8_0 rfl fl_X4_142 dX4_nextReached_40 (fun v9 ev9 gv9 => ?_)
        have hF := hF v9 ev9 gv9
        refine j_icmp_ge hJ 151 gv7 gv9 dX4_nextReached_43 (by decide) (fun z10 => ?_) (fun z10 => ?_)
        · have hF := hF.1 z10
          exact j_sub hJ [0, 1] rfl (k_X4_nextReached_b151 hin  hJ  x1 _ gx1 hF)
        · have hF := hF.2 z10
          refine j_aload_n hJ dX4_nextReached_46 rfl 0 rfl ?_
          refine j_gr (e := 229) hJ kC_219 fC_7_14 fl_X4_49 dX4_nextReached_47 rfl ?_
          refine j_iload_n hJ dX4_nextReached_50 rfl 1 rfl ?_
          refine j_sipush hJ dX4_nextReached_51 (by decide) ?_
          refine j_imul hJ dX4_nextReached_54 ?_
          have g11 := hF.1; have hF := hF.2
          refine j_aload_n hJ dX4_nextReached_55 rfl 0 rfl ?_
          refine j_gr (e := 223) hJ kC_219 fC_7_8 fl_X4_30 dX4_nextReached_56 rfl ?_
          refine j_iload_n hJ dX4_nextReached_59 rfl 1 rfl ?_
          refine j_iald hJ gx1 kC_223 hF.1 hF.2.1 dX4_nextReached_60 (fun v12 ev12 gv12 => ?_)
          have hF := hF.2.2 v12 ev12 gv12
          refine j_iadd hJ dX4_nextReached_61 ?_
          have g13 := hF.1; have hF := hF.2
          refine j_iald hJ g13 kC_229 hF.1 hF.2.1 dX4_nextReached_62 (fun v14 ev14 gv14 => ?_)
          have hF := hF.2.2 v14 ev14 gv14
          refine j_istore_n (lv' := [(2, .int (Ii v14)), (0, .ref (ad 219)), (1, .int (Ii x1))]) hJ dX4_nextReached_63 rfl (by decide) rfl ?_
          refine j_aload_n hJ dX4_nextReached_64 rfl 1 rfl ?_
          refine j_gr (e := 223) hJ kC_219 fC_7_8 fl_X4_30 dX4_nextReached_65 rfl ?_
          refine j_iload_n hJ dX4_nextReached_68 rfl 2 rfl ?_
          refine j_dup2_11 hJ dX4_nextReached_69 rfl rfl ?_
          refine j_iald hJ gx1 kC_223 hF.1 hF.2.1 dX4_nextReached_70 (fun v15 ev15 gv15 => ?_)
          have hF := hF.2.2 v15 ev15 gv15
          refine j_iconst hJ dX4_nextReached_71 ?_
          refine j_iadd hJ dX4_nextReached_72 ?_
          have g16 := hF.1; have hF := hF.2
          refine j_iast hJ gx1 g16 kC_223 hF.1 hF.2.1 dX4_nextReached_73 (fun M17 eM17 => ?_)
          have hF := hF.2.2 M17 eM17
          refine j_aload_n hJ dX4_nextReached_74 rfl 1 rfl ?_
          obtain ⟨c18, ec18, hc18, hF⟩ := hF
          refine j_gq hJ kC_219 fC_7_1 rfl fl_X4_79 dX4_nextReached_75 ec18 ?_
          refine j_gr (e := (c18 + 4)) hJ (kP_0 hc18) fC_8_4 fl_X4_191 dX4_nextReached_78 rfl ?_
          refine j_iload_n hJ dX4_nextReached_81 rfl 0 rfl ?_
          refine j_iald hJ gv14 (kP_4 hc18) hF.1 hF.2.1 dX4_nextReached_82 (fun v19 ev19 gv19 => ?_)
          have hF := hF.2.2 v19 ev19 gv19
          refine j_istore_n (lv' := [(3, .int (Ii v19)), (2, .int (Ii v14)), (0, .ref (ad 219)), (1, .int (Ii x1))]) hJ dX4_nextReached_83 rfl (by decide) rfl ?_
          exact j_sub hJ [2, 3, 1, 0] rfl (k_X4_nextReached_b84 hin  hJ ih x1 v14 v19 _ gx1 gv14 gv19 hF)
  intro x1 M gx1 hF
  obtain ⟨n, hF⟩ := hF
  exact H9 n x1 M gx1 hF
set_option maxHeartbeats 4000000 in
set_option maxRecDepth 100000 in
theorem c_X4_nextReached {l : Launch} {D : va_G} {cy : Nat → ClassId} {ad : Nat → Nat} (hin : jIn ad ksC.length) : jCN l D vwCl (tyC cy) cy ad ftC ksC (XtC ad) yX4_nextReached (.code yX4_nextReached cX4_nextReached 4 (some .int) :: Om) ({ frames := 1, cells := 0, slots := 0, locals := 22 } : Room) 1 (W_X4_nextReached ad) := by
  refine jCN_of (y := yX4_nextReached) (cc := cX4_nextReached) (nL := 4) (rk := 1) (rm := ({ frames := 1, cells := 0, slots := 0, locals := 22 } : Room)) (own := RX4) (tyC_ok cy) hin (XtC_ok ad) Om_good (by decide) rfl ?_
  intro Q av M hF
  obtain ⟨p1, rfl, gp1, hF⟩ := hF
  refine ⟨Nat.le_of_ble_eq_true rfl, fun J hJ => ?_⟩
  show J 0 [(0, .ref (ad 219)), (1, .int (Ii p1))] [] M
  unfold w_X4_nextReached at hF
  exact j_sub hJ [0, 1] rfl (k_X4_nextReached_b0 hin  hJ  p1 _ gp1 hF)
def W_X4_giveNext (ad : Nat → Nat) (Q : Int → MM → Prop) (av : List Value) (M : MM) : Prop := ∃ (p1 : Int), av = [.ref (ad 219), .int (Ii p1)] ∧ ri_ p1 ∧ w_X4_giveNext  Q p1 M
set_option maxHeartbeats 4000000 in
set_option maxRecDepth 100000 in
theorem k_X4_giveNext_b34 {l : Launch} {D : va_G} {cy : Nat → ClassId} {ad : Nat → Nat} {Q : Int → MM → Prop} {J : Nat → List (Nat × Value) → List Value → MM → Prop} (hin : jIn ad ksC.length)   (hJ : jOk l D vwCl (tyC cy) cy ad ftC ksC (XtC ad) Om RX4 cX4_giveNext 4 1 ({ frames := 2, cells := 0, slots := 0, locals := 46 } : Room) Q J)  : ∀ (x1 x2 s0 : Int) (M : MM), ri_ x1 → ri_ x2 → ri_ s0 → w_X4_giveNext_b34  Q  x1 x2 s0 M → J 34 [(0, .ref (ad 219)), (1, .int (Ii x1)), (2, .int (Ii x2))] [.int (Ii s0)] M := by
  intro x1 x2 s0 M gx1 gx2 gs0 hF
  unfold w_X4_giveNext_b34 at hF
  refine j_istore_n (lv' := [(3, .int (Ii s0)), (0, .ref (ad 219)), (1, .int (Ii x1)), (2, .int (Ii x2))]) hJ dX4_giveNext_34 rfl (by decide) rfl ?_
  refine j_iload_n hJ dX4_giveNext_35 rfl 0 rfl ?_
  refine j_iconst hJ dX4_giveNext_36 ?_
  refine j_icmp_ne hJ 50 gs0 rk_m1 dX4_giveNext_37 (by decide) (fun z1 => ?_) (fun z1 => ?_)
  · have hF := hF.1 z1
    refine j_aload_n hJ dX4_giveNext_50 rfl 1 rfl ?_
    refine j_dup hJ dX4_giveNext_51 rfl ?_
    refine j_gi hJ kC_219 fC_7_3 rfl fl_X4_83 dX4_giveNext_52 (fun v2 ev2 gv2 => ?_)
    have hF := hF v2 ev2 gv2
    refine j_iconst hJ dX4_giveNext_55 ?_
    refine j_iadd hJ dX4_giveNext_56 ?_
    have g3 := hF.1; have hF := hF.2
    refine j_pi hJ g3 kC_219 fC_7_3 rfl fp_X4_83 dX4_giveNext_57 (fun M4 eM4 => ?_)
    have hF := hF M4 eM4
    refine j_aload_n hJ dX4_giveNext_60 rfl 1 rfl ?_
    refine j_gr (e := 226) hJ kC_219 fC_7_11 fl_X4_39 dX4_giveNext_61 rfl ?_
    refine j_iload_n hJ dX4_giveNext_64 rfl 3 rfl ?_
    refine j_iload_n hJ dX4_giveNext_65 rfl 0 rfl ?_
    refine j_iast hJ gx2 gs0 kC_226 hF.1 hF.2.1 dX4_giveNext_66 (fun M5 eM5 => ?_)
    have hF := hF.2.2 M5 eM5
    refine j_iload_n hJ dX4_giveNext_67 rfl 2 rfl ?_
    refine j_iconst hJ dX4_giveNext_68 ?_
    refine j_iadd hJ dX4_giveNext_69 ?_
    have g6 := hF.1; have hF := hF.2
    exact j_iret hJ rfl g6 dX4_giveNext_70 hF
  · have hF := hF.2 z1
    refine j_aload_n hJ dX4_giveNext_40 rfl 1 rfl ?_
    obtain ⟨c7, ec7, hc7, hF⟩ := hF
    refine j_gq hJ kC_219 fC_7_2 rfl fl_X4_75 dX4_giveNext_41 ec7 ?_
    refine j_gr (e := (c7 + 3)) hJ (kG_0 hc7) fC_9_3 fl_X4_260 dX4_giveNext_44 rfl ?_
    refine j_iload_n hJ dX4_giveNext_47 rfl 2 rfl ?_
    refine j_iald hJ gx1 (kG_3 hc7) hF.1 hF.2.1 dX4_giveNext_48 (fun v8 ev8 gv8 => ?_)
    have hF := hF.2.2 v8 ev8 gv8
    exact j_iret hJ rfl gv8 dX4_giveNext_49 hF
set_option maxHeartbeats 4000000 in
set_option maxRecDepth 100000 in
theorem c_X4_giveNext {l : Launch} {D : va_G} {cy : Nat → ClassId} {ad : Nat → Nat} (hin : jIn ad ksC.length) : jCN l D vwCl (tyC cy) cy ad ftC ksC (XtC ad) yX4_giveNext (.code yX4_giveNext cX4_giveNext 4 (some .int) :: Om) ({ frames := 2, cells := 0, slots := 0, locals := 46 } : Room) 1 (W_X4_giveNext ad) := by
  refine jCN_of (y := yX4_giveNext) (cc := cX4_giveNext) (nL := 4) (rk := 1) (rm := ({ frames := 2, cells := 0, slots := 0, locals := 46 } : Room)) (own := RX4) (tyC_ok cy) hin (XtC_ok ad) Om_good (by decide) rfl ?_
  intro Q av M hF
  obtain ⟨p1, rfl, gp1, hF⟩ := hF
  refine ⟨Nat.le_of_ble_eq_true rfl, fun J hJ => ?_⟩
  show J 0 [(0, .ref (ad 219)), (1, .int (Ii p1))] [] M
  unfold w_X4_giveNext at hF
  refine j_aload_n hJ dX4_giveNext_0 rfl 0 rfl ?_
  obtain ⟨c1, ec1, hc1, hF⟩ := hF
  refine j_gq hJ kC_219 fC_7_2 rfl fl_X4_75 dX4_giveNext_1 ec1 ?_
  refine j_gr (e := (c1 + 2)) hJ (kG_0 hc1) fC_9_2 fl_X4_145 dX4_giveNext_4 rfl ?_
  refine j_iload_n hJ dX4_giveNext_7 rfl 1 rfl ?_
  refine j_iald hJ gp1 (kG_2 hc1) hF.1 hF.2.1 dX4_giveNext_8 (fun v2 ev2 gv2 => ?_)
  have hF := hF.2.2 v2 ev2 gv2
  refine j_istore_n (lv' := [(2, .int (Ii v2)), (0, .ref (ad 219)), (1, .int (Ii p1))]) hJ dX4_giveNext_9 rfl (by decide) rfl ?_
  refine j_aload_n hJ dX4_giveNext_10 rfl 1 rfl ?_
  refine j_gr (e := 222) hJ kC_219 fC_7_7 fl_X4_27 dX4_giveNext_11 rfl ?_
  refine j_iload_n hJ dX4_giveNext_14 rfl 0 rfl ?_
  refine j_iald hJ gv2 kC_222 hF.1 hF.2.1 dX4_giveNext_15 (fun v3 ev3 gv3 => ?_)
  have hF := hF.2.2 v3 ev3 gv3
  refine j_bipush hJ dX4_giveNext_16 (by decide) ?_
  refine j_icmp_ne hJ 29 gv3 rk_32 dX4_giveNext_18 (by decide) (fun z4 => ?_) (fun z4 => ?_)
  · have hF := hF.1 z4
    refine j_aload_n hJ dX4_giveNext_29 rfl 1 rfl ?_
    refine j_iload_n hJ dX4_giveNext_30 rfl 0 rfl ?_
    refine j_callVi hJ (c_X4_nextThing (l := l) (D := D) (cy := cy) (ad := ad) hin) rfl om_303 ⟨rfl, rfl, Nat.le_of_ble_eq_true rfl, Nat.le_of_ble_eq_true rfl⟩ [.int (Ii v2)] mv_X4_269 hd_X4_nextThingv kC_219 rfl rfl rfl (Nat.le_of_ble_eq_true rfl) dX4_giveNext_31 ⟨v2, rfl, gv2, hF⟩ (fun r5 M6 gr5 qM6 => ?_)
    have hF := qM6 gr5
    exact j_sub hJ [1, 2, 0] rfl (k_X4_giveNext_b34 hin  hJ  p1 v2 r5 _ gp1 gv2 gr5 hF)
  · have hF := hF.2 z4
    refine j_aload_n hJ dX4_giveNext_21 rfl 1 rfl ?_
    refine j_iload_n hJ dX4_giveNext_22 rfl 0 rfl ?_
    refine j_callVi hJ (c_X4_nextReached (l := l) (D := D) (cy := cy) (ad := ad) hin) rfl om_312 ⟨rfl, rfl, Nat.le_of_ble_eq_true rfl, Nat.le_of_ble_eq_true rfl⟩ [.int (Ii v2)] mv_X4_266 hd_X4_nextReachedv kC_219 rfl rfl rfl (Nat.le_of_ble_eq_true rfl) dX4_giveNext_23 ⟨v2, rfl, gv2, hF⟩ (fun r7 M8 gr7 qM8 => ?_)
    have hF := qM8 gr7
    refine j_goto hJ 34 dX4_giveNext_26 (by decide) ?_
    exact j_sub hJ [1, 2, 0] rfl (k_X4_giveNext_b34 hin  hJ  p1 v2 r7 _ gp1 gv2 gr7 hF)
def W_X4_addNumber (ad : Nat → Nat) (Q : Int → MM → Prop) (av : List Value) (M : MM) : Prop := ∃ (p1 : Int) (p2 : Int) (p3 : Int), av = [.ref (ad 219), .int (Ii p1), .int (Ii p2), .long (Ll p3)] ∧ ri_ p1 ∧ ri_ p2 ∧ rl_ p3 ∧ w_X4_addNumber  Q p1 p2 p3 M
set_option maxHeartbeats 4000000 in
set_option maxRecDepth 100000 in
theorem k_X4_addNumber_b66 {l : Launch} {D : va_G} {cy : Nat → ClassId} {ad : Nat → Nat} {Q : Int → MM → Prop} {J : Nat → List (Nat × Value) → List Value → MM → Prop} (hin : jIn ad ksC.length)   (hJ : jOk l D vwCl (tyC cy) cy ad ftC ksC (XtC ad) Om RX4 cX4_addNumber 5 0 ({ frames := 0, cells := 0, slots := 0, locals := 0 } : Room) Q J)  : ∀ (x1 : Int) (M : MM), ri_ x1 → w_X4_addNumber_b66  Q  x1 M → J 66 [(0, .ref (ad 219)), (1, .int (Ii x1))] [] M := by
  intro x1 M gx1 hF
  unfold w_X4_addNumber_b66 at hF
  refine j_aload_n hJ dX4_addNumber_66 rfl 0 rfl ?_
  refine j_gr (e := 228) hJ kC_219 fC_7_13 fl_X4_45 dX4_addNumber_67 rfl ?_
  refine j_iload_n hJ dX4_addNumber_70 rfl 1 rfl ?_
  refine j_iconst hJ dX4_addNumber_71 ?_
  refine j_zast hJ gx1 (by decide) kC_228 hF.1 hF.2.1 dX4_addNumber_72 (fun M1 eM1 => ?_)
  have hF := hF.2.2 M1 eM1
  exact j_vret hJ rfl dX4_addNumber_73 hF
set_option maxHeartbeats 4000000 in
set_option maxRecDepth 100000 in
theorem k_X4_addNumber_b59 {l : Launch} {D : va_G} {cy : Nat → ClassId} {ad : Nat → Nat} {Q : Int → MM → Prop} {J : Nat → List (Nat × Value) → List Value → MM → Prop} (hin : jIn ad ksC.length)   (hJ : jOk l D vwCl (tyC cy) cy ad ftC ksC (XtC ad) Om RX4 cX4_addNumber 5 0 ({ frames := 0, cells := 0, slots := 0, locals := 0 } : Room) Q J)  : ∀ (x1 x3 : Int) (M : MM), ri_ x1 → rl_ x3 → w_X4_addNumber_b59  Q  x1 x3 M → J 59 [(0, .ref (ad 219)), (1, .int (Ii x1)), (3, .long (Ll x3))] [] M := by
  intro x1 x3 M gx1 gx3 hF
  unfold w_X4_addNumber_b59 at hF
  refine j_aload_n hJ dX4_addNumber_59 rfl 0 rfl ?_
  refine j_gr (e := 227) hJ kC_219 fC_7_12 fl_X4_42 dX4_addNumber_60 rfl ?_
  refine j_iload_n hJ dX4_addNumber_63 rfl 1 rfl ?_
  refine j_lload_n hJ dX4_addNumber_64 rfl 2 rfl ?_
  refine j_last hJ gx1 gx3 kC_227 hF.1 hF.2.1 dX4_addNumber_65 (fun M1 eM1 => ?_)
  have hF := hF.2.2 M1 eM1
  exact j_sub hJ [0, 1] rfl (k_X4_addNumber_b66 hin  hJ  x1 _ gx1 hF)
set_option maxHeartbeats 4000000 in
set_option maxRecDepth 100000 in
theorem c_X4_addNumber {l : Launch} {D : va_G} {cy : Nat → ClassId} {ad : Nat → Nat} (hin : jIn ad ksC.length) : jCN l D vwCl (tyC cy) cy ad ftC ksC (XtC ad) yX4_addNumber (.code yX4_addNumber cX4_addNumber 5 none :: Om) ({ frames := 0, cells := 0, slots := 0, locals := 0 } : Room) 0 (W_X4_addNumber ad) := by
  refine jCN_of (y := yX4_addNumber) (cc := cX4_addNumber) (nL := 5) (rk := 0) (rm := ({ frames := 0, cells := 0, slots := 0, locals := 0 } : Room)) (own := RX4) (tyC_ok cy) hin (XtC_ok ad) Om_good (by decide) rfl ?_
  intro Q av M hF
  obtain ⟨p1, p2, p3, rfl, gp1, gp2, gp3, hF⟩ := hF
  refine ⟨Nat.le_of_ble_eq_true rfl, fun J hJ => ?_⟩
  show J 0 [(0, .ref (ad 219)), (1, .int (Ii p1)), (2, .int (Ii p2)), (3, .long (Ll p3))] [] M
  unfold w_X4_addNumber at hF
  refine j_iload_n hJ dX4_addNumber_0 rfl 2 rfl ?_
  refine j_bipush hJ dX4_addNumber_1 (by decide) ?_
  refine j_icmp_ne hJ 19 gp2 rk_45 dX4_addNumber_3 (by decide) (fun z1 => ?_) (fun z1 => ?_)
  · have hF := hF.1 z1
    refine j_aload_n hJ dX4_addNumber_19 rfl 0 rfl ?_
    refine j_gr (e := 228) hJ kC_219 fC_7_13 fl_X4_45 dX4_addNumber_20 rfl ?_
    refine j_iload_n hJ dX4_addNumber_23 rfl 1 rfl ?_
    refine j_zald hJ gp1 kC_228 hF.1 hF.2.1 dX4_addNumber_24 (fun v2 ev2 gv2 => ?_)
    have hF := hF.2.2 v2 ev2 gv2
    refine j_if_eq hJ 59 (jz_ri gv2) dX4_addNumber_25 (by decide) (fun z3 => ?_) (fun z3 => ?_)
    · have hF := hF.1 z3
      exact j_sub hJ [0, 1, 3] rfl (k_X4_addNumber_b59 hin  hJ  p1 p3 _ gp1 gp3 hF)
    · have hF := hF.2 z3
      refine j_iload_n hJ dX4_addNumber_28 rfl 2 rfl ?_
      refine j_bipush hJ dX4_addNumber_29 (by decide) ?_
      refine j_icmp_ne hJ 48 gp2 rk_46 dX4_addNumber_31 (by decide) (fun z4 => ?_) (fun z4 => ?_)
      · have hF := hF.1 z4
        refine j_lload_n hJ dX4_addNumber_48 rfl 3 rfl ?_
        refine j_aload_n hJ dX4_addNumber_49 rfl 0 rfl ?_
        refine j_gr (e := 227) hJ kC_219 fC_7_12 fl_X4_42 dX4_addNumber_50 rfl ?_
        refine j_iload_n hJ dX4_addNumber_53 rfl 1 rfl ?_
        refine j_lald hJ gp1 kC_227 hF.1 hF.2.1 dX4_addNumber_54 (fun v5 ev5 gv5 => ?_)
        have hF := hF.2.2 v5 ev5 gv5
        refine j_lcmp_ge hJ 66 gp3 gv5 dX4_addNumber_55 dX4_addNumber_56 (by decide) (fun z6 => ?_) (fun z6 => ?_)
        · have hF := hF.1 z6
          exact j_sub hJ [0, 1] rfl (k_X4_addNumber_b66 hin  hJ  p1 _ gp1 hF)
        · have hF := hF.2 z6
          exact j_sub hJ [0, 1, 3] rfl (k_X4_addNumber_b59 hin  hJ  p1 p3 _ gp1 gp3 hF)
      · have hF := hF.2 z4
        refine j_lload_n hJ dX4_addNumber_34 rfl 3 rfl ?_
        refine j_aload_n hJ dX4_addNumber_35 rfl 0 rfl ?_
        refine j_gr (e := 227) hJ kC_219 fC_7_12 fl_X4_42 dX4_addNumber_36 rfl ?_
        refine j_iload_n hJ dX4_addNumber_39 rfl 1 rfl ?_
        refine j_lald hJ gp1 kC_227 hF.1 hF.2.1 dX4_addNumber_40 (fun v7 ev7 gv7 => ?_)
        have hF := hF.2.2 v7 ev7 gv7
        refine j_lcmp_le hJ 66 gp3 gv7 dX4_addNumber_41 dX4_addNumber_42 (by decide) (fun z8 => ?_) (fun z8 => ?_)
        · have hF := hF.1 z8
          exact j_sub hJ [0, 1] rfl (k_X4_addNumber_b66 hin  hJ  p1 _ gp1 hF)
        · have hF := hF.2 z8
          refine j_goto hJ 59 dX4_addNumber_45 (by decide) ?_
          exact j_sub hJ [0, 1, 3] rfl (k_X4_addNumber_b59 hin  hJ  p1 p3 _ gp1 gp3 hF)
  · have hF := hF.2 z1
    refine j_aload_n hJ dX4_addNumber_6 rfl 0 rfl ?_
    refine j_gr (e := 227) hJ kC_219 fC_7_12 fl_X4_42 dX4_addNumber_7 rfl ?_
    refine j_iload_n hJ dX4_addNumber_10 rfl 1 rfl ?_
    refine j_dup2_11 hJ dX4_addNumber_11 rfl rfl ?_
    refine j_lald hJ gp1 kC_227 hF.1 hF.2.1 dX4_addNumber_12 (fun v9 ev9 gv9 => ?_)
    have hF := hF.2.2 v9 ev9 gv9
    refine j_lload_n hJ dX4_addNumber_13 rfl 3 rfl ?_
    refine j_laddw hJ dX4_addNumber_14 ?_
    refine j_last hJ gp1 (rl_w _) kC_227 hF.1 hF.2.1 dX4_addNumber_15 (fun M10 eM10 => ?_)
    have hF := hF.2.2 M10 eM10
    refine j_goto hJ 66 dX4_addNumber_16 (by decide) ?_
    exact j_sub hJ [0, 1] rfl (k_X4_addNumber_b66 hin  hJ  p1 _ gp1 hF)
def W_X4_addUp (ad : Nat → Nat) (Q : Int → MM → Prop) (av : List Value) (M : MM) : Prop := ∃ (p1 : Int), av = [.ref (ad 219), .int (Ii p1)] ∧ ri_ p1 ∧ w_X4_addUp  Q p1 M
set_option maxHeartbeats 4000000 in
set_option maxRecDepth 100000 in
theorem k_X4_addUp_b105 {l : Launch} {D : va_G} {cy : Nat → ClassId} {ad : Nat → Nat} {Q : Int → MM → Prop} {J : Nat → List (Nat × Value) → List Value → MM → Prop} (hin : jIn ad ksC.length)   (hJ : jOk l D vwCl (tyC cy) cy ad ftC ksC (XtC ad) Om RX4 cX4_addUp 4 1 ({ frames := 1, cells := 0, slots := 0, locals := 40 } : Room) Q J)  : ∀ (x1 x2 s0 s1 : Int) (M : MM), ri_ x1 → ri_ x2 → ri_ s0 → ri_ s1 → w_X4_addUp_b105  Q  x1 x2 s0 s1 M → J 105 [(0, .ref (ad 219)), (1, .int (Ii x1)), (2, .int (Ii x2))] [.int (Ii s0), .int (Ii s1), .ref (ad 228)] M := by
  intro x1 x2 s0 s1 M gx1 gx2 gs0 gs1 hF
  unfold w_X4_addUp_b105 at hF
  refine j_zast hJ gs1 hF.2.2.1 kC_228 hF.1 hF.2.1 dX4_addUp_105 (fun M1 eM1 => ?_)
  have hF := hF.2.2.2 M1 eM1
  refine j_aload_n hJ dX4_addUp_106 rfl 0 rfl ?_
  refine j_gr (e := 228) hJ kC_219 fC_7_13 fl_X4_45 dX4_addUp_107 rfl ?_
  refine j_iload_n hJ dX4_addUp_110 rfl 2 rfl ?_
  refine j_zald hJ gx2 kC_228 hF.1 hF.2.1 dX4_addUp_111 (fun v2 ev2 gv2 => ?_)
  have hF := hF.2.2 v2 ev2 gv2
  refine j_if_eq hJ 121 (jz_ri gv2) dX4_addUp_112 (by decide) (fun z3 => ?_) (fun z3 => ?_)
  · have hF := hF.1 z3
    refine j_aload_n hJ dX4_addUp_121 rfl 0 rfl ?_
    obtain ⟨c4, ec4, hc4, hF⟩ := hF
    refine j_gq hJ kC_219 fC_7_2 rfl fl_X4_75 dX4_addUp_122 ec4 ?_
    refine j_gr (e := (c4 + 3)) hJ (kG_0 hc4) fC_9_3 fl_X4_260 dX4_addUp_125 rfl ?_
    refine j_iload_n hJ dX4_addUp_128 rfl 1 rfl ?_
    refine j_iald hJ gx1 (kG_3 hc4) hF.1 hF.2.1 dX4_addUp_129 (fun v5 ev5 gv5 => ?_)
    have hF := hF.2.2 v5 ev5 gv5
    exact j_iret hJ rfl gv5 dX4_addUp_130 hF
  · have hF := hF.2 z3
    refine j_iload_n hJ dX4_addUp_115 rfl 1 rfl ?_
    refine j_iconst hJ dX4_addUp_116 ?_
    refine j_iadd hJ dX4_addUp_117 ?_
    have g6 := hF.1; have hF := hF.2
    refine j_goto hJ 130 dX4_addUp_118 (by decide) ?_
    exact j_iret hJ rfl g6 dX4_addUp_130 hF
set_option maxHeartbeats 4000000 in
set_option maxRecDepth 100000 in
theorem k_X4_addUp_b97 {l : Launch} {D : va_G} {cy : Nat → ClassId} {ad : Nat → Nat} {Q : Int → MM → Prop} {J : Nat → List (Nat × Value) → List Value → MM → Prop} (hin : jIn ad ksC.length)   (hJ : jOk l D vwCl (tyC cy) cy ad ftC ksC (XtC ad) Om RX4 cX4_addUp 4 1 ({ frames := 1, cells := 0, slots := 0, locals := 40 } : Room) Q J)  : ∀ (x1 x2 s0 s1 s2 : Int) (M : MM), ri_ x1 → ri_ x2 → ri_ s0 → ri_ s1 → ri_ s2 → w_X4_addUp_b97  Q  x1 x2 s0 s1 s2 M → J 97 [(0, .ref (ad 219)), (1, .int (Ii x1)), (2, .int (Ii x2))] [.int (Ii s0), .int (Ii s1), .int (Ii s2), .ref (ad 228)] M := by
  intro x1 x2 s0 s1 s2 M gx1 gx2 gs0 gs1 gs2 hF
  unfold w_X4_addUp_b97 at hF
  refine j_icmp_ne hJ 104 gs1 gs0 dX4_addUp_97 (by decide) (fun z1 => ?_) (fun z1 => ?_)
  · have hF := hF.1 z1
    refine j_iconst hJ dX4_addUp_104 ?_
    exact j_sub hJ [0, 1, 2] rfl (k_X4_addUp_b105 hin  hJ  x1 x2 0 s2 _ gx1 gx2 rk_0 gs2 hF)
  · have hF := hF.2 z1
    refine j_iconst hJ dX4_addUp_100 ?_
    refine j_goto hJ 105 dX4_addUp_101 (by decide) ?_
    exact j_sub hJ [0, 1, 2] rfl (k_X4_addUp_b105 hin  hJ  x1 x2 1 s2 _ gx1 gx2 rk_1 gs2 hF)
set_option maxHeartbeats 4000000 in
set_option maxRecDepth 100000 in
theorem k_X4_addUp_b73 {l : Launch} {D : va_G} {cy : Nat → ClassId} {ad : Nat → Nat} {Q : Int → MM → Prop} {J : Nat → List (Nat × Value) → List Value → MM → Prop} (hin : jIn ad ksC.length)   (hJ : jOk l D vwCl (tyC cy) cy ad ftC ksC (XtC ad) Om RX4 cX4_addUp 4 1 ({ frames := 1, cells := 0, slots := 0, locals := 40 } : Room) Q J)  : ∀ (x1 x2 x3 : Int) (M : MM), ri_ x1 → ri_ x2 → ri_ x3 → w_X4_addUp_b73  Q  x1 x2 x3 M → J 73 [(0, .ref (ad 219)), (1, .int (Ii x1)), (2, .int (Ii x2)), (3, .int (Ii x3))] [] M := by
  intro x1 x2 x3 M gx1 gx2 gx3 hF
  unfold w_X4_addUp_b73 at hF
  refine j_aload_n hJ dX4_addUp_73 rfl 0 rfl ?_
  refine j_gr (e := 228) hJ kC_219 fC_7_13 fl_X4_45 dX4_addUp_74 rfl ?_
  refine j_iload_n hJ dX4_addUp_77 rfl 2 rfl ?_
  refine j_aload_n hJ dX4_addUp_78 rfl 0 rfl ?_
  refine j_aload_n hJ dX4_addUp_79 rfl 0 rfl ?_
  refine j_gi hJ kC_219 fC_7_6 rfl fl_X4_67 dX4_addUp_80 (fun v1 ev1 gv1 => ?_)
  have hF := hF v1 ev1 gv1
  refine j_callVz hJ (c_X4_isTrue (l := l) (D := D) (cy := cy) (ad := ad) hin) rfl om_285 ⟨rfl, rfl, Nat.le_of_ble_eq_true rfl, Nat.le_of_ble_eq_true rfl⟩ [.int (Ii v1)] mv_X4_71 hd_X4_isTruev kC_219 rfl rfl rfl (Nat.le_of_ble_eq_true rfl) dX4_addUp_83 ⟨v1, rfl, gv1, hF⟩ (fun r2 M3 gr2 qM3 => ?_)
  have hF := qM3 gr2
  refine j_iload_n hJ dX4_addUp_86 rfl 3 rfl ?_
  refine j_bipush hJ dX4_addUp_87 (by decide) ?_
  refine j_icmp_ne hJ 96 gx3 rk_48 dX4_addUp_89 (by decide) (fun z4 => ?_) (fun z4 => ?_)
  · have hF := hF.1 z4
    refine j_iconst hJ dX4_addUp_96 ?_
    exact j_sub hJ [0, 1, 2] rfl (k_X4_addUp_b97 hin  hJ  x1 x2 0 r2 x2 _ gx1 gx2 rk_0 (jz_ri gr2) gx2 hF)
  · have hF := hF.2 z4
    refine j_iconst hJ dX4_addUp_92 ?_
    refine j_goto hJ 97 dX4_addUp_93 (by decide) ?_
    exact j_sub hJ [0, 1, 2] rfl (k_X4_addUp_b97 hin  hJ  x1 x2 1 r2 x2 _ gx1 gx2 rk_1 (jz_ri gr2) gx2 hF)
set_option maxHeartbeats 4000000 in
set_option maxRecDepth 100000 in
theorem k_X4_addUp_b158 {l : Launch} {D : va_G} {cy : Nat → ClassId} {ad : Nat → Nat} {Q : Int → MM → Prop} {J : Nat → List (Nat × Value) → List Value → MM → Prop} (hin : jIn ad ksC.length)   (hJ : jOk l D vwCl (tyC cy) cy ad ftC ksC (XtC ad) Om RX4 cX4_addUp 4 1 ({ frames := 1, cells := 0, slots := 0, locals := 40 } : Room) Q J)  : ∀ (x1 : Int) (M : MM), ri_ x1 → w_X4_addUp_b158  Q  x1 M → J 158 [(0, .ref (ad 219)), (1, .int (Ii x1))] [] M := by
  intro x1 M gx1 hF
  unfold w_X4_addUp_b158 at hF
  refine j_aload_n hJ dX4_addUp_158 rfl 0 rfl ?_
  obtain ⟨c1, ec1, hc1, hF⟩ := hF
  refine j_gq hJ kC_219 fC_7_2 rfl fl_X4_75 dX4_addUp_159 ec1 ?_
  refine j_gr (e := (c1 + 3)) hJ (kG_0 hc1) fC_9_3 fl_X4_260 dX4_addUp_162 rfl ?_
  refine j_iload_n hJ dX4_addUp_165 rfl 1 rfl ?_
  refine j_iald hJ gx1 (kG_3 hc1) hF.1 hF.2.1 dX4_addUp_166 (fun v2 ev2 gv2 => ?_)
  have hF := hF.2.2 v2 ev2 gv2
  exact j_iret hJ rfl gv2 dX4_addUp_167 hF
set_option maxHeartbeats 4000000 in
set_option maxRecDepth 100000 in
theorem c_X4_addUp {l : Launch} {D : va_G} {cy : Nat → ClassId} {ad : Nat → Nat} (hin : jIn ad ksC.length) : jCN l D vwCl (tyC cy) cy ad ftC ksC (XtC ad) yX4_addUp (.code yX4_addUp cX4_addUp 4 (some .int) :: Om) ({ frames := 1, cells := 0, slots := 0, locals := 40 } : Room) 1 (W_X4_addUp ad) := by
  refine jCN_of (y := yX4_addUp) (cc := cX4_addUp) (nL := 4) (rk := 1) (rm := ({ frames := 1, cells := 0, slots := 0, locals := 40 } : Room)) (own := RX4) (tyC_ok cy) hin (XtC_ok ad) Om_good (by decide) rfl ?_
  intro Q av M hF
  obtain ⟨p1, rfl, gp1, hF⟩ := hF
  refine ⟨Nat.le_of_ble_eq_true rfl, fun J hJ => ?_⟩
  show J 0 [(0, .ref (ad 219)), (1, .int (Ii p1))] [] M
  unfold w_X4_addUp at hF
  refine j_aload_n hJ dX4_addUp_0 rfl 0 rfl ?_
  obtain ⟨c1, ec1, hc1, hF⟩ := hF
  refine j_gq hJ kC_219 fC_7_2 rfl fl_X4_75 dX4_addUp_1 ec1 ?_
  refine j_gr (e := (c1 + 2)) hJ (kG_0 hc1) fC_9_2 fl_X4_145 dX4_addUp_4 rfl ?_
  refine j_iload_n hJ dX4_addUp_7 rfl 1 rfl ?_
  refine j_iald hJ gp1 (kG_2 hc1) hF.1 hF.2.1 dX4_addUp_8 (fun v2 ev2 gv2 => ?_)
  have hF := hF.2.2 v2 ev2 gv2
  refine j_istore_n (lv' := [(2, .int (Ii v2)), (0, .ref (ad 219)), (1, .int (Ii p1))]) hJ dX4_addUp_9 rfl (by decide) rfl ?_
  refine j_aload_n hJ dX4_addUp_10 rfl 1 rfl ?_
  obtain ⟨c3, ec3, hc3, hF⟩ := hF
  refine j_gq hJ kC_219 fC_7_2 rfl fl_X4_75 dX4_addUp_11 ec3 ?_
  refine j_gr (e := (c3 + 4)) hJ (kG_0 hc3) fC_9_4 fl_X4_121 dX4_addUp_14 rfl ?_
  refine j_iload_n hJ dX4_addUp_17 rfl 2 rfl ?_
  refine j_lald hJ gp1 (kG_4 hc3) hF.1 hF.2.1 dX4_addUp_18 (fun v4 ev4 gv4 => ?_)
  have hF := hF.2.2 v4 ev4 gv4
  refine j_l2i hJ dX4_addUp_19 ?_
  have g5 := hF.1; have hF := hF.2
  refine j_istore_n (lv' := [(3, .int (Ii v4)), (2, .int (Ii v2)), (0, .ref (ad 219)), (1, .int (Ii p1))]) hJ dX4_addUp_20 rfl (by decide) rfl ?_
  refine j_iload_n hJ dX4_addUp_21 rfl 0 rfl ?_
  refine j_bipush hJ dX4_addUp_22 (by decide) ?_
  refine j_icmp_ne hJ 47 g5 rk_44 dX4_addUp_24 (by decide) (fun z6 => ?_) (fun z6 => ?_)
  · have hF := hF.1 z6
    refine j_aload_n hJ dX4_addUp_47 rfl 2 rfl ?_
    refine j_iconst hJ dX4_addUp_48 ?_
    refine j_aload_n hJ dX4_addUp_49 rfl 2 rfl ?_
    refine j_gi hJ kC_219 fC_7_6 rfl fl_X4_67 dX4_addUp_50 (fun v7 ev7 gv7 => ?_)
    have hF := hF v7 ev7 gv7
    refine j_iconst hJ dX4_addUp_53 ?_
    refine j_isub hJ dX4_addUp_54 ?_
    have g8 := hF.1; have hF := hF.2
    refine j_mmax hJ rk_0 g8 ⟨om_320, om_126, om_12, om_127⟩ ⟨Nat.le_of_ble_eq_true rfl, Nat.le_of_ble_eq_true rfl⟩ dX4_addUp_55 ?_
    refine j_pi hJ (ri_max rk_0 g8) kC_219 fC_7_6 rfl fp_X4_67 dX4_addUp_58 (fun M9 eM9 => ?_)
    have hF := hF M9 eM9
    refine j_iload_n hJ dX4_addUp_61 rfl 0 rfl ?_
    refine j_bipush hJ dX4_addUp_62 (by decide) ?_
    refine j_icmp_eq hJ 73 g5 rk_48 dX4_addUp_64 (by decide) (fun z10 => ?_) (fun z10 => ?_)
    · have hF := hF.1 z10
      exact j_sub hJ [2, 3, 1, 0] rfl (k_X4_addUp_b73 hin  hJ  p1 v2 v4 _ gp1 gv2 g5 hF)
    · have hF := hF.2 z10
      refine j_iload_n hJ dX4_addUp_67 rfl 0 rfl ?_
      refine j_bipush hJ dX4_addUp_68 (by decide) ?_
      refine j_icmp_ne hJ 131 g5 rk_49 dX4_addUp_70 (by decide) (fun z11 => ?_) (fun z11 => ?_)
      · have hF := hF.1 z11
        refine j_aload_n hJ dX4_addUp_131 rfl 2 rfl ?_
        refine j_gr (e := 220) hJ kC_219 fC_7_4 fl_X4_19 dX4_addUp_132 rfl ?_
        refine j_aload_n hJ dX4_addUp_135 rfl 2 rfl ?_
        refine j_gi hJ kC_219 fC_7_6 rfl fl_X4_67 dX4_addUp_136 (fun v12 ev12 gv12 => ?_)
        have hF := hF v12 ev12 gv12
        refine j_iald hJ gv12 kC_220 hF.1 hF.2.1 dX4_addUp_139 (fun v13 ev13 gv13 => ?_)
        have hF := hF.2.2 v13 ev13 gv13
        refine j_if_ne hJ 158 gv13 dX4_addUp_140 (by decide) (fun z14 => ?_) (fun z14 => ?_)
        · have hF := hF.1 z14
          exact j_sub hJ [2, 3] rfl (k_X4_addUp_b158 hin  hJ  p1 _ gp1 hF)
        · have hF := hF.2 z14
          refine j_aload_n hJ dX4_addUp_143 rfl 2 rfl ?_
          refine j_iload_n hJ dX4_addUp_144 rfl 1 rfl ?_
          refine j_iload_n hJ dX4_addUp_145 rfl 0 rfl ?_
          refine j_aload_n hJ dX4_addUp_146 rfl 2 rfl ?_
          refine j_gr (e := 221) hJ kC_219 fC_7_5 fl_X4_23 dX4_addUp_147 rfl ?_
          refine j_aload_n hJ dX4_addUp_150 rfl 2 rfl ?_
          refine j_gi hJ kC_219 fC_7_6 rfl fl_X4_67 dX4_addUp_151 (fun v15 ev15 gv15 => ?_)
          have hF := hF v15 ev15 gv15
          refine j_lald hJ gv15 kC_221 hF.1 hF.2.1 dX4_addUp_154 (fun v16 ev16 gv16 => ?_)
          have hF := hF.2.2 v16 ev16 gv16
          refine j_callVv hJ (c_X4_addNumber (l := l) (D := D) (cy := cy) (ad := ad) hin) rfl om_321 ⟨rfl, rfl, Nat.le_of_ble_eq_true rfl, Nat.le_of_ble_eq_true rfl⟩ [.int (Ii v2), .int (Ii v4), .long (Ll v16)] mv_X4_274 hd_X4_addNumberv kC_219 rfl rfl rfl (Nat.le_of_ble_eq_true rfl) dX4_addUp_155 ⟨v2, v4, v16, rfl, gv2, g5, gv16, hF⟩ (fun M18 qM18 => ?_)
          have hF := qM18
          exact j_sub hJ [2, 3] rfl (k_X4_addUp_b158 hin  hJ  p1 _ gp1 hF)
      · have hF := hF.2 z11
        exact j_sub hJ [2, 3, 1, 0] rfl (k_X4_addUp_b73 hin  hJ  p1 v2 v4 _ gp1 gv2 g5 hF)
  · have hF := hF.2 z6
    refine j_aload_n hJ dX4_addUp_27 rfl 2 rfl ?_
    refine j_gr (e := 227) hJ kC_219 fC_7_12 fl_X4_42 dX4_addUp_28 rfl ?_
    refine j_iload_n hJ dX4_addUp_31 rfl 1 rfl ?_
    refine j_dup2_11 hJ dX4_addUp_32 rfl rfl ?_
    refine j_lald hJ gv2 kC_227 hF.1 hF.2.1 dX4_addUp_33 (fun v19 ev19 gv19 => ?_)
    have hF := hF.2.2 v19 ev19 gv19
    refine j_lconst (x := 1) hJ dX4_addUp_34 rfl ?_
    refine j_laddw hJ dX4_addUp_35 ?_
    refine j_last hJ gv2 (rl_w _) kC_227 hF.1 hF.2.1 dX4_addUp_36 (fun M20 eM20 => ?_)
    have hF := hF.2.2 M20 eM20
    refine j_aload_n hJ dX4_addUp_37 rfl 2 rfl ?_
    obtain ⟨c21, ec21, hc21, hF⟩ := hF
    refine j_gq hJ kC_219 fC_7_2 rfl fl_X4_75 dX4_addUp_38 ec21 ?_
    refine j_gr (e := (c21 + 3)) hJ (kG_0 hc21) fC_9_3 fl_X4_260 dX4_addUp_41 rfl ?_
    refine j_iload_n hJ dX4_addUp_44 rfl 3 rfl ?_
    refine j_iald hJ gp1 (kG_3 hc21) hF.1 hF.2.1 dX4_addUp_45 (fun v22 ev22 gv22 => ?_)
    have hF := hF.2.2 v22 ev22 gv22
    exact j_iret hJ rfl gv22 dX4_addUp_46 hF
def W_X4_pushTruth (ad : Nat → Nat) (Q : Int → MM → Prop) (av : List Value) (M : MM) : Prop := ∃ (p1 : Int), av = [.ref (ad 219), .int (Ii p1)] ∧ (p1 = 0 ∨ p1 = 1) ∧ w_X4_pushTruth  Q p1 M
set_option maxHeartbeats 4000000 in
set_option maxRecDepth 100000 in
theorem k_X4_pushTruth_b11 {l : Launch} {D : va_G} {cy : Nat → ClassId} {ad : Nat → Nat} {Q : Int → MM → Prop} {J : Nat → List (Nat × Value) → List Value → MM → Prop} (hin : jIn ad ksC.length)   (hJ : jOk l D vwCl (tyC cy) cy ad ftC ksC (XtC ad) Om RX4 cX4_pushTruth 2 0 ({ frames := 1, cells := 0, slots := 0, locals := 23 } : Room) Q J)  : ∀ (s0 s1 : Int) (M : MM), rl_ s0 → ri_ s1 → w_X4_pushTruth_b11  Q  s0 s1 M → J 11 [] [.long (Ll s0), .int (Ii s1), .ref (ad 219)] M := by
  intro s0 s1 M gs0 gs1 hF
  unfold w_X4_pushTruth_b11 at hF
  refine j_callVv hJ (c_X4_push (l := l) (D := D) (cy := cy) (ad := ad) hin) rfl om_291 ⟨rfl, rfl, Nat.le_of_ble_eq_true rfl, Nat.le_of_ble_eq_true rfl⟩ [.int (Ii s1), .long (Ll s0)] mv_X4_139 hd_X4_pushv kC_219 rfl rfl rfl (Nat.le_of_ble_eq_true rfl) dX4_pushTruth_11 ⟨s1, s0, rfl, gs1, gs0, hF⟩ (fun M2 qM2 => ?_)
  have hF := qM2
  exact j_vret hJ rfl dX4_pushTruth_14 hF
set_option maxHeartbeats 4000000 in
set_option maxRecDepth 100000 in
theorem c_X4_pushTruth {l : Launch} {D : va_G} {cy : Nat → ClassId} {ad : Nat → Nat} (hin : jIn ad ksC.length) : jCN l D vwCl (tyC cy) cy ad ftC ksC (XtC ad) yX4_pushTruth (.code yX4_pushTruth cX4_pushTruth 2 none :: Om) ({ frames := 1, cells := 0, slots := 0, locals := 23 } : Room) 0 (W_X4_pushTruth ad) := by
  refine jCN_of (y := yX4_pushTruth) (cc := cX4_pushTruth) (nL := 2) (rk := 0) (rm := ({ frames := 1, cells := 0, slots := 0, locals := 23 } : Room)) (own := RX4) (tyC_ok cy) hin (XtC_ok ad) Om_good (by decide) rfl ?_
  intro Q av M hF
  obtain ⟨p1, rfl, gp1, hF⟩ := hF
  refine ⟨Nat.le_of_ble_eq_true rfl, fun J hJ => ?_⟩
  show J 0 [(0, .ref (ad 219)), (1, .int (Ii p1))] [] M
  unfold w_X4_pushTruth at hF
  refine j_aload_n hJ dX4_pushTruth_0 rfl 0 rfl ?_
  refine j_iconst hJ dX4_pushTruth_1 ?_
  refine j_iload_n hJ dX4_pushTruth_2 rfl 1 rfl ?_
  refine j_if_eq hJ 10 (jz_ri gp1) dX4_pushTruth_3 (by decide) (fun z1 => ?_) (fun z1 => ?_)
  · have hF := hF.1 z1
    refine j_lconst (x := 0) hJ dX4_pushTruth_10 rfl ?_
    exact j_sub hJ [] rfl (k_X4_pushTruth_b11 hin  hJ  0 1 _ lkm_0 rk_1 hF)
  · have hF := hF.2 z1
    refine j_lconst (x := 1) hJ dX4_pushTruth_6 rfl ?_
    refine j_goto hJ 11 dX4_pushTruth_7 (by decide) ?_
    exact j_sub hJ [] rfl (k_X4_pushTruth_b11 hin  hJ  1 1 _ lk_1 rk_1 hF)
def W_X4_finish (ad : Nat → Nat) (Q : Int → MM → Prop) (av : List Value) (M : MM) : Prop := ∃ (p1 : Int), av = [.ref (ad 219), .int (Ii p1)] ∧ ri_ p1 ∧ w_X4_finish  Q p1 M
set_option maxHeartbeats 4000000 in
set_option maxRecDepth 100000 in
theorem k_X4_finish_b59 {l : Launch} {D : va_G} {cy : Nat → ClassId} {ad : Nat → Nat} {Q : Int → MM → Prop} {J : Nat → List (Nat × Value) → List Value → MM → Prop} (hin : jIn ad ksC.length)   (hJ : jOk l D vwCl (tyC cy) cy ad ftC ksC (XtC ad) Om RX4 cX4_finish 4 0 ({ frames := 2, cells := 0, slots := 0, locals := 44 } : Room) Q J)  : ∀ (s0 : Int) (M : MM), ri_ s0 → w_X4_finish_b59  Q  s0 M → J 59 [] [.int (Ii s0), .ref (ad 219)] M := by
  intro s0 M gs0 hF
  unfold w_X4_finish_b59 at hF
  refine j_callVv hJ (c_X4_pushTruth (l := l) (D := D) (cy := cy) (ad := ad) hin) rfl om_329 ⟨rfl, rfl, Nat.le_of_ble_eq_true rfl, Nat.le_of_ble_eq_true rfl⟩ [.int (Ii s0)] mv_X4_148 hd_X4_pushTruthv kC_219 rfl rfl rfl (Nat.le_of_ble_eq_true rfl) dX4_finish_59 ⟨s0, rfl, hF.1, hF.2⟩ (fun M2 qM2 => ?_)
  have hF := qM2
  refine j_goto hJ 106 dX4_finish_62 (by decide) ?_
  exact j_vret hJ rfl dX4_finish_106 hF
set_option maxHeartbeats 4000000 in
set_option maxRecDepth 100000 in
theorem k_X4_finish_b51 {l : Launch} {D : va_G} {cy : Nat → ClassId} {ad : Nat → Nat} {Q : Int → MM → Prop} {J : Nat → List (Nat × Value) → List Value → MM → Prop} (hin : jIn ad ksC.length)   (hJ : jOk l D vwCl (tyC cy) cy ad ftC ksC (XtC ad) Om RX4 cX4_finish 4 0 ({ frames := 2, cells := 0, slots := 0, locals := 44 } : Room) Q J)  : ∀ (s0 s1 : Int) (M : MM), ri_ s0 → ri_ s1 → w_X4_finish_b51  Q  s0 s1 M → J 51 [] [.int (Ii s0), .int (Ii s1), .ref (ad 219)] M := by
  intro s0 s1 M gs0 gs1 hF
  unfold w_X4_finish_b51 at hF
  refine j_icmp_ne hJ 58 gs1 gs0 dX4_finish_51 (by decide) (fun z1 => ?_) (fun z1 => ?_)
  · have hF := hF.1 z1
    refine j_iconst hJ dX4_finish_58 ?_
    exact j_sub hJ [] rfl (k_X4_finish_b59 hin  hJ  0 _ rk_0 hF)
  · have hF := hF.2 z1
    refine j_iconst hJ dX4_finish_54 ?_
    refine j_goto hJ 59 dX4_finish_55 (by decide) ?_
    exact j_sub hJ [] rfl (k_X4_finish_b59 hin  hJ  1 _ rk_1 hF)
set_option maxHeartbeats 4000000 in
set_option maxRecDepth 100000 in
theorem k_X4_finish_b33 {l : Launch} {D : va_G} {cy : Nat → ClassId} {ad : Nat → Nat} {Q : Int → MM → Prop} {J : Nat → List (Nat × Value) → List Value → MM → Prop} (hin : jIn ad ksC.length)   (hJ : jOk l D vwCl (tyC cy) cy ad ftC ksC (XtC ad) Om RX4 cX4_finish 4 0 ({ frames := 2, cells := 0, slots := 0, locals := 44 } : Room) Q J)  : ∀ (x2 x3 : Int) (M : MM), ri_ x2 → ri_ x3 → w_X4_finish_b33  Q  x2 x3 M → J 33 [(0, .ref (ad 219)), (2, .int (Ii x2)), (3, .int (Ii x3))] [] M := by
  intro x2 x3 M gx2 gx3 hF
  unfold w_X4_finish_b33 at hF
  refine j_aload_n hJ dX4_finish_33 rfl 0 rfl ?_
  refine j_aload_n hJ dX4_finish_34 rfl 0 rfl ?_
  refine j_gr (e := 228) hJ kC_219 fC_7_13 fl_X4_45 dX4_finish_35 rfl ?_
  refine j_iload_n hJ dX4_finish_38 rfl 1 rfl ?_
  refine j_zald hJ gx2 kC_228 hF.1 hF.2.1 dX4_finish_39 (fun v1 ev1 gv1 => ?_)
  have hF := hF.2.2 v1 ev1 gv1
  refine j_iload_n hJ dX4_finish_40 rfl 2 rfl ?_
  refine j_bipush hJ dX4_finish_41 (by decide) ?_
  refine j_icmp_ne hJ 50 gx3 rk_48 dX4_finish_43 (by decide) (fun z2 => ?_) (fun z2 => ?_)
  · have hF := hF.1 z2
    refine j_iconst hJ dX4_finish_50 ?_
    exact j_sub hJ [] rfl (k_X4_finish_b51 hin  hJ  0 v1 _ rk_0 (jz_ri gv1) hF)
  · have hF := hF.2 z2
    refine j_iconst hJ dX4_finish_46 ?_
    refine j_goto hJ 51 dX4_finish_47 (by decide) ?_
    exact j_sub hJ [] rfl (k_X4_finish_b51 hin  hJ  1 v1 _ rk_1 (jz_ri gv1) hF)
set_option maxHeartbeats 4000000 in
set_option maxRecDepth 100000 in
theorem k_X4_finish_b86 {l : Launch} {D : va_G} {cy : Nat → ClassId} {ad : Nat → Nat} {Q : Int → MM → Prop} {J : Nat → List (Nat × Value) → List Value → MM → Prop} (hin : jIn ad ksC.length)   (hJ : jOk l D vwCl (tyC cy) cy ad ftC ksC (XtC ad) Om RX4 cX4_finish 4 0 ({ frames := 2, cells := 0, slots := 0, locals := 44 } : Room) Q J)  : ∀ (x2 : Int) (M : MM), ri_ x2 → w_X4_finish_b86  Q  x2 M → J 86 [(0, .ref (ad 219)), (2, .int (Ii x2))] [] M := by
  intro x2 M gx2 hF
  unfold w_X4_finish_b86 at hF
  refine j_aload_n hJ dX4_finish_86 rfl 0 rfl ?_
  refine j_iconst hJ dX4_finish_87 ?_
  refine j_aload_n hJ dX4_finish_88 rfl 0 rfl ?_
  refine j_gr (e := 227) hJ kC_219 fC_7_12 fl_X4_42 dX4_finish_89 rfl ?_
  refine j_iload_n hJ dX4_finish_92 rfl 1 rfl ?_
  refine j_lald hJ gx2 kC_227 hF.1 hF.2.1 dX4_finish_93 (fun v1 ev1 gv1 => ?_)
  have hF := hF.2.2 v1 ev1 gv1
  refine j_callVv hJ (c_X4_push (l := l) (D := D) (cy := cy) (ad := ad) hin) rfl om_291 ⟨rfl, rfl, Nat.le_of_ble_eq_true rfl, Nat.le_of_ble_eq_true rfl⟩ [.int (Ii 0), .long (Ll v1)] mv_X4_139 hd_X4_pushv kC_219 rfl rfl rfl (Nat.le_of_ble_eq_true rfl) dX4_finish_94 ⟨0, v1, rfl, rk_0, gv1, hF⟩ (fun M3 qM3 => ?_)
  have hF := qM3
  refine j_goto hJ 106 dX4_finish_97 (by decide) ?_
  exact j_vret hJ rfl dX4_finish_106 hF
set_option maxHeartbeats 4000000 in
set_option maxRecDepth 100000 in
theorem c_X4_finish {l : Launch} {D : va_G} {cy : Nat → ClassId} {ad : Nat → Nat} (hin : jIn ad ksC.length) : jCN l D vwCl (tyC cy) cy ad ftC ksC (XtC ad) yX4_finish (.code yX4_finish cX4_finish 4 none :: Om) ({ frames := 2, cells := 0, slots := 0, locals := 44 } : Room) 0 (W_X4_finish ad) := by
  refine jCN_of (y := yX4_finish) (cc := cX4_finish) (nL := 4) (rk := 0) (rm := ({ frames := 2, cells := 0, slots := 0, locals := 44 } : Room)) (own := RX4) (tyC_ok cy) hin (XtC_ok ad) Om_good (by decide) rfl ?_
  intro Q av M hF
  obtain ⟨p1, rfl, gp1, hF⟩ := hF
  refine ⟨Nat.le_of_ble_eq_true rfl, fun J hJ => ?_⟩
  show J 0 [(0, .ref (ad 219)), (1, .int (Ii p1))] [] M
  unfold w_X4_finish at hF
  refine j_aload_n hJ dX4_finish_0 rfl 0 rfl ?_
  obtain ⟨c1, ec1, hc1, hF⟩ := hF
  refine j_gq hJ kC_219 fC_7_2 rfl fl_X4_75 dX4_finish_1 ec1 ?_
  refine j_gr (e := (c1 + 2)) hJ (kG_0 hc1) fC_9_2 fl_X4_145 dX4_finish_4 rfl ?_
  refine j_iload_n hJ dX4_finish_7 rfl 1 rfl ?_
  refine j_iald hJ gp1 (kG_2 hc1) hF.1 hF.2.1 dX4_finish_8 (fun v2 ev2 gv2 => ?_)
  have hF := hF.2.2 v2 ev2 gv2
  refine j_istore_n (lv' := [(2, .int (Ii v2)), (0, .ref (ad 219)), (1, .int (Ii p1))]) hJ dX4_finish_9 rfl (by decide) rfl ?_
  refine j_aload_n hJ dX4_finish_10 rfl 1 rfl ?_
  obtain ⟨c3, ec3, hc3, hF⟩ := hF
  refine j_gq hJ kC_219 fC_7_2 rfl fl_X4_75 dX4_finish_11 ec3 ?_
  refine j_gr (e := (c3 + 4)) hJ (kG_0 hc3) fC_9_4 fl_X4_121 dX4_finish_14 rfl ?_
  refine j_iload_n hJ dX4_finish_17 rfl 2 rfl ?_
  refine j_lald hJ gp1 (kG_4 hc3) hF.1 hF.2.1 dX4_finish_18 (fun v4 ev4 gv4 => ?_)
  have hF := hF.2.2 v4 ev4 gv4
  refine j_l2i hJ dX4_finish_19 ?_
  have g5 := hF.1; have hF := hF.2
  refine j_istore_n (lv' := [(3, .int (Ii v4)), (2, .int (Ii v2)), (0, .ref (ad 219)), (1, .int (Ii p1))]) hJ dX4_finish_20 rfl (by decide) rfl ?_
  refine j_iload_n hJ dX4_finish_21 rfl 0 rfl ?_
  refine j_bipush hJ dX4_finish_22 (by decide) ?_
  refine j_icmp_eq hJ 33 g5 rk_48 dX4_finish_24 (by decide) (fun z6 => ?_) (fun z6 => ?_)
  · have hF := hF.1 z6
    exact j_sub hJ [2, 1, 0] rfl (k_X4_finish_b33 hin  hJ  v2 v4 _ gv2 g5 hF)
  · have hF := hF.2 z6
    refine j_iload_n hJ dX4_finish_27 rfl 0 rfl ?_
    refine j_bipush hJ dX4_finish_28 (by decide) ?_
    refine j_icmp_ne hJ 65 g5 rk_49 dX4_finish_30 (by decide) (fun z7 => ?_) (fun z7 => ?_)
    · have hF := hF.1 z7
      refine j_aload_n hJ dX4_finish_65 rfl 2 rfl ?_
      refine j_gr (e := 228) hJ kC_219 fC_7_13 fl_X4_45 dX4_finish_66 rfl ?_
      refine j_iload_n hJ dX4_finish_69 rfl 1 rfl ?_
      refine j_zald hJ gv2 kC_228 hF.1 hF.2.1 dX4_finish_70 (fun v8 ev8 gv8 => ?_)
      have hF := hF.2.2 v8 ev8 gv8
      refine j_if_ne hJ 86 (jz_ri gv8) dX4_finish_71 (by decide) (fun z9 => ?_) (fun z9 => ?_)
      · have hF := hF.1 z9
        exact j_sub hJ [2, 1] rfl (k_X4_finish_b86 hin  hJ  v2 _ gv2 hF)
      · have hF := hF.2 z9
        refine j_iload_n hJ dX4_finish_74 rfl 0 rfl ?_
        refine j_bipush hJ dX4_finish_75 (by decide) ?_
        refine j_icmp_eq hJ 86 g5 rk_44 dX4_finish_77 (by decide) (fun z10 => ?_) (fun z10 => ?_)
        · have hF := hF.1 z10
          exact j_sub hJ [2, 1] rfl (k_X4_finish_b86 hin  hJ  v2 _ gv2 hF)
        · have hF := hF.2 z10
          refine j_iload_n hJ dX4_finish_80 rfl 0 rfl ?_
          refine j_bipush hJ dX4_finish_81 (by decide) ?_
          refine j_icmp_ne hJ 100 g5 rk_45 dX4_finish_83 (by decide) (fun z11 => ?_) (fun z11 => ?_)
          · have hF := hF.1 z11
            refine j_aload_n hJ dX4_finish_100 rfl 2 rfl ?_
            refine j_iconst hJ dX4_finish_101 ?_
            refine j_lconst (x := 0) hJ dX4_finish_102 rfl ?_
            refine j_callVv hJ (c_X4_push (l := l) (D := D) (cy := cy) (ad := ad) hin) rfl om_291 ⟨rfl, rfl, Nat.le_of_ble_eq_true rfl, Nat.le_of_ble_eq_true rfl⟩ [.int (Ii 4), .long (Ll 0)] mv_X4_139 hd_X4_pushv kC_219 rfl rfl rfl (Nat.le_of_ble_eq_true rfl) dX4_finish_103 ⟨4, 0, rfl, rk_4, lkm_0, hF⟩ (fun M13 qM13 => ?_)
            have hF := qM13
            exact j_vret hJ rfl dX4_finish_106 hF
          · have hF := hF.2 z11
            exact j_sub hJ [2, 1] rfl (k_X4_finish_b86 hin  hJ  v2 _ gv2 hF)
    · have hF := hF.2 z7
      exact j_sub hJ [2, 1, 0] rfl (k_X4_finish_b33 hin  hJ  v2 v4 _ gv2 g5 hF)
def W_X4_addRow (ad : Nat → Nat) (Q : Int → MM → Prop) (av : List Value) (M : MM) : Prop := ∃ (p1 : Int), av = [.ref (ad 219), .int (Ii p1)] ∧ ri_ p1 ∧ w_X4_addRow  Q p1 M
set_option maxHeartbeats 4000000 in
set_option maxRecDepth 100000 in
theorem k_X4_addRow_b18 {l : Launch} {D : va_G} {cy : Nat → ClassId} {ad : Nat → Nat} {Q : Int → MM → Prop} {J : Nat → List (Nat × Value) → List Value → MM → Prop} (hin : jIn ad ksC.length)   (hJ : jOk l D vwCl (tyC cy) cy ad ftC ksC (XtC ad) Om RX4 cX4_addRow 2 0 ({ frames := 1, cells := 0, slots := 0, locals := 40 } : Room) Q J)  : ∀ (M : MM), w_X4_addRow_b18  Q   M → J 18 [(0, .ref (ad 219))] [] M := by
  intro  M  hF
  unfold w_X4_addRow_b18 at hF
  refine j_aload_n hJ dX4_addRow_18 rfl 0 rfl ?_
  refine j_iconst hJ dX4_addRow_19 ?_
  refine j_aload_n hJ dX4_addRow_20 rfl 0 rfl ?_
  refine j_gi hJ kC_219 fC_7_6 rfl fl_X4_67 dX4_addRow_21 (fun v1 ev1 gv1 => ?_)
  have hF := hF v1 ev1 gv1
  refine j_iconst hJ dX4_addRow_24 ?_
  refine j_isub hJ dX4_addRow_25 ?_
  have g2 := hF.1; have hF := hF.2
  refine j_mmax hJ rk_0 g2 ⟨om_320, om_126, om_12, om_127⟩ ⟨Nat.le_of_ble_eq_true rfl, Nat.le_of_ble_eq_true rfl⟩ dX4_addRow_26 ?_
  refine j_pi hJ (ri_max rk_0 g2) kC_219 fC_7_6 rfl fp_X4_67 dX4_addRow_29 (fun M3 eM3 => ?_)
  have hF := hF M3 eM3
  refine j_aload_n hJ dX4_addRow_32 rfl 0 rfl ?_
  refine j_gi hJ kC_219 fC_7_20 rfl fl_X4_277 dX4_addRow_33 (fun v4 ev4 gv4 => ?_)
  have hF := hF v4 ev4 gv4
  refine j_sipush hJ dX4_addRow_36 (by decide) ?_
  refine j_icmp_ge hJ 113 gv4 rk_4000 dX4_addRow_39 (by decide) (fun z5 => ?_) (fun z5 => ?_)
  · have hF := hF.1 z5
    exact j_vret hJ rfl dX4_addRow_113 hF
  · have hF := hF.2 z5
    refine j_aload_n hJ dX4_addRow_42 rfl 0 rfl ?_
    refine j_gi hJ kC_219 fC_7_3 rfl fl_X4_83 dX4_addRow_43 (fun v6 ev6 gv6 => ?_)
    have hF := hF v6 ev6 gv6
    refine j_sipush hJ dX4_addRow_46 (by decide) ?_
    refine j_icmp_gt hJ 113 gv6 rk_30000 dX4_addRow_49 (by decide) (fun z7 => ?_) (fun z7 => ?_)
    · have hF := hF.1 z7
      exact j_vret hJ rfl dX4_addRow_113 hF
    · have hF := hF.2 z7
      refine j_aload_n hJ dX4_addRow_52 rfl 0 rfl ?_
      refine j_gr (e := 232) hJ kC_219 fC_7_17 fl_X4_58 dX4_addRow_53 rfl ?_
      refine j_aload_n hJ dX4_addRow_56 rfl 0 rfl ?_
      refine j_gi hJ kC_219 fC_7_20 rfl fl_X4_277 dX4_addRow_57 (fun v8 ev8 gv8 => ?_)
      have hF := hF v8 ev8 gv8
      refine j_aload_n hJ dX4_addRow_60 rfl 0 rfl ?_
      refine j_gr (e := 226) hJ kC_219 fC_7_11 fl_X4_39 dX4_addRow_61 rfl ?_
      refine j_iconst hJ dX4_addRow_64 ?_
      refine j_iald hJ rk_0 kC_226 (by decide) (by decide) dX4_addRow_65 (fun v9 ev9 gv9 => ?_)
      have hF := hF v9 ev9 gv9
      refine j_iast hJ gv8 gv9 kC_232 hF.1 hF.2.1 dX4_addRow_66 (fun M10 eM10 => ?_)
      have hF := hF.2.2 M10 eM10
      refine j_aload_n hJ dX4_addRow_67 rfl 0 rfl ?_
      refine j_gr (e := 233) hJ kC_219 fC_7_18 fl_X4_61 dX4_addRow_68 rfl ?_
      refine j_aload_n hJ dX4_addRow_71 rfl 0 rfl ?_
      refine j_gi hJ kC_219 fC_7_20 rfl fl_X4_277 dX4_addRow_72 (fun v11 ev11 gv11 => ?_)
      have hF := hF v11 ev11 gv11
      refine j_aload_n hJ dX4_addRow_75 rfl 0 rfl ?_
      refine j_gr (e := 220) hJ kC_219 fC_7_4 fl_X4_19 dX4_addRow_76 rfl ?_
      refine j_aload_n hJ dX4_addRow_79 rfl 0 rfl ?_
      refine j_gi hJ kC_219 fC_7_6 rfl fl_X4_67 dX4_addRow_80 (fun v12 ev12 gv12 => ?_)
      have hF := hF v12 ev12 gv12
      refine j_iald hJ gv12 kC_220 hF.1 hF.2.1 dX4_addRow_83 (fun v13 ev13 gv13 => ?_)
      have hF := hF.2.2 v13 ev13 gv13
      refine j_iast hJ gv11 gv13 kC_233 hF.1 hF.2.1 dX4_addRow_84 (fun M14 eM14 => ?_)
      have hF := hF.2.2 M14 eM14
      refine j_aload_n hJ dX4_addRow_85 rfl 0 rfl ?_
      refine j_gr (e := 234) hJ kC_219 fC_7_19 fl_X4_64 dX4_addRow_86 rfl ?_
      refine j_aload_n hJ dX4_addRow_89 rfl 0 rfl ?_
      refine j_gi hJ kC_219 fC_7_20 rfl fl_X4_277 dX4_addRow_90 (fun v15 ev15 gv15 => ?_)
      have hF := hF v15 ev15 gv15
      refine j_aload_n hJ dX4_addRow_93 rfl 0 rfl ?_
      refine j_gr (e := 221) hJ kC_219 fC_7_5 fl_X4_23 dX4_addRow_94 rfl ?_
      refine j_aload_n hJ dX4_addRow_97 rfl 0 rfl ?_
      refine j_gi hJ kC_219 fC_7_6 rfl fl_X4_67 dX4_addRow_98 (fun v16 ev16 gv16 => ?_)
      have hF := hF v16 ev16 gv16
      refine j_lald hJ gv16 kC_221 hF.1 hF.2.1 dX4_addRow_101 (fun v17 ev17 gv17 => ?_)
      have hF := hF.2.2 v17 ev17 gv17
      refine j_last hJ gv15 gv17 kC_234 hF.1 hF.2.1 dX4_addRow_102 (fun M18 eM18 => ?_)
      have hF := hF.2.2 M18 eM18
      refine j_aload_n hJ dX4_addRow_103 rfl 0 rfl ?_
      refine j_dup hJ dX4_addRow_104 rfl ?_
      refine j_gi hJ kC_219 fC_7_20 rfl fl_X4_277 dX4_addRow_105 (fun v19 ev19 gv19 => ?_)
      have hF := hF v19 ev19 gv19
      refine j_iconst hJ dX4_addRow_108 ?_
      refine j_iadd hJ dX4_addRow_109 ?_
      have g20 := hF.1; have hF := hF.2
      refine j_pi hJ g20 kC_219 fC_7_20 rfl fp_X4_277 dX4_addRow_110 (fun M21 eM21 => ?_)
      have hF := hF M21 eM21
      exact j_vret hJ rfl dX4_addRow_113 hF
set_option maxHeartbeats 4000000 in
set_option maxRecDepth 100000 in
theorem c_X4_addRow {l : Launch} {D : va_G} {cy : Nat → ClassId} {ad : Nat → Nat} (hin : jIn ad ksC.length) : jCN l D vwCl (tyC cy) cy ad ftC ksC (XtC ad) yX4_addRow (.code yX4_addRow cX4_addRow 2 none :: Om) ({ frames := 1, cells := 0, slots := 0, locals := 40 } : Room) 0 (W_X4_addRow ad) := by
  refine jCN_of (y := yX4_addRow) (cc := cX4_addRow) (nL := 2) (rk := 0) (rm := ({ frames := 1, cells := 0, slots := 0, locals := 40 } : Room)) (own := RX4) (tyC_ok cy) hin (XtC_ok ad) Om_good (by decide) rfl ?_
  intro Q av M hF
  obtain ⟨p1, rfl, gp1, hF⟩ := hF
  refine ⟨Nat.le_of_ble_eq_true rfl, fun J hJ => ?_⟩
  show J 0 [(0, .ref (ad 219)), (1, .int (Ii p1))] [] M
  unfold w_X4_addRow at hF
  refine j_iload_n hJ dX4_addRow_0 rfl 1 rfl ?_
  refine j_bipush hJ dX4_addRow_1 (by decide) ?_
  refine j_icmp_ne hJ 18 gp1 rk_41 dX4_addRow_3 (by decide) (fun z1 => ?_) (fun z1 => ?_)
  · have hF := hF.1 z1
    exact j_sub hJ [0] rfl (k_X4_addRow_b18 hin  hJ   _  hF)
  · have hF := hF.2 z1
    refine j_aload_n hJ dX4_addRow_6 rfl 0 rfl ?_
    refine j_iconst hJ dX4_addRow_7 ?_
    refine j_aload_n hJ dX4_addRow_8 rfl 0 rfl ?_
    refine j_gr (e := 226) hJ kC_219 fC_7_11 fl_X4_39 dX4_addRow_9 rfl ?_
    refine j_iconst hJ dX4_addRow_12 ?_
    refine j_iald hJ rk_0 kC_226 (by decide) (by decide) dX4_addRow_13 (fun v2 ev2 gv2 => ?_)
    have hF := hF v2 ev2 gv2
    refine j_i2l hJ gv2 dX4_addRow_14 ?_
    refine j_callVv hJ (c_X4_push (l := l) (D := D) (cy := cy) (ad := ad) hin) rfl om_291 ⟨rfl, rfl, Nat.le_of_ble_eq_true rfl, Nat.le_of_ble_eq_true rfl⟩ [.int (Ii 2), .long (Ll v2)] mv_X4_139 hd_X4_pushv kC_219 rfl rfl rfl (Nat.le_of_ble_eq_true rfl) dX4_addRow_15 ⟨2, v2, rfl, rk_2, (rl_ri gv2), hF⟩ (fun M4 qM4 => ?_)
    have hF := qM4
    exact j_sub hJ [0] rfl (k_X4_addRow_b18 hin  hJ   _  hF)
def W_X4_jump (ad : Nat → Nat) (Q : Int → MM → Prop) (av : List Value) (M : MM) : Prop := ∃ (p1 : Int) (p2 : Int), av = [.ref (ad 219), .int (Ii p1), .int (Ii p2)] ∧ ri_ p1 ∧ ri_ p2 ∧ w_X4_jump  Q p1 p2 M
set_option maxHeartbeats 4000000 in
set_option maxRecDepth 100000 in
theorem c_X4_jump {l : Launch} {D : va_G} {cy : Nat → ClassId} {ad : Nat → Nat} (hin : jIn ad ksC.length) : jCN l D vwCl (tyC cy) cy ad ftC ksC (XtC ad) yX4_jump (.code yX4_jump cX4_jump 3 (some .int) :: Om) ({ frames := 3, cells := 0, slots := 0, locals := 69 } : Room) 1 (W_X4_jump ad) := by
  refine jCN_of (y := yX4_jump) (cc := cX4_jump) (nL := 3) (rk := 1) (rm := ({ frames := 3, cells := 0, slots := 0, locals := 69 } : Room)) (own := RX4) (tyC_ok cy) hin (XtC_ok ad) Om_good (by decide) rfl ?_
  intro Q av M hF
  obtain ⟨p1, p2, rfl, gp1, gp2, hF⟩ := hF
  refine ⟨Nat.le_of_ble_eq_true rfl, fun J hJ => ?_⟩
  show J 0 [(0, .ref (ad 219)), (1, .int (Ii p1)), (2, .int (Ii p2))] [] M
  unfold w_X4_jump at hF
  refine j_iload_n hJ dX4_jump_0 rfl 1 rfl ?_
  by_cases z1 : p1 = 33
  · refine j_tabIn hJ 43 44 gp1 dX4_jump_1 (by omega) (by omega) (by rw [z1]; decide) (by decide) ?_
    have hF := hF.1 z1
    refine j_aload_n hJ dX4_jump_44 rfl 0 rfl ?_
    refine j_iload_n hJ dX4_jump_45 rfl 2 rfl ?_
    refine j_lconst (x := 0) hJ dX4_jump_46 rfl ?_
    refine j_callVi hJ (c_X4_decide (l := l) (D := D) (cy := cy) (ad := ad) hin) rfl om_295 ⟨rfl, rfl, Nat.le_of_ble_eq_true rfl, Nat.le_of_ble_eq_true rfl⟩ [.int (Ii p2), .long (Ll 0)] mv_X4_248 hd_X4_decidev kC_219 rfl rfl rfl (Nat.le_of_ble_eq_true rfl) dX4_jump_47 ⟨p2, 0, rfl, gp2, lkm_0, hF⟩ (fun r2 M3 gr2 qM3 => ?_)
    have hF := qM3 gr2
    exact j_iret hJ rfl gr2 dX4_jump_50 hF
  by_cases z4 : p1 = 34
  · refine j_tabIn hJ 50 51 gp1 dX4_jump_1 (by omega) (by omega) (by rw [z4]; decide) (by decide) ?_
    have hF := hF.2.1 z4
    refine j_aload_n hJ dX4_jump_51 rfl 0 rfl ?_
    refine j_iload_n hJ dX4_jump_52 rfl 2 rfl ?_
    refine j_lconst (x := 1) hJ dX4_jump_53 rfl ?_
    refine j_callVi hJ (c_X4_decide (l := l) (D := D) (cy := cy) (ad := ad) hin) rfl om_295 ⟨rfl, rfl, Nat.le_of_ble_eq_true rfl, Nat.le_of_ble_eq_true rfl⟩ [.int (Ii p2), .long (Ll 1)] mv_X4_248 hd_X4_decidev kC_219 rfl rfl rfl (Nat.le_of_ble_eq_true rfl) dX4_jump_54 ⟨p2, 1, rfl, gp2, lk_1, hF⟩ (fun r5 M6 gr5 qM6 => ?_)
    have hF := qM6 gr5
    exact j_iret hJ rfl gr5 dX4_jump_57 hF
  by_cases z7 : p1 = 35
  · refine j_tabIn hJ 119 120 gp1 dX4_jump_1 (by omega) (by omega) (by rw [z7]; decide) (by decide) ?_
    have hF := hF.2.2.1 z7
    refine j_aload_n hJ dX4_jump_120 rfl 0 rfl ?_
    refine j_gi hJ kC_219 fC_7_6 rfl fl_X4_67 dX4_jump_121 (fun v8 ev8 gv8 => ?_)
    have hF := hF v8 ev8 gv8
    refine j_if_le hJ 158 gv8 dX4_jump_124 (by decide) (fun z9 => ?_) (fun z9 => ?_)
    · have hF := hF.1 z9
      refine j_iload_n hJ dX4_jump_158 rfl 2 rfl ?_
      refine j_iconst hJ dX4_jump_159 ?_
      refine j_iadd hJ dX4_jump_160 ?_
      have g10 := hF.1; have hF := hF.2
      exact j_iret hJ rfl g10 dX4_jump_161 hF
    · have hF := hF.2 z9
      refine j_aload_n hJ dX4_jump_127 rfl 0 rfl ?_
      refine j_gr (e := 220) hJ kC_219 fC_7_4 fl_X4_19 dX4_jump_128 rfl ?_
      refine j_aload_n hJ dX4_jump_131 rfl 0 rfl ?_
      refine j_gi hJ kC_219 fC_7_6 rfl fl_X4_67 dX4_jump_132 (fun v11 ev11 gv11 => ?_)
      have hF := hF v11 ev11 gv11
      refine j_iconst hJ dX4_jump_135 ?_
      refine j_isub hJ dX4_jump_136 ?_
      have g12 := hF.1; have hF := hF.2
      refine j_iald hJ g12 kC_220 hF.1 hF.2.1 dX4_jump_137 (fun v13 ev13 gv13 => ?_)
      have hF := hF.2.2 v13 ev13 gv13
      refine j_iconst hJ dX4_jump_138 ?_
      refine j_icmp_eq hJ 158 gv13 rk_1 dX4_jump_139 (by decide) (fun z14 => ?_) (fun z14 => ?_)
      · have hF := hF.1 z14
        refine j_iload_n hJ dX4_jump_158 rfl 2 rfl ?_
        refine j_iconst hJ dX4_jump_159 ?_
        refine j_iadd hJ dX4_jump_160 ?_
        have g15 := hF.1; have hF := hF.2
        exact j_iret hJ rfl g15 dX4_jump_161 hF
      · have hF := hF.2 z14
        refine j_aload_n hJ dX4_jump_142 rfl 0 rfl ?_
        refine j_dup hJ dX4_jump_143 rfl ?_
        refine j_gi hJ kC_219 fC_7_6 rfl fl_X4_67 dX4_jump_144 (fun v16 ev16 gv16 => ?_)
        have hF := hF v16 ev16 gv16
        refine j_iconst hJ dX4_jump_147 ?_
        refine j_isub hJ dX4_jump_148 ?_
        have g17 := hF.1; have hF := hF.2
        refine j_pi hJ g17 kC_219 fC_7_6 rfl fp_X4_67 dX4_jump_149 (fun M18 eM18 => ?_)
        have hF := hF M18 eM18
        refine j_aload_n hJ dX4_jump_152 rfl 0 rfl ?_
        refine j_iconst hJ dX4_jump_153 ?_
        refine j_lconst (x := 0) hJ dX4_jump_154 rfl ?_
        refine j_callVv hJ (c_X4_push (l := l) (D := D) (cy := cy) (ad := ad) hin) rfl om_291 ⟨rfl, rfl, Nat.le_of_ble_eq_true rfl, Nat.le_of_ble_eq_true rfl⟩ [.int (Ii 4), .long (Ll 0)] mv_X4_139 hd_X4_pushv kC_219 rfl rfl rfl (Nat.le_of_ble_eq_true rfl) dX4_jump_155 ⟨4, 0, rfl, rk_4, lkm_0, hF⟩ (fun M20 qM20 => ?_)
        have hF := qM20
        refine j_iload_n hJ dX4_jump_158 rfl 2 rfl ?_
        refine j_iconst hJ dX4_jump_159 ?_
        refine j_iadd hJ dX4_jump_160 ?_
        have g21 := hF.1; have hF := hF.2
        exact j_iret hJ rfl g21 dX4_jump_161 hF
  by_cases z22 : p1 = 36
  · refine j_tabIn hJ 57 58 gp1 dX4_jump_1 (by omega) (by omega) (by rw [z22]; decide) (by decide) ?_
    have hF := hF.2.2.2.1 z22
    refine j_aload_n hJ dX4_jump_58 rfl 0 rfl ?_
    refine j_iload_n hJ dX4_jump_59 rfl 2 rfl ?_
    refine j_callVi hJ (c_X4_giveNext (l := l) (D := D) (cy := cy) (ad := ad) hin) rfl om_316 ⟨rfl, rfl, Nat.le_of_ble_eq_true rfl, Nat.le_of_ble_eq_true rfl⟩ [.int (Ii p2)] mv_X4_251 hd_X4_giveNextv kC_219 rfl rfl rfl (Nat.le_of_ble_eq_true rfl) dX4_jump_60 ⟨p2, rfl, gp2, hF⟩ (fun r23 M24 gr23 qM24 => ?_)
    have hF := qM24 gr23
    exact j_iret hJ rfl gr23 dX4_jump_63 hF
  by_cases z25 : p1 = 37
  · refine j_tabIn hJ 78 79 gp1 dX4_jump_1 (by omega) (by omega) (by rw [z25]; decide) (by decide) ?_
    have hF := hF.2.2.2.2.1 z25
    refine j_aload_n hJ dX4_jump_79 rfl 0 rfl ?_
    refine j_iconst hJ dX4_jump_80 ?_
    refine j_aload_n hJ dX4_jump_81 rfl 0 rfl ?_
    refine j_gi hJ kC_219 fC_7_6 rfl fl_X4_67 dX4_jump_82 (fun v26 ev26 gv26 => ?_)
    have hF := hF v26 ev26 gv26
    refine j_iconst hJ dX4_jump_85 ?_
    refine j_isub hJ dX4_jump_86 ?_
    have g27 := hF.1; have hF := hF.2
    refine j_mmax hJ rk_0 g27 ⟨om_320, om_126, om_12, om_127⟩ ⟨Nat.le_of_ble_eq_true rfl, Nat.le_of_ble_eq_true rfl⟩ dX4_jump_87 ?_
    refine j_pi hJ (ri_max rk_0 g27) kC_219 fC_7_6 rfl fp_X4_67 dX4_jump_90 (fun M28 eM28 => ?_)
    have hF := hF M28 eM28
    refine j_aload_n hJ dX4_jump_93 rfl 0 rfl ?_
    refine j_aload_n hJ dX4_jump_94 rfl 0 rfl ?_
    refine j_gi hJ kC_219 fC_7_6 rfl fl_X4_67 dX4_jump_95 (fun v29 ev29 gv29 => ?_)
    have hF := hF v29 ev29 gv29
    refine j_callVz hJ (c_X4_isTrue (l := l) (D := D) (cy := cy) (ad := ad) hin) rfl om_285 ⟨rfl, rfl, Nat.le_of_ble_eq_true rfl, Nat.le_of_ble_eq_true rfl⟩ [.int (Ii v29)] mv_X4_71 hd_X4_isTruev kC_219 rfl rfl rfl (Nat.le_of_ble_eq_true rfl) dX4_jump_98 ⟨v29, rfl, gv29, hF⟩ (fun r30 M31 gr30 qM31 => ?_)
    have hF := qM31 gr30
    refine j_if_eq hJ 110 (jz_ri gr30) dX4_jump_101 (by decide) (fun z32 => ?_) (fun z32 => ?_)
    · have hF := hF.1 z32
      refine j_aload_n hJ dX4_jump_110 rfl 0 rfl ?_
      obtain ⟨c33, ec33, hc33, hF⟩ := hF
      refine j_gq hJ kC_219 fC_7_2 rfl fl_X4_75 dX4_jump_111 ec33 ?_
      refine j_gr (e := (c33 + 3)) hJ (kG_0 hc33) fC_9_3 fl_X4_260 dX4_jump_114 rfl ?_
      refine j_iload_n hJ dX4_jump_117 rfl 2 rfl ?_
      refine j_iald hJ gp2 (kG_3 hc33) hF.1 hF.2.1 dX4_jump_118 (fun v34 ev34 gv34 => ?_)
      have hF := hF.2.2 v34 ev34 gv34
      exact j_iret hJ rfl gv34 dX4_jump_119 hF
    · have hF := hF.2 z32
      refine j_iload_n hJ dX4_jump_104 rfl 2 rfl ?_
      refine j_iconst hJ dX4_jump_105 ?_
      refine j_iadd hJ dX4_jump_106 ?_
      have g35 := hF.1; have hF := hF.2
      refine j_goto hJ 119 dX4_jump_107 (by decide) ?_
      exact j_iret hJ rfl g35 dX4_jump_119 hF
  by_cases z36 : p1 = 38
  · refine j_tabIn hJ 63 64 gp1 dX4_jump_1 (by omega) (by omega) (by rw [z36]; decide) (by decide) ?_
    have hF := hF.2.2.2.2.2.1 z36
    refine j_aload_n hJ dX4_jump_64 rfl 0 rfl ?_
    refine j_iload_n hJ dX4_jump_65 rfl 2 rfl ?_
    refine j_callVi hJ (c_X4_addUp (l := l) (D := D) (cy := cy) (ad := ad) hin) rfl om_325 ⟨rfl, rfl, Nat.le_of_ble_eq_true rfl, Nat.le_of_ble_eq_true rfl⟩ [.int (Ii p2)] mv_X4_254 hd_X4_addUpv kC_219 rfl rfl rfl (Nat.le_of_ble_eq_true rfl) dX4_jump_66 ⟨p2, rfl, gp2, hF⟩ (fun r37 M38 gr37 qM38 => ?_)
    have hF := qM38 gr37
    exact j_iret hJ rfl gr37 dX4_jump_69 hF
  by_cases z39 : p1 = 39
  · refine j_tabIn hJ 69 70 gp1 dX4_jump_1 (by omega) (by omega) (by rw [z39]; decide) (by decide) ?_
    have hF := hF.2.2.2.2.2.2.1 z39
    refine j_aload_n hJ dX4_jump_70 rfl 0 rfl ?_
    refine j_iload_n hJ dX4_jump_71 rfl 2 rfl ?_
    refine j_callVv hJ (c_X4_finish (l := l) (D := D) (cy := cy) (ad := ad) hin) rfl om_333 ⟨rfl, rfl, Nat.le_of_ble_eq_true rfl, Nat.le_of_ble_eq_true rfl⟩ [.int (Ii p2)] mv_X4_257 hd_X4_finishv kC_219 rfl rfl rfl (Nat.le_of_ble_eq_true rfl) dX4_jump_72 ⟨p2, rfl, gp2, hF⟩ (fun M41 qM41 => ?_)
    have hF := qM41
    refine j_iload_n hJ dX4_jump_75 rfl 2 rfl ?_
    refine j_iconst hJ dX4_jump_76 ?_
    refine j_iadd hJ dX4_jump_77 ?_
    have g42 := hF.1; have hF := hF.2
    exact j_iret hJ rfl g42 dX4_jump_78 hF
  have z43 : ¬ p1 = 33 ∧ ¬ p1 = 34 ∧ ¬ p1 = 35 ∧ ¬ p1 = 36 ∧ ¬ p1 = 37 ∧ ¬ p1 = 38 ∧ ¬ p1 = 39 := ⟨z1, z4, z7, z22, z25, z36, z39⟩
  have hF := hF.2.2.2.2.2.2.2 z43
  refine j_tabOut hJ 162 gp1 dX4_jump_1 (by omega) (by decide) ?_
  refine j_aload_n hJ dX4_jump_162 rfl 0 rfl ?_
  refine j_iload_n hJ dX4_jump_163 rfl 1 rfl ?_
  refine j_callVv hJ (c_X4_addRow (l := l) (D := D) (cy := cy) (ad := ad) hin) rfl om_337 ⟨rfl, rfl, Nat.le_of_ble_eq_true rfl, Nat.le_of_ble_eq_true rfl⟩ [.int (Ii p1)] mv_X4_263 hd_X4_addRowv kC_219 rfl rfl rfl (Nat.le_of_ble_eq_true rfl) dX4_jump_164 ⟨p1, rfl, gp1, hF⟩ (fun M45 qM45 => ?_)
  have hF := qM45
  refine j_aload_n hJ dX4_jump_167 rfl 0 rfl ?_
  obtain ⟨c46, ec46, hc46, hF⟩ := hF
  refine j_gq hJ kC_219 fC_7_2 rfl fl_X4_75 dX4_jump_168 ec46 ?_
  refine j_gr (e := (c46 + 3)) hJ (kG_0 hc46) fC_9_3 fl_X4_260 dX4_jump_171 rfl ?_
  refine j_iload_n hJ dX4_jump_174 rfl 2 rfl ?_
  refine j_iald hJ gp2 (kG_3 hc46) hF.1 hF.2.1 dX4_jump_175 (fun v47 ev47 gv47 => ?_)
  have hF := hF.2.2 v47 ev47 gv47
  exact j_iret hJ rfl gv47 dX4_jump_176 hF
def W_X4_classesNamed (ad : Nat → Nat) (Q : Int → MM → Prop) (av : List Value) (M : MM) : Prop := ∃ (p1 : Int) (p2 : Int), av = [.ref (ad 219), .long (Ll p1), .int (Ii p2)] ∧ rl_ p1 ∧ (p2 = 0 ∨ p2 = 1) ∧ w_X4_classesNamed  Q p1 p2 M
set_option maxHeartbeats 4000000 in
set_option maxRecDepth 100000 in
theorem k_X4_classesNamed_b62 {l : Launch} {D : va_G} {cy : Nat → ClassId} {ad : Nat → Nat} {Q : Int → MM → Prop} {J : Nat → List (Nat × Value) → List Value → MM → Prop} (hin : jIn ad ksC.length)   (hJ : jOk l D vwCl (tyC cy) cy ad ftC ksC (XtC ad) Om RX4 cX4_classesNamed 6 1 ({ frames := 2, cells := 0, slots := 0, locals := 45 } : Room) Q J) {K6 : Int → Int → Int → Int → MM → Prop} (hK6 : ∀ (x1 x3 x4 x5 : Int) (M : MM), rl_ x1 → ri_ x3 → ri_ x4 → ri_ x5 → K6 x1 x3 x4 x5 M → J 6 [(0, .ref (ad 219)), (1, .long (Ll x1)), (3, .int (Ii x3)), (4, .int (Ii x4)), (5, .int (Ii x5))] [] M) : ∀ (x1 x3 x4 x5 : Int) (M : MM), rl_ x1 → ri_ x3 → ri_ x4 → ri_ x5 → w_X4_classesNamed_b62  Q K6 x1 x3 x4 x5 M → J 62 [(0, .ref (ad 219)), (1, .long (Ll x1)), (3, .int (Ii x3)), (4, .int (Ii x4)), (5, .int (Ii x5))] [] M := by
  intro x1 x3 x4 x5 M gx1 gx3 gx4 gx5 hF
  unfold w_X4_classesNamed_b62 at hF
  refine j_iinc (lv' := [(5, .int (Ii (x5 + 1))), (0, .ref (ad 219)), (1, .long (Ll x1)), (3, .int (Ii x3)), (4, .int (Ii x4))]) (k := 4) hJ dX4_classesNamed_62 rfl (by decide) rfl ?_
  have g1 := hF.1; have hF := hF.2
  refine j_goto hJ 6 dX4_classesNamed_65 (by decide) ?_
  exact j_sub hJ [1, 2, 3, 4, 0] rfl (hK6 x1 x3 x4 (x5 + 1) _ gx1 gx3 gx4 g1 hF)
set_option maxHeartbeats 4000000 in
set_option maxRecDepth 100000 in
theorem k_X4_classesNamed_b53 {l : Launch} {D : va_G} {cy : Nat → ClassId} {ad : Nat → Nat} {Q : Int → MM → Prop} {J : Nat → List (Nat × Value) → List Value → MM → Prop} (hin : jIn ad ksC.length)   (hJ : jOk l D vwCl (tyC cy) cy ad ftC ksC (XtC ad) Om RX4 cX4_classesNamed 6 1 ({ frames := 2, cells := 0, slots := 0, locals := 45 } : Room) Q J) {K6 : Int → Int → Int → Int → MM → Prop} (hK6 : ∀ (x1 x3 x4 x5 : Int) (M : MM), rl_ x1 → ri_ x3 → ri_ x4 → ri_ x5 → K6 x1 x3 x4 x5 M → J 6 [(0, .ref (ad 219)), (1, .long (Ll x1)), (3, .int (Ii x3)), (4, .int (Ii x4)), (5, .int (Ii x5))] [] M) : ∀ (x1 x3 x4 x5 : Int) (M : MM), rl_ x1 → ri_ x3 → ri_ x4 → ri_ x5 → w_X4_classesNamed_b53  Q K6 x1 x3 x4 x5 M → J 53 [(0, .ref (ad 219)), (1, .long (Ll x1)), (3, .int (Ii x3)), (4, .int (Ii x4)), (5, .int (Ii x5))] [] M := by
  intro x1 x3 x4 x5 M gx1 gx3 gx4 gx5 hF
  unfold w_X4_classesNamed_b53 at hF
  refine j_iload hJ dX4_classesNamed_53 3 rfl ?_
  refine j_iconst hJ dX4_classesNamed_55 ?_
  refine j_iload hJ dX4_classesNamed_56 4 rfl ?_
  refine j_ishl hJ dX4_classesNamed_58 ?_
  refine j_ior hJ dX4_classesNamed_59 ?_
  refine j_istore (lv' := [(4, .int (Ii (jor x4 (jshl 1 x5)))), (0, .ref (ad 219)), (1, .long (Ll x1)), (3, .int (Ii x3)), (5, .int (Ii x5))]) hJ dX4_classesNamed_60 (by decide) rfl ?_
  exact j_sub hJ [1, 2, 3, 0, 4] rfl (k_X4_classesNamed_b62 hin  hJ hK6 x1 x3 (jor x4 (jshl 1 x5)) x5 _ gx1 gx3 (ri_of _) gx5 hF)
set_option maxHeartbeats 4000000 in
set_option maxRecDepth 100000 in
theorem k_X4_classesNamed_b6 {l : Launch} {D : va_G} {cy : Nat → ClassId} {ad : Nat → Nat} {Q : Int → MM → Prop} {J : Nat → List (Nat × Value) → List Value → MM → Prop} (hin : jIn ad ksC.length)   (hJ : jOk l D vwCl (tyC cy) cy ad ftC ksC (XtC ad) Om RX4 cX4_classesNamed 6 1 ({ frames := 2, cells := 0, slots := 0, locals := 45 } : Room) Q J)  : ∀ (x1 x3 x4 x5 : Int) (M : MM), rl_ x1 → ri_ x3 → ri_ x4 → ri_ x5 → w_X4_classesNamed_b6  Q  x1 x3 x4 x5 M → J 6 [(0, .ref (ad 219)), (1, .long (Ll x1)), (3, .int (Ii x3)), (4, .int (Ii x4)), (5, .int (Ii x5))] [] M := by
  have H9 : ∀ (n : Nat) (x1 x3 x4 x5 : Int) (M : MM), rl_ x1 → ri_ x3 → ri_ x4 → ri_ x5 → jit (fun _ _ _ _ _ => False) (wb_X4_classesNamed_b6  Q ) n x1 x3 x4 x5 M → J 6 [(0, .ref (ad 219)), (1, .long (Ll x1)), (3, .int (Ii x3)), (4, .int (Ii x4)), (5, .int (Ii x5))] [] M := by
    intro n
    induction n with
    | zero => intro x1 x3 x4 x5 M gx1 gx3 gx4 gx5 hF; exact False.elim hF
    | succ n ih =>
    intro x1 x3 x4 x5 M gx1 gx3 gx4 gx5 hF
    have hF : wb_X4_classesNamed_b6  Q  (jit (fun _ _ _ _ _ => False) (wb_X4_classesNamed_b6  Q ) n) x1 x3 x4 x5 M := hF
    unfold wb_X4_classesNamed_b6 at hF
    refine j_iload hJ dX4_classesNamed_6 4 rfl ?_
    refine j_aload_n hJ dX4_classesNamed_8 rfl 0 rfl ?_
    refine j_ga hJ kC_219 fC_7_0 fl_X4_11 dX4_classesNamed_9 ?_
    refine j_gi hJ kC_8 fC_13_0 rfl fl_X4_230 dX4_classesNamed_12 (fun v1 ev1 gv1 => ?_)
    have hF := hF v1 ev1 gv1
    refine j_icmp_ge hJ 68 gx5 gv1 dX4_classesNamed_15 (by decide) (fun z2 => ?_) (fun z2 => ?_)
    · have hF := hF.1 z2
      refine j_iload hJ dX4_classesNamed_68 3 rfl ?_
      exact j_iret hJ rfl gx4 dX4_classesNamed_70 hF
    · have hF := hF.2 z2
      refine j_iload_n hJ dX4_classesNamed_18 rfl 2 rfl ?_
      refine j_if_eq hJ 40 gx3 dX4_classesNamed_19 (by decide) (fun z3 => ?_) (fun z3 => ?_)
      · have hF := hF.1 z3
        refine j_aload_n hJ dX4_classesNamed_40 rfl 0 rfl ?_
        refine j_ga hJ kC_219 fC_7_0 fl_X4_11 dX4_classesNamed_41 ?_
        refine j_iload hJ dX4_classesNamed_44 4 rfl ?_
        refine j_lload_n hJ dX4_classesNamed_46 rfl 1 rfl ?_
        refine j_callVz hJ (c_X10_isNamed (l := l) (D := D) (cy := cy) (ad := ad) hin) rfl om_151 ⟨rfl, rfl, Nat.le_of_ble_eq_true rfl, Nat.le_of_ble_eq_true rfl⟩ [.int (Ii x5), .long (Ll x1)] mv_X4_180 hd_X10_isNamedv kC_8 rfl rfl rfl (Nat.le_of_ble_eq_true rfl) dX4_classesNamed_47 ⟨x5, x1, rfl, gx5, gx1, hF⟩ (fun r4 M5 gr4 qM5 => ?_)
        have hF := qM5 gr4
        refine j_if_eq hJ 62 (jz_ri gr4) dX4_classesNamed_50 (by decide) (fun z6 => ?_) (fun z6 => ?_)
        · have hF := hF.1 z6
          exact j_sub hJ [0, 1, 2, 3, 4] rfl (k_X4_classesNamed_b62 hin  hJ ih x1 x3 x4 x5 _ gx1 gx3 gx4 gx5 hF)
        · have hF := hF.2 z6
          exact j_sub hJ [0, 1, 2, 3, 4] rfl (k_X4_classesNamed_b53 hin  hJ ih x1 x3 x4 x5 _ gx1 gx3 gx4 gx5 hF)
      · have hF := hF.2 z3
        refine j_aload_n hJ dX4_classesNamed_22 rfl 0 rfl ?_
        refine j_ga hJ kC_219 fC_7_0 fl_X4_11 dX4_classesNamed_23 ?_
        refine j_gr (e := 9) hJ kC_8 fC_13_1 fl_X4_233 dX4_classesNamed_26 rfl ?_
        refine j_iload hJ dX4_classesNamed_29 4 rfl ?_
        refine j_lald hJ gx5 kC_9 hF.1 hF.2.1 dX4_classesNamed_31 (fun v7 ev7 gv7 => ?_)
        have hF := hF.2.2 v7 ev7 gv7
        refine j_lload_n hJ dX4_classesNamed_32 rfl 1 rfl ?_
        refine j_lcmp_ne hJ 62 gv7 gx1 dX4_classesNamed_33 dX4_classesNamed_34 (by decide) (fun z8 => ?_) (fun z8 => ?_)
        · have hF := hF.1 z8
          exact j_sub hJ [0, 1, 2, 3, 4] rfl (k_X4_classesNamed_b62 hin  hJ ih x1 x3 x4 x5 _ gx1 gx3 gx4 gx5 hF)
        · have hF := hF.2 z8
          refine j_goto hJ 53 dX4_classesNamed_37 (by decide) ?_
          exact j_sub hJ [0, 1, 2, 3, 4] rfl (k_X4_classesNamed_b53 hin  hJ ih x1 x3 x4 x5 _ gx1 gx3 gx4 gx5 hF)
  intro x1 x3 x4 x5 M gx1 gx3 gx4 gx5 hF
  obtain ⟨n, hF⟩ := hF
  exact H9 n x1 x3 x4 x5 M gx1 gx3 gx4 gx5 hF
set_option maxHeartbeats 4000000 in
set_option maxRecDepth 100000 in
theorem c_X4_classesNamed {l : Launch} {D : va_G} {cy : Nat → ClassId} {ad : Nat → Nat} (hin : jIn ad ksC.length) : jCN l D vwCl (tyC cy) cy ad ftC ksC (XtC ad) yX4_classesNamed (.code yX4_classesNamed cX4_classesNamed 6 (some .int) :: Om) ({ frames := 2, cells := 0, slots := 0, locals := 45 } : Room) 1 (W_X4_classesNamed ad) := by
  refine jCN_of (y := yX4_classesNamed) (cc := cX4_classesNamed) (nL := 6) (rk := 1) (rm := ({ frames := 2, cells := 0, slots := 0, locals := 45 } : Room)) (own := RX4) (tyC_ok cy) hin (XtC_ok ad) Om_good (by decide) rfl ?_
  intro Q av M hF
  obtain ⟨p1, p2, rfl, gp1, gp2, hF⟩ := hF
  refine ⟨Nat.le_of_ble_eq_true rfl, fun J hJ => ?_⟩
  show J 0 [(0, .ref (ad 219)), (1, .long (Ll p1)), (3, .int (Ii p2))] [] M
  unfold w_X4_classesNamed at hF
  refine j_iconst hJ dX4_classesNamed_0 ?_
  refine j_istore (lv' := [(4, .int (Ii 0)), (0, .ref (ad 219)), (1, .long (Ll p1)), (3, .int (Ii p2))]) hJ dX4_classesNamed_1 (by decide) rfl ?_
  refine j_iconst hJ dX4_classesNamed_3 ?_
  refine j_istore (lv' := [(5, .int (Ii 0)), (4, .int (Ii 0)), (0, .ref (ad 219)), (1, .long (Ll p1)), (3, .int (Ii p2))]) hJ dX4_classesNamed_4 (by decide) rfl ?_
  exact j_sub hJ [2, 3, 4, 1, 0] rfl (k_X4_classesNamed_b6 hin  hJ  p1 p2 0 0 _ gp1 (jz_ri gp2) rk_0 rk_0 hF)
def W_X4_beginFrom (ad : Nat → Nat) (Q : Int → MM → Prop) (av : List Value) (M : MM) : Prop := ∃ (p1 : Int) (p2 : Int) (p3 : Int), av = [.ref (ad 219), .int (Ii p1), .int (Ii p2), .int (Ii p3)] ∧ ri_ p1 ∧ ri_ p2 ∧ ri_ p3 ∧ w_X4_beginFrom  Q p1 p2 p3 M
set_option maxHeartbeats 4000000 in
set_option maxRecDepth 100000 in
theorem c_X4_beginFrom {l : Launch} {D : va_G} {cy : Nat → ClassId} {ad : Nat → Nat} (hin : jIn ad ksC.length) : jCN l D vwCl (tyC cy) cy ad ftC ksC (XtC ad) yX4_beginFrom (.code yX4_beginFrom cX4_beginFrom 4 none :: Om) ({ frames := 1, cells := 0, slots := 0, locals := 22 } : Room) 0 (W_X4_beginFrom ad) := by
  refine jCN_of (y := yX4_beginFrom) (cc := cX4_beginFrom) (nL := 4) (rk := 0) (rm := ({ frames := 1, cells := 0, slots := 0, locals := 22 } : Room)) (own := RX4) (tyC_ok cy) hin (XtC_ok ad) Om_good (by decide) rfl ?_
  intro Q av M hF
  obtain ⟨p1, p2, p3, rfl, gp1, gp2, gp3, hF⟩ := hF
  refine ⟨Nat.le_of_ble_eq_true rfl, fun J hJ => ?_⟩
  show J 0 [(0, .ref (ad 219)), (1, .int (Ii p1)), (2, .int (Ii p2)), (3, .int (Ii p3))] [] M
  unfold w_X4_beginFrom at hF
  refine j_iload_n hJ dX4_beginFrom_0 rfl 1 rfl ?_
  refine j_bipush hJ dX4_beginFrom_1 (by decide) ?_
  refine j_icmp_ne hJ 41 gp1 rk_30 dX4_beginFrom_3 (by decide) (fun z1 => ?_) (fun z1 => ?_)
  · have hF := hF.1 z1
    refine j_iload_n hJ dX4_beginFrom_41 rfl 1 rfl ?_
    refine j_bipush hJ dX4_beginFrom_42 (by decide) ?_
    refine j_icmp_ne hJ 88 gp1 rk_31 dX4_beginFrom_44 (by decide) (fun z2 => ?_) (fun z2 => ?_)
    · have hF := hF.1 z2
      refine j_aload_n hJ dX4_beginFrom_88 rfl 0 rfl ?_
      refine j_gr (e := 231) hJ kC_219 fC_7_16 fl_X4_55 dX4_beginFrom_89 rfl ?_
      refine j_iload_n hJ dX4_beginFrom_92 rfl 2 rfl ?_
      refine j_dup2_11 hJ dX4_beginFrom_93 rfl rfl ?_
      refine j_iald hJ gp2 kC_231 hF.1 hF.2.1 dX4_beginFrom_94 (fun v3 ev3 gv3 => ?_)
      have hF := hF.2.2 v3 ev3 gv3
      refine j_iconst hJ dX4_beginFrom_95 ?_
      refine j_iadd hJ dX4_beginFrom_96 ?_
      have g4 := hF.1; have hF := hF.2
      refine j_iast hJ gp2 g4 kC_231 hF.1 hF.2.1 dX4_beginFrom_97 (fun M5 eM5 => ?_)
      have hF := hF.2.2 M5 eM5
      refine j_aload_n hJ dX4_beginFrom_98 rfl 0 rfl ?_
      refine j_gr (e := 223) hJ kC_219 fC_7_8 fl_X4_30 dX4_beginFrom_99 rfl ?_
      refine j_iload_n hJ dX4_beginFrom_102 rfl 2 rfl ?_
      refine j_iconst hJ dX4_beginFrom_103 ?_
      refine j_iast hJ gp2 rk_0 kC_223 hF.1 hF.2.1 dX4_beginFrom_104 (fun M6 eM6 => ?_)
      have hF := hF.2.2 M6 eM6
      refine j_aload_n hJ dX4_beginFrom_105 rfl 0 rfl ?_
      refine j_iload_n hJ dX4_beginFrom_106 rfl 2 rfl ?_
      refine j_iload_n hJ dX4_beginFrom_107 rfl 3 rfl ?_
      refine j_callVv hJ (c_X4_addReached (l := l) (D := D) (cy := cy) (ad := ad) hin) rfl om_308 ⟨rfl, rfl, Nat.le_of_ble_eq_true rfl, Nat.le_of_ble_eq_true rfl⟩ [.int (Ii p2), .int (Ii p3)] mv_X4_239 hd_X4_addReachedv kC_219 rfl rfl rfl (Nat.le_of_ble_eq_true rfl) dX4_beginFrom_108 ⟨p2, p3, rfl, gp2, gp3, hF⟩ (fun M8 qM8 => ?_)
      have hF := qM8
      exact j_vret hJ rfl dX4_beginFrom_111 hF
    · have hF := hF.2 z2
      refine j_aload_n hJ dX4_beginFrom_47 rfl 0 rfl ?_
      refine j_gr (e := 224) hJ kC_219 fC_7_9 fl_X4_33 dX4_beginFrom_48 rfl ?_
      refine j_iload_n hJ dX4_beginFrom_51 rfl 2 rfl ?_
      refine j_aload_n hJ dX4_beginFrom_52 rfl 0 rfl ?_
      obtain ⟨c9, ec9, hc9, hF⟩ := hF
      refine j_gq hJ kC_219 fC_7_1 rfl fl_X4_79 dX4_beginFrom_53 ec9 ?_
      refine j_gr (e := (c9 + 18)) hJ (kP_0 hc9) fC_8_20 fl_X4_90 dX4_beginFrom_56 rfl ?_
      refine j_gr (e := (c9 + 19)) hJ (kP_18 hc9) fC_11_2 fl_X4_236 dX4_beginFrom_59 rfl ?_
      refine j_iload_n hJ dX4_beginFrom_62 rfl 3 rfl ?_
      refine j_iald hJ gp3 (kP_19 hc9) hF.1 hF.2.1 dX4_beginFrom_63 (fun v10 ev10 gv10 => ?_)
      have hF := hF.2.2 v10 ev10 gv10
      refine j_iast hJ gp2 gv10 kC_224 hF.1 hF.2.1 dX4_beginFrom_64 (fun M11 eM11 => ?_)
      have hF := hF.2.2 M11 eM11
      refine j_aload_n hJ dX4_beginFrom_65 rfl 0 rfl ?_
      refine j_gr (e := 225) hJ kC_219 fC_7_10 fl_X4_36 dX4_beginFrom_66 rfl ?_
      refine j_iload_n hJ dX4_beginFrom_69 rfl 2 rfl ?_
      refine j_aload_n hJ dX4_beginFrom_70 rfl 0 rfl ?_
      obtain ⟨c12, ec12, hc12, hF⟩ := hF
      refine j_gq hJ kC_219 fC_7_1 rfl fl_X4_79 dX4_beginFrom_71 ec12 ?_
      refine j_gr (e := (c12 + 18)) hJ (kP_0 hc12) fC_8_20 fl_X4_90 dX4_beginFrom_74 rfl ?_
      refine j_gr (e := (c12 + 19)) hJ (kP_18 hc12) fC_11_2 fl_X4_236 dX4_beginFrom_77 rfl ?_
      refine j_iload_n hJ dX4_beginFrom_80 rfl 3 rfl ?_
      refine j_iconst hJ dX4_beginFrom_81 ?_
      refine j_iadd hJ dX4_beginFrom_82 ?_
      have g13 := hF.1; have hF := hF.2
      refine j_iald hJ g13 (kP_19 hc12) hF.1 hF.2.1 dX4_beginFrom_83 (fun v14 ev14 gv14 => ?_)
      have hF := hF.2.2 v14 ev14 gv14
      refine j_iast hJ gp2 gv14 kC_225 hF.1 hF.2.1 dX4_beginFrom_84 (fun M15 eM15 => ?_)
      have hF := hF.2.2 M15 eM15
      refine j_goto hJ 111 dX4_beginFrom_85 (by decide) ?_
      exact j_vret hJ rfl dX4_beginFrom_111 hF
  · have hF := hF.2 z1
    refine j_aload_n hJ dX4_beginFrom_6 rfl 0 rfl ?_
    refine j_gr (e := 224) hJ kC_219 fC_7_9 fl_X4_33 dX4_beginFrom_7 rfl ?_
    refine j_iload_n hJ dX4_beginFrom_10 rfl 2 rfl ?_
    refine j_aload_n hJ dX4_beginFrom_11 rfl 0 rfl ?_
    obtain ⟨c16, ec16, hc16, hF⟩ := hF
    refine j_gq hJ kC_219 fC_7_1 rfl fl_X4_79 dX4_beginFrom_12 ec16 ?_
    refine j_gr (e := (c16 + 4)) hJ (kP_0 hc16) fC_8_4 fl_X4_191 dX4_beginFrom_15 rfl ?_
    refine j_iload_n hJ dX4_beginFrom_18 rfl 3 rfl ?_
    refine j_iald hJ gp3 (kP_4 hc16) hF.1 hF.2.1 dX4_beginFrom_19 (fun v17 ev17 gv17 => ?_)
    have hF := hF.2.2 v17 ev17 gv17
    refine j_iast hJ gp2 gv17 kC_224 hF.1 hF.2.1 dX4_beginFrom_20 (fun M18 eM18 => ?_)
    have hF := hF.2.2 M18 eM18
    refine j_aload_n hJ dX4_beginFrom_21 rfl 0 rfl ?_
    refine j_gr (e := 225) hJ kC_219 fC_7_10 fl_X4_36 dX4_beginFrom_22 rfl ?_
    refine j_iload_n hJ dX4_beginFrom_25 rfl 2 rfl ?_
    refine j_aload_n hJ dX4_beginFrom_26 rfl 0 rfl ?_
    obtain ⟨c19, ec19, hc19, hF⟩ := hF
    refine j_gq hJ kC_219 fC_7_1 rfl fl_X4_79 dX4_beginFrom_27 ec19 ?_
    refine j_gr (e := (c19 + 4)) hJ (kP_0 hc19) fC_8_4 fl_X4_191 dX4_beginFrom_30 rfl ?_
    refine j_iload_n hJ dX4_beginFrom_33 rfl 3 rfl ?_
    refine j_iconst hJ dX4_beginFrom_34 ?_
    refine j_iadd hJ dX4_beginFrom_35 ?_
    have g20 := hF.1; have hF := hF.2
    refine j_iald hJ g20 (kP_4 hc19) hF.1 hF.2.1 dX4_beginFrom_36 (fun v21 ev21 gv21 => ?_)
    have hF := hF.2.2 v21 ev21 gv21
    refine j_iast hJ gp2 gv21 kC_225 hF.1 hF.2.1 dX4_beginFrom_37 (fun M22 eM22 => ?_)
    have hF := hF.2.2 M22 eM22
    refine j_goto hJ 111 dX4_beginFrom_38 (by decide) ?_
    exact j_vret hJ rfl dX4_beginFrom_111 hF
def W_X4_beginSet (ad : Nat → Nat) (Q : Int → MM → Prop) (av : List Value) (M : MM) : Prop := ∃ (p1 : Int) (p2 : Int), av = [.ref (ad 219), .int (Ii p1), .int (Ii p2)] ∧ ri_ p1 ∧ ri_ p2 ∧ w_X4_beginSet  Q p1 p2 M
set_option maxHeartbeats 4000000 in
set_option maxRecDepth 100000 in
theorem k_X4_beginSet_b75 {l : Launch} {D : va_G} {cy : Nat → ClassId} {ad : Nat → Nat} {Q : Int → MM → Prop} {J : Nat → List (Nat × Value) → List Value → MM → Prop} (hin : jIn ad ksC.length)   (hJ : jOk l D vwCl (tyC cy) cy ad ftC ksC (XtC ad) Om RX4 cX4_beginSet 4 0 ({ frames := 3, cells := 0, slots := 0, locals := 70 } : Room) Q J)  : ∀ (s0 s1 s3 : Int) (M : MM), ri_ s0 → rl_ s1 → ri_ s3 → w_X4_beginSet_b75  Q  s0 s1 s3 M → J 75 [] [.int (Ii s0), .long (Ll s1), .ref (ad 219), .int (Ii s3), .ref (ad 223)] M := by
  intro s0 s1 s3 M gs0 gs1 gs3 hF
  unfold w_X4_beginSet_b75 at hF
  refine j_callVi hJ (c_X4_classesNamed (l := l) (D := D) (cy := cy) (ad := ad) hin) rfl om_346 ⟨rfl, rfl, Nat.le_of_ble_eq_true rfl, Nat.le_of_ble_eq_true rfl⟩ [.long (Ll s1), .int (Ii s0)] mv_X4_217 hd_X4_classesNamedv kC_219 rfl rfl rfl (Nat.le_of_ble_eq_true rfl) dX4_beginSet_75 ⟨s1, s0, rfl, gs1, hF.1, hF.2⟩ (fun r1 M2 gr1 qM2 => ?_)
  have hF := qM2 gr1
  refine j_iast hJ gs3 gr1 kC_223 hF.1 hF.2.1 dX4_beginSet_78 (fun M3 eM3 => ?_)
  have hF := hF.2.2 M3 eM3
  refine j_goto hJ 138 dX4_beginSet_79 (by decide) ?_
  exact j_vret hJ rfl dX4_beginSet_138 hF
set_option maxHeartbeats 4000000 in
set_option maxRecDepth 100000 in
theorem k_X4_beginSet_b49 {l : Launch} {D : va_G} {cy : Nat → ClassId} {ad : Nat → Nat} {Q : Int → MM → Prop} {J : Nat → List (Nat × Value) → List Value → MM → Prop} (hin : jIn ad ksC.length)   (hJ : jOk l D vwCl (tyC cy) cy ad ftC ksC (XtC ad) Om RX4 cX4_beginSet 4 0 ({ frames := 3, cells := 0, slots := 0, locals := 70 } : Room) Q J)  : ∀ (x1 x2 x3 : Int) (M : MM), ri_ x1 → ri_ x2 → ri_ x3 → w_X4_beginSet_b49  Q  x1 x2 x3 M → J 49 [(0, .ref (ad 219)), (1, .int (Ii x1)), (2, .int (Ii x2)), (3, .int (Ii x3))] [] M := by
  intro x1 x2 x3 M gx1 gx2 gx3 hF
  unfold w_X4_beginSet_b49 at hF
  refine j_aload_n hJ dX4_beginSet_49 rfl 0 rfl ?_
  refine j_gr (e := 223) hJ kC_219 fC_7_8 fl_X4_30 dX4_beginSet_50 rfl ?_
  refine j_iload_n hJ dX4_beginSet_53 rfl 3 rfl ?_
  refine j_aload_n hJ dX4_beginSet_54 rfl 0 rfl ?_
  refine j_aload_n hJ dX4_beginSet_55 rfl 0 rfl ?_
  obtain ⟨c1, ec1, hc1, hF⟩ := hF
  refine j_gq hJ kC_219 fC_7_2 rfl fl_X4_75 dX4_beginSet_56 ec1 ?_
  refine j_gr (e := (c1 + 4)) hJ (kG_0 hc1) fC_9_4 fl_X4_121 dX4_beginSet_59 rfl ?_
  refine j_iload_n hJ dX4_beginSet_62 rfl 2 rfl ?_
  refine j_lald hJ gx2 (kG_4 hc1) hF.1 hF.2.1 dX4_beginSet_63 (fun v2 ev2 gv2 => ?_)
  have hF := hF.2.2 v2 ev2 gv2
  refine j_iload_n hJ dX4_beginSet_64 rfl 1 rfl ?_
  refine j_bipush hJ dX4_beginSet_65 (by decide) ?_
  refine j_icmp_ne hJ 74 gx1 rk_28 dX4_beginSet_67 (by decide) (fun z3 => ?_) (fun z3 => ?_)
  · have hF := hF.1 z3
    refine j_iconst hJ dX4_beginSet_74 ?_
    exact j_sub hJ [] rfl (k_X4_beginSet_b75 hin  hJ  0 v2 x3 _ rk_0 gv2 gx3 hF)
  · have hF := hF.2 z3
    refine j_iconst hJ dX4_beginSet_70 ?_
    refine j_goto hJ 75 dX4_beginSet_71 (by decide) ?_
    exact j_sub hJ [] rfl (k_X4_beginSet_b75 hin  hJ  1 v2 x3 _ rk_1 gv2 gx3 hF)
set_option maxHeartbeats 4000000 in
set_option maxRecDepth 100000 in
theorem c_X4_beginSet {l : Launch} {D : va_G} {cy : Nat → ClassId} {ad : Nat → Nat} (hin : jIn ad ksC.length) : jCN l D vwCl (tyC cy) cy ad ftC ksC (XtC ad) yX4_beginSet (.code yX4_beginSet cX4_beginSet 4 none :: Om) ({ frames := 3, cells := 0, slots := 0, locals := 70 } : Room) 0 (W_X4_beginSet ad) := by
  refine jCN_of (y := yX4_beginSet) (cc := cX4_beginSet) (nL := 4) (rk := 0) (rm := ({ frames := 3, cells := 0, slots := 0, locals := 70 } : Room)) (own := RX4) (tyC_ok cy) hin (XtC_ok ad) Om_good (by decide) rfl ?_
  intro Q av M hF
  obtain ⟨p1, p2, rfl, gp1, gp2, hF⟩ := hF
  refine ⟨Nat.le_of_ble_eq_true rfl, fun J hJ => ?_⟩
  show J 0 [(0, .ref (ad 219)), (1, .int (Ii p1)), (2, .int (Ii p2))] [] M
  unfold w_X4_beginSet at hF
  refine j_aload_n hJ dX4_beginSet_0 rfl 0 rfl ?_
  obtain ⟨c1, ec1, hc1, hF⟩ := hF
  refine j_gq hJ kC_219 fC_7_2 rfl fl_X4_75 dX4_beginSet_1 ec1 ?_
  refine j_gr (e := (c1 + 2)) hJ (kG_0 hc1) fC_9_2 fl_X4_145 dX4_beginSet_4 rfl ?_
  refine j_iload_n hJ dX4_beginSet_7 rfl 2 rfl ?_
  refine j_iald hJ gp2 (kG_2 hc1) hF.1 hF.2.1 dX4_beginSet_8 (fun v2 ev2 gv2 => ?_)
  have hF := hF.2.2 v2 ev2 gv2
  refine j_istore_n (lv' := [(3, .int (Ii v2)), (0, .ref (ad 219)), (1, .int (Ii p1)), (2, .int (Ii p2))]) hJ dX4_beginSet_9 rfl (by decide) rfl ?_
  refine j_aload_n hJ dX4_beginSet_10 rfl 1 rfl ?_
  refine j_gr (e := 222) hJ kC_219 fC_7_7 fl_X4_27 dX4_beginSet_11 rfl ?_
  refine j_iload_n hJ dX4_beginSet_14 rfl 0 rfl ?_
  refine j_iload_n hJ dX4_beginSet_15 rfl 2 rfl ?_
  refine j_iast hJ gv2 gp1 kC_222 hF.1 hF.2.1 dX4_beginSet_16 (fun M3 eM3 => ?_)
  have hF := hF.2.2 M3 eM3
  refine j_aload_n hJ dX4_beginSet_17 rfl 1 rfl ?_
  refine j_gr (e := 224) hJ kC_219 fC_7_9 fl_X4_33 dX4_beginSet_18 rfl ?_
  refine j_iload_n hJ dX4_beginSet_21 rfl 0 rfl ?_
  refine j_iconst hJ dX4_beginSet_22 ?_
  refine j_iast hJ gv2 rk_0 kC_224 hF.1 hF.2.1 dX4_beginSet_23 (fun M4 eM4 => ?_)
  have hF := hF.2.2 M4 eM4
  refine j_aload_n hJ dX4_beginSet_24 rfl 1 rfl ?_
  refine j_gr (e := 225) hJ kC_219 fC_7_10 fl_X4_36 dX4_beginSet_25 rfl ?_
  refine j_iload_n hJ dX4_beginSet_28 rfl 0 rfl ?_
  refine j_aload_n hJ dX4_beginSet_29 rfl 1 rfl ?_
  obtain ⟨c5, ec5, hc5, hF⟩ := hF
  refine j_gq hJ kC_219 fC_7_1 rfl fl_X4_79 dX4_beginSet_30 ec5 ?_
  refine j_gi hJ (kP_0 hc5) fC_8_0 rfl fl_X4_142 dX4_beginSet_33 (fun v6 ev6 gv6 => ?_)
  have hF := hF v6 ev6 gv6
  refine j_iast hJ gv2 gv6 kC_225 hF.1 hF.2.1 dX4_beginSet_36 (fun M7 eM7 => ?_)
  have hF := hF.2.2 M7 eM7
  refine j_iload_n hJ dX4_beginSet_37 rfl 2 rfl ?_
  refine j_bipush hJ dX4_beginSet_38 (by decide) ?_
  refine j_icmp_eq hJ 49 gp1 rk_27 dX4_beginSet_40 (by decide) (fun z8 => ?_) (fun z8 => ?_)
  · have hF := hF.1 z8
    exact j_sub hJ [1, 2, 3, 0] rfl (k_X4_beginSet_b49 hin  hJ  p1 p2 v2 _ gp1 gp2 gv2 hF)
  · have hF := hF.2 z8
    refine j_iload_n hJ dX4_beginSet_43 rfl 2 rfl ?_
    refine j_bipush hJ dX4_beginSet_44 (by decide) ?_
    refine j_icmp_ne hJ 82 gp1 rk_28 dX4_beginSet_46 (by decide) (fun z9 => ?_) (fun z9 => ?_)
    · have hF := hF.1 z9
      refine j_iload_n hJ dX4_beginSet_82 rfl 2 rfl ?_
      refine j_bipush hJ dX4_beginSet_83 (by decide) ?_
      refine j_icmp_eq hJ 138 gp1 rk_29 dX4_beginSet_85 (by decide) (fun z10 => ?_) (fun z10 => ?_)
      · have hF := hF.1 z10
        exact j_vret hJ rfl dX4_beginSet_138 hF
      · have hF := hF.2 z10
        refine j_aload_n hJ dX4_beginSet_88 rfl 1 rfl ?_
        refine j_iconst hJ dX4_beginSet_89 ?_
        refine j_aload_n hJ dX4_beginSet_90 rfl 1 rfl ?_
        refine j_gi hJ kC_219 fC_7_6 rfl fl_X4_67 dX4_beginSet_91 (fun v11 ev11 gv11 => ?_)
        have hF := hF v11 ev11 gv11
        refine j_iconst hJ dX4_beginSet_94 ?_
        refine j_isub hJ dX4_beginSet_95 ?_
        have g12 := hF.1; have hF := hF.2
        refine j_mmax hJ rk_0 g12 ⟨om_320, om_126, om_12, om_127⟩ ⟨Nat.le_of_ble_eq_true rfl, Nat.le_of_ble_eq_true rfl⟩ dX4_beginSet_96 ?_
        refine j_pi hJ (ri_max rk_0 g12) kC_219 fC_7_6 rfl fp_X4_67 dX4_beginSet_99 (fun M13 eM13 => ?_)
        have hF := hF M13 eM13
        refine j_aload_n hJ dX4_beginSet_102 rfl 1 rfl ?_
        refine j_gr (e := 225) hJ kC_219 fC_7_10 fl_X4_36 dX4_beginSet_103 rfl ?_
        refine j_iload_n hJ dX4_beginSet_106 rfl 0 rfl ?_
        refine j_iconst hJ dX4_beginSet_107 ?_
        refine j_iast hJ gv2 rk_0 kC_225 hF.1 hF.2.1 dX4_beginSet_108 (fun M14 eM14 => ?_)
        have hF := hF.2.2 M14 eM14
        refine j_aload_n hJ dX4_beginSet_109 rfl 1 rfl ?_
        refine j_gr (e := 220) hJ kC_219 fC_7_4 fl_X4_19 dX4_beginSet_110 rfl ?_
        refine j_aload_n hJ dX4_beginSet_113 rfl 1 rfl ?_
        refine j_gi hJ kC_219 fC_7_6 rfl fl_X4_67 dX4_beginSet_114 (fun v15 ev15 gv15 => ?_)
        have hF := hF v15 ev15 gv15
        refine j_iald hJ gv15 kC_220 hF.1 hF.2.1 dX4_beginSet_117 (fun v16 ev16 gv16 => ?_)
        have hF := hF.2.2 v16 ev16 gv16
        refine j_iconst hJ dX4_beginSet_118 ?_
        refine j_icmp_ne hJ 138 gv16 rk_2 dX4_beginSet_119 (by decide) (fun z17 => ?_) (fun z17 => ?_)
        · have hF := hF.1 z17
          exact j_vret hJ rfl dX4_beginSet_138 hF
        · have hF := hF.2 z17
          refine j_aload_n hJ dX4_beginSet_122 rfl 1 rfl ?_
          refine j_iload_n hJ dX4_beginSet_123 rfl 2 rfl ?_
          refine j_iload_n hJ dX4_beginSet_124 rfl 0 rfl ?_
          refine j_aload_n hJ dX4_beginSet_125 rfl 1 rfl ?_
          refine j_gr (e := 221) hJ kC_219 fC_7_5 fl_X4_23 dX4_beginSet_126 rfl ?_
          refine j_aload_n hJ dX4_beginSet_129 rfl 1 rfl ?_
          refine j_gi hJ kC_219 fC_7_6 rfl fl_X4_67 dX4_beginSet_130 (fun v18 ev18 gv18 => ?_)
          have hF := hF v18 ev18 gv18
          refine j_lald hJ gv18 kC_221 hF.1 hF.2.1 dX4_beginSet_133 (fun v19 ev19 gv19 => ?_)
          have hF := hF.2.2 v19 ev19 gv19
          refine j_l2i hJ dX4_beginSet_134 ?_
          have g20 := hF.1; have hF := hF.2
          refine j_callVv hJ (c_X4_beginFrom (l := l) (D := D) (cy := cy) (ad := ad) hin) rfl om_350 ⟨rfl, rfl, Nat.le_of_ble_eq_true rfl, Nat.le_of_ble_eq_true rfl⟩ [.int (Ii p1), .int (Ii v2), .int (Ii v19)] mv_X4_226 hd_X4_beginFromv kC_219 rfl rfl rfl (Nat.le_of_ble_eq_true rfl) dX4_beginSet_135 ⟨p1, v2, v19, rfl, gp1, gv2, g20, hF⟩ (fun M22 qM22 => ?_)
          have hF := qM22
          exact j_vret hJ rfl dX4_beginSet_138 hF
    · have hF := hF.2 z9
      exact j_sub hJ [1, 2, 3, 0] rfl (k_X4_beginSet_b49 hin  hJ  p1 p2 v2 _ gp1 gp2 gv2 hF)
def W_X4_isLink (ad : Nat → Nat) (Q : Int → MM → Prop) (av : List Value) (M : MM) : Prop := ∃ (p1 : Int), av = [.int (Ii p1)] ∧ ri_ p1 ∧ w_X4_isLink  Q p1 M
set_option maxHeartbeats 4000000 in
set_option maxRecDepth 100000 in
theorem c_X4_isLink {l : Launch} {D : va_G} {cy : Nat → ClassId} {ad : Nat → Nat} (hin : jIn ad ksC.length) : jCN l D vwCl (tyC cy) cy ad ftC ksC (XtC ad) yX4_isLink (.code yX4_isLink cX4_isLink 1 (some .boolean) :: Om) ({ frames := 0, cells := 0, slots := 0, locals := 0 } : Room) 3 (W_X4_isLink ad) := by
  refine jCN_of (y := yX4_isLink) (cc := cX4_isLink) (nL := 1) (rk := 3) (rm := ({ frames := 0, cells := 0, slots := 0, locals := 0 } : Room)) (own := RX4) (tyC_ok cy) hin (XtC_ok ad) Om_good (by decide) rfl ?_
  intro Q av M hF
  obtain ⟨p1, rfl, gp1, hF⟩ := hF
  refine ⟨Nat.le_of_ble_eq_true rfl, fun J hJ => ?_⟩
  show J 0 [(0, .int (Ii p1))] [] M
  unfold w_X4_isLink at hF
  refine j_iload_n hJ dX4_isLink_0 rfl 0 rfl ?_
  refine j_iconst hJ dX4_isLink_1 ?_
  refine j_icmp_eq hJ 10 gp1 rk_2 dX4_isLink_2 (by decide) (fun z1 => ?_) (fun z1 => ?_)
  · have hF := hF.1 z1
    refine j_iconst hJ dX4_isLink_10 ?_
    refine j_goto hJ 15 dX4_isLink_11 (by decide) ?_
    exact j_zret hJ rfl (by decide) dX4_isLink_15 hF
  · have hF := hF.2 z1
    refine j_iload_n hJ dX4_isLink_5 rfl 0 rfl ?_
    refine j_iconst hJ dX4_isLink_6 ?_
    refine j_icmp_ne hJ 14 gp1 rk_3 dX4_isLink_7 (by decide) (fun z2 => ?_) (fun z2 => ?_)
    · have hF := hF.1 z2
      refine j_iconst hJ dX4_isLink_14 ?_
      exact j_zret hJ rfl (by decide) dX4_isLink_15 hF
    · have hF := hF.2 z2
      refine j_iconst hJ dX4_isLink_10 ?_
      refine j_goto hJ 15 dX4_isLink_11 (by decide) ?_
      exact j_zret hJ rfl (by decide) dX4_isLink_15 hF
def W_X4_compare (ad : Nat → Nat) (Q : Int → MM → Prop) (av : List Value) (M : MM) : Prop := ∃ (p1 : Int) (p2 : Int) (p3 : Int) (p4 : Int), av = [.ref (ad 219), .int (Ii p1), .int (Ii p2), .int (Ii p3), .int (Ii p4)] ∧ ri_ p1 ∧ ri_ p2 ∧ ri_ p3 ∧ (p4 = 0 ∨ p4 = 1) ∧ w_X4_compare  Q p1 p2 p3 p4 M
set_option maxHeartbeats 4000000 in
set_option maxRecDepth 100000 in
theorem k_X4_compare_b36 {l : Launch} {D : va_G} {cy : Nat → ClassId} {ad : Nat → Nat} {Q : Int → MM → Prop} {J : Nat → List (Nat × Value) → List Value → MM → Prop} (hin : jIn ad ksC.length)   (hJ : jOk l D vwCl (tyC cy) cy ad ftC ksC (XtC ad) Om RX4 cX4_compare 6 0 ({ frames := 2, cells := 0, slots := 0, locals := 44 } : Room) Q J)  : ∀ (M : MM), w_X4_compare_b36  Q   M → J 36 [(0, .ref (ad 219))] [] M := by
  intro  M  hF
  unfold w_X4_compare_b36 at hF
  refine j_aload_n hJ dX4_compare_36 rfl 0 rfl ?_
  refine j_iconst hJ dX4_compare_37 ?_
  refine j_lconst (x := 0) hJ dX4_compare_38 rfl ?_
  refine j_callVv hJ (c_X4_push (l := l) (D := D) (cy := cy) (ad := ad) hin) rfl om_291 ⟨rfl, rfl, Nat.le_of_ble_eq_true rfl, Nat.le_of_ble_eq_true rfl⟩ [.int (Ii 4), .long (Ll 0)] mv_X4_139 hd_X4_pushv kC_219 rfl rfl rfl (Nat.le_of_ble_eq_true rfl) dX4_compare_39 ⟨4, 0, rfl, rk_4, lkm_0, hF⟩ (fun M2 qM2 => ?_)
  have hF := qM2
  exact j_vret hJ rfl dX4_compare_42 hF
set_option maxHeartbeats 4000000 in
set_option maxRecDepth 100000 in
theorem k_X4_compare_b78 {l : Launch} {D : va_G} {cy : Nat → ClassId} {ad : Nat → Nat} {Q : Int → MM → Prop} {J : Nat → List (Nat × Value) → List Value → MM → Prop} (hin : jIn ad ksC.length)   (hJ : jOk l D vwCl (tyC cy) cy ad ftC ksC (XtC ad) Om RX4 cX4_compare 6 0 ({ frames := 2, cells := 0, slots := 0, locals := 44 } : Room) Q J)  : ∀ (s0 : Int) (M : MM), ri_ s0 → w_X4_compare_b78  Q  s0 M → J 78 [] [.int (Ii s0), .ref (ad 219)] M := by
  intro s0 M gs0 hF
  unfold w_X4_compare_b78 at hF
  refine j_callVv hJ (c_X4_pushTruth (l := l) (D := D) (cy := cy) (ad := ad) hin) rfl om_329 ⟨rfl, rfl, Nat.le_of_ble_eq_true rfl, Nat.le_of_ble_eq_true rfl⟩ [.int (Ii s0)] mv_X4_148 hd_X4_pushTruthv kC_219 rfl rfl rfl (Nat.le_of_ble_eq_true rfl) dX4_compare_78 ⟨s0, rfl, hF.1, hF.2⟩ (fun M2 qM2 => ?_)
  have hF := qM2
  exact j_vret hJ rfl dX4_compare_81 hF
set_option maxHeartbeats 4000000 in
set_option maxRecDepth 100000 in
theorem k_X4_compare_b70 {l : Launch} {D : va_G} {cy : Nat → ClassId} {ad : Nat → Nat} {Q : Int → MM → Prop} {J : Nat → List (Nat × Value) → List Value → MM → Prop} (hin : jIn ad ksC.length)   (hJ : jOk l D vwCl (tyC cy) cy ad ftC ksC (XtC ad) Om RX4 cX4_compare 6 0 ({ frames := 2, cells := 0, slots := 0, locals := 44 } : Room) Q J)  : ∀ (s0 s1 : Int) (M : MM), ri_ s0 → ri_ s1 → w_X4_compare_b70  Q  s0 s1 M → J 70 [] [.int (Ii s0), .int (Ii s1), .ref (ad 219)] M := by
  intro s0 s1 M gs0 gs1 hF
  unfold w_X4_compare_b70 at hF
  refine j_icmp_ne hJ 77 gs1 gs0 dX4_compare_70 (by decide) (fun z1 => ?_) (fun z1 => ?_)
  · have hF := hF.1 z1
    refine j_iconst hJ dX4_compare_77 ?_
    exact j_sub hJ [] rfl (k_X4_compare_b78 hin  hJ  0 _ rk_0 hF)
  · have hF := hF.2 z1
    refine j_iconst hJ dX4_compare_73 ?_
    refine j_goto hJ 78 dX4_compare_74 (by decide) ?_
    exact j_sub hJ [] rfl (k_X4_compare_b78 hin  hJ  1 _ rk_1 hF)
set_option maxHeartbeats 4000000 in
set_option maxRecDepth 100000 in
theorem k_X4_compare_b59 {l : Launch} {D : va_G} {cy : Nat → ClassId} {ad : Nat → Nat} {Q : Int → MM → Prop} {J : Nat → List (Nat × Value) → List Value → MM → Prop} (hin : jIn ad ksC.length)   (hJ : jOk l D vwCl (tyC cy) cy ad ftC ksC (XtC ad) Om RX4 cX4_compare 6 0 ({ frames := 2, cells := 0, slots := 0, locals := 44 } : Room) Q J)  : ∀ (x1 s0 : Int) (M : MM), ri_ x1 → ri_ s0 → w_X4_compare_b59  Q  x1 s0 M → J 59 [(1, .int (Ii x1))] [.int (Ii s0), .ref (ad 219)] M := by
  intro x1 s0 M gx1 gs0 hF
  unfold w_X4_compare_b59 at hF
  refine j_iload_n hJ dX4_compare_59 rfl 0 rfl ?_
  refine j_bipush hJ dX4_compare_60 (by decide) ?_
  refine j_icmp_ne hJ 69 gx1 rk_16 dX4_compare_62 (by decide) (fun z1 => ?_) (fun z1 => ?_)
  · have hF := hF.1 z1
    refine j_iconst hJ dX4_compare_69 ?_
    exact j_sub hJ [] rfl (k_X4_compare_b70 hin  hJ  0 s0 _ rk_0 gs0 hF)
  · have hF := hF.2 z1
    refine j_iconst hJ dX4_compare_65 ?_
    refine j_goto hJ 70 dX4_compare_66 (by decide) ?_
    exact j_sub hJ [] rfl (k_X4_compare_b70 hin  hJ  1 s0 _ rk_1 gs0 hF)
set_option maxHeartbeats 4000000 in
set_option maxRecDepth 100000 in
theorem k_X4_compare_b58 {l : Launch} {D : va_G} {cy : Nat → ClassId} {ad : Nat → Nat} {Q : Int → MM → Prop} {J : Nat → List (Nat × Value) → List Value → MM → Prop} (hin : jIn ad ksC.length)   (hJ : jOk l D vwCl (tyC cy) cy ad ftC ksC (XtC ad) Om RX4 cX4_compare 6 0 ({ frames := 2, cells := 0, slots := 0, locals := 44 } : Room) Q J)  : ∀ (x1 : Int) (M : MM), ri_ x1 → w_X4_compare_b58  Q  x1 M → J 58 [(1, .int (Ii x1))] [.ref (ad 219)] M := by
  intro x1 M gx1 hF
  unfold w_X4_compare_b58 at hF
  refine j_iconst hJ dX4_compare_58 ?_
  exact j_sub hJ [0] rfl (k_X4_compare_b59 hin  hJ  x1 0 _ gx1 rk_0 hF)
set_option maxHeartbeats 4000000 in
set_option maxRecDepth 100000 in
theorem k_X4_compare_b43 {l : Launch} {D : va_G} {cy : Nat → ClassId} {ad : Nat → Nat} {Q : Int → MM → Prop} {J : Nat → List (Nat × Value) → List Value → MM → Prop} (hin : jIn ad ksC.length)   (hJ : jOk l D vwCl (tyC cy) cy ad ftC ksC (XtC ad) Om RX4 cX4_compare 6 0 ({ frames := 2, cells := 0, slots := 0, locals := 44 } : Room) Q J)  : ∀ (x1 x2 x3 x4 : Int) (M : MM), ri_ x1 → ri_ x2 → ri_ x3 → ri_ x4 → w_X4_compare_b43  Q  x1 x2 x3 x4 M → J 43 [(0, .ref (ad 219)), (1, .int (Ii x1)), (2, .int (Ii x2)), (3, .int (Ii x3)), (4, .int (Ii x4))] [] M := by
  intro x1 x2 x3 x4 M gx1 gx2 gx3 gx4 hF
  unfold w_X4_compare_b43 at hF
  refine j_aload_n hJ dX4_compare_43 rfl 0 rfl ?_
  refine j_iload_n hJ dX4_compare_44 rfl 2 rfl ?_
  refine j_iload_n hJ dX4_compare_45 rfl 3 rfl ?_
  refine j_icmp_ne hJ 58 gx2 gx3 dX4_compare_46 (by decide) (fun z1 => ?_) (fun z1 => ?_)
  · have hF := hF.1 z1
    exact j_sub hJ [1] rfl (k_X4_compare_b58 hin  hJ  x1 _ gx1 hF)
  · have hF := hF.2 z1
    refine j_iload hJ dX4_compare_49 4 rfl ?_
    refine j_if_eq hJ 58 gx4 dX4_compare_51 (by decide) (fun z2 => ?_) (fun z2 => ?_)
    · have hF := hF.1 z2
      exact j_sub hJ [1] rfl (k_X4_compare_b58 hin  hJ  x1 _ gx1 hF)
    · have hF := hF.2 z2
      refine j_iconst hJ dX4_compare_54 ?_
      refine j_goto hJ 59 dX4_compare_55 (by decide) ?_
      exact j_sub hJ [1] rfl (k_X4_compare_b59 hin  hJ  x1 1 _ gx1 rk_1 hF)
set_option maxHeartbeats 4000000 in
set_option maxRecDepth 100000 in
theorem k_X4_compare_b19 {l : Launch} {D : va_G} {cy : Nat → ClassId} {ad : Nat → Nat} {Q : Int → MM → Prop} {J : Nat → List (Nat × Value) → List Value → MM → Prop} (hin : jIn ad ksC.length)   (hJ : jOk l D vwCl (tyC cy) cy ad ftC ksC (XtC ad) Om RX4 cX4_compare 6 0 ({ frames := 2, cells := 0, slots := 0, locals := 44 } : Room) Q J)  : ∀ (x1 x2 x3 x4 s0 : Int) (M : MM), ri_ x1 → ri_ x2 → ri_ x3 → ri_ x4 → ri_ s0 → w_X4_compare_b19  Q  x1 x2 x3 x4 s0 M → J 19 [(0, .ref (ad 219)), (1, .int (Ii x1)), (2, .int (Ii x2)), (3, .int (Ii x3)), (4, .int (Ii x4))] [.int (Ii s0)] M := by
  intro x1 x2 x3 x4 s0 M gx1 gx2 gx3 gx4 gs0 hF
  unfold w_X4_compare_b19 at hF
  refine j_istore (lv' := [(5, .int (Ii s0)), (0, .ref (ad 219)), (1, .int (Ii x1)), (2, .int (Ii x2)), (3, .int (Ii x3)), (4, .int (Ii x4))]) hJ dX4_compare_19 (by decide) rfl ?_
  refine j_iload_n hJ dX4_compare_21 rfl 3 rfl ?_
  refine j_iconst hJ dX4_compare_22 ?_
  refine j_icmp_eq hJ 36 gx2 rk_4 dX4_compare_23 (by decide) (fun z1 => ?_) (fun z1 => ?_)
  · have hF := hF.1 z1
    exact j_sub hJ [1] rfl (k_X4_compare_b36 hin  hJ   _  hF)
  · have hF := hF.2 z1
    refine j_iload_n hJ dX4_compare_26 rfl 3 rfl ?_
    refine j_iload_n hJ dX4_compare_27 rfl 4 rfl ?_
    refine j_icmp_eq hJ 43 gx2 gx3 dX4_compare_28 (by decide) (fun z2 => ?_) (fun z2 => ?_)
    · have hF := hF.1 z2
      exact j_sub hJ [1, 2, 3, 4, 5] rfl (k_X4_compare_b43 hin  hJ  x1 x2 x3 x4 _ gx1 gx2 gx3 gx4 hF)
    · have hF := hF.2 z2
      refine j_iload hJ dX4_compare_31 0 rfl ?_
      refine j_if_ne hJ 43 gs0 dX4_compare_33 (by decide) (fun z3 => ?_) (fun z3 => ?_)
      · have hF := hF.1 z3
        exact j_sub hJ [1, 2, 3, 4, 5] rfl (k_X4_compare_b43 hin  hJ  x1 x2 x3 x4 _ gx1 gx2 gx3 gx4 hF)
      · have hF := hF.2 z3
        exact j_sub hJ [1] rfl (k_X4_compare_b36 hin  hJ   _  hF)
set_option maxHeartbeats 4000000 in
set_option maxRecDepth 100000 in
theorem k_X4_compare_b18 {l : Launch} {D : va_G} {cy : Nat → ClassId} {ad : Nat → Nat} {Q : Int → MM → Prop} {J : Nat → List (Nat × Value) → List Value → MM → Prop} (hin : jIn ad ksC.length)   (hJ : jOk l D vwCl (tyC cy) cy ad ftC ksC (XtC ad) Om RX4 cX4_compare 6 0 ({ frames := 2, cells := 0, slots := 0, locals := 44 } : Room) Q J)  : ∀ (x1 x2 x3 x4 : Int) (M : MM), ri_ x1 → ri_ x2 → ri_ x3 → ri_ x4 → w_X4_compare_b18  Q  x1 x2 x3 x4 M → J 18 [(0, .ref (ad 219)), (1, .int (Ii x1)), (2, .int (Ii x2)), (3, .int (Ii x3)), (4, .int (Ii x4))] [] M := by
  intro x1 x2 x3 x4 M gx1 gx2 gx3 gx4 hF
  unfold w_X4_compare_b18 at hF
  refine j_iconst hJ dX4_compare_18 ?_
  exact j_sub hJ [0, 1, 2, 3, 4] rfl (k_X4_compare_b19 hin  hJ  x1 x2 x3 x4 0 _ gx1 gx2 gx3 gx4 rk_0 hF)
set_option maxHeartbeats 4000000 in
set_option maxRecDepth 100000 in
theorem c_X4_compare {l : Launch} {D : va_G} {cy : Nat → ClassId} {ad : Nat → Nat} (hin : jIn ad ksC.length) : jCN l D vwCl (tyC cy) cy ad ftC ksC (XtC ad) yX4_compare (.code yX4_compare cX4_compare 6 none :: Om) ({ frames := 2, cells := 0, slots := 0, locals := 44 } : Room) 0 (W_X4_compare ad) := by
  refine jCN_of (y := yX4_compare) (cc := cX4_compare) (nL := 6) (rk := 0) (rm := ({ frames := 2, cells := 0, slots := 0, locals := 44 } : Room)) (own := RX4) (tyC_ok cy) hin (XtC_ok ad) Om_good (by decide) rfl ?_
  intro Q av M hF
  obtain ⟨p1, p2, p3, p4, rfl, gp1, gp2, gp3, gp4, hF⟩ := hF
  refine ⟨Nat.le_of_ble_eq_true rfl, fun J hJ => ?_⟩
  show J 0 [(0, .ref (ad 219)), (1, .int (Ii p1)), (2, .int (Ii p2)), (3, .int (Ii p3)), (4, .int (Ii p4))] [] M
  unfold w_X4_compare at hF
  refine j_iload_n hJ dX4_compare_0 rfl 2 rfl ?_
  refine j_callSz hJ (c_X4_isLink (l := l) (D := D) (cy := cy) (ad := ad) hin) rfl om_358 ⟨rfl, rfl, Nat.le_of_ble_eq_true rfl, Nat.le_of_ble_eq_true rfl⟩ [.int (Ii p2)] mv_X4_211 hd_X4_isLink rfl (Nat.le_of_ble_eq_true rfl) dX4_compare_1 ⟨p2, rfl, gp2, hF⟩ (fun r1 M2 gr1 qM2 => ?_)
  have hF := qM2 gr1
  refine j_if_eq hJ 18 (jz_ri gr1) dX4_compare_4 (by decide) (fun z3 => ?_) (fun z3 => ?_)
  · have hF := hF.1 z3
    exact j_sub hJ [0, 1, 2, 3, 4] rfl (k_X4_compare_b18 hin  hJ  p1 p2 p3 p4 _ gp1 gp2 gp3 (jz_ri gp4) hF)
  · have hF := hF.2 z3
    refine j_iload_n hJ dX4_compare_7 rfl 3 rfl ?_
    refine j_callSz hJ (c_X4_isLink (l := l) (D := D) (cy := cy) (ad := ad) hin) rfl om_358 ⟨rfl, rfl, Nat.le_of_ble_eq_true rfl, Nat.le_of_ble_eq_true rfl⟩ [.int (Ii p3)] mv_X4_211 hd_X4_isLink rfl (Nat.le_of_ble_eq_true rfl) dX4_compare_8 ⟨p3, rfl, gp3, hF⟩ (fun r4 M5 gr4 qM5 => ?_)
    have hF := qM5 gr4
    refine j_if_eq hJ 18 (jz_ri gr4) dX4_compare_11 (by decide) (fun z6 => ?_) (fun z6 => ?_)
    · have hF := hF.1 z6
      exact j_sub hJ [0, 1, 2, 3, 4] rfl (k_X4_compare_b18 hin  hJ  p1 p2 p3 p4 _ gp1 gp2 gp3 (jz_ri gp4) hF)
    · have hF := hF.2 z6
      refine j_iconst hJ dX4_compare_14 ?_
      refine j_goto hJ 19 dX4_compare_15 (by decide) ?_
      exact j_sub hJ [0, 1, 2, 3, 4] rfl (k_X4_compare_b19 hin  hJ  p1 p2 p3 p4 1 _ gp1 gp2 gp3 (jz_ri gp4) rk_1 hF)
def W_X4_divide (ad : Nat → Nat) (Q : Int → MM → Prop) (av : List Value) (M : MM) : Prop := ∃ (p1 : Int) (p2 : Int) (p3 : Int), av = [.ref (ad 219), .int (Ii p1), .long (Ll p2), .long (Ll p3)] ∧ ri_ p1 ∧ rl_ p2 ∧ rl_ p3 ∧ w_X4_divide  Q p1 p2 p3 M
set_option maxHeartbeats 4000000 in
set_option maxRecDepth 100000 in
theorem k_X4_divide_b35 {l : Launch} {D : va_G} {cy : Nat → ClassId} {ad : Nat → Nat} {Q : Int → MM → Prop} {J : Nat → List (Nat × Value) → List Value → MM → Prop} (hin : jIn ad ksC.length)   (hJ : jOk l D vwCl (tyC cy) cy ad ftC ksC (XtC ad) Om RX4 cX4_divide 6 0 ({ frames := 1, cells := 0, slots := 0, locals := 23 } : Room) Q J)  : ∀ (s0 s1 : Int) (M : MM), rl_ s0 → ri_ s1 → w_X4_divide_b35  Q  s0 s1 M → J 35 [] [.long (Ll s0), .int (Ii s1), .ref (ad 219)] M := by
  intro s0 s1 M gs0 gs1 hF
  unfold w_X4_divide_b35 at hF
  refine j_callVv hJ (c_X4_push (l := l) (D := D) (cy := cy) (ad := ad) hin) rfl om_291 ⟨rfl, rfl, Nat.le_of_ble_eq_true rfl, Nat.le_of_ble_eq_true rfl⟩ [.int (Ii s1), .long (Ll s0)] mv_X4_139 hd_X4_pushv kC_219 rfl rfl rfl (Nat.le_of_ble_eq_true rfl) dX4_divide_35 ⟨s1, s0, rfl, gs1, gs0, hF⟩ (fun M2 qM2 => ?_)
  have hF := qM2
  exact j_vret hJ rfl dX4_divide_38 hF
set_option maxHeartbeats 4000000 in
set_option maxRecDepth 100000 in
theorem c_X4_divide {l : Launch} {D : va_G} {cy : Nat → ClassId} {ad : Nat → Nat} (hin : jIn ad ksC.length) : jCN l D vwCl (tyC cy) cy ad ftC ksC (XtC ad) yX4_divide (.code yX4_divide cX4_divide 6 none :: Om) ({ frames := 1, cells := 0, slots := 0, locals := 23 } : Room) 0 (W_X4_divide ad) := by
  refine jCN_of (y := yX4_divide) (cc := cX4_divide) (nL := 6) (rk := 0) (rm := ({ frames := 1, cells := 0, slots := 0, locals := 23 } : Room)) (own := RX4) (tyC_ok cy) hin (XtC_ok ad) Om_good (by decide) rfl ?_
  intro Q av M hF
  obtain ⟨p1, p2, p3, rfl, gp1, gp2, gp3, hF⟩ := hF
  refine ⟨Nat.le_of_ble_eq_true rfl, fun J hJ => ?_⟩
  show J 0 [(0, .ref (ad 219)), (1, .int (Ii p1)), (2, .long (Ll p2)), (4, .long (Ll p3))] [] M
  unfold w_X4_divide at hF
  refine j_lload hJ dX4_divide_0 3 rfl ?_
  refine j_lconst (x := 0) hJ dX4_divide_2 rfl ?_
  refine j_lcmp_ne hJ 16 gp3 lkm_0 dX4_divide_3 dX4_divide_4 (by decide) (fun z1 => ?_) (fun z1 => ?_)
  · have hF := hF.1 z1
    refine j_aload_n hJ dX4_divide_16 rfl 0 rfl ?_
    refine j_iconst hJ dX4_divide_17 ?_
    refine j_iload_n hJ dX4_divide_18 rfl 1 rfl ?_
    refine j_bipush hJ dX4_divide_19 (by decide) ?_
    refine j_icmp_ne hJ 31 gp1 rk_25 dX4_divide_21 (by decide) (fun z2 => ?_) (fun z2 => ?_)
    · have hF := hF.1 z2
      refine j_lload_n hJ dX4_divide_31 rfl 2 rfl ?_
      refine j_lload hJ dX4_divide_32 3 rfl ?_
      refine j_lrem hJ gp2 gp3 hF.1 dX4_divide_34 ?_
      have hF := hF.2
      exact j_sub hJ [] rfl (k_X4_divide_b35 hin  hJ  (w64 (p2 - (Int.tdiv p2 p3) * p3)) 0 _ (rl_w _) rk_0 hF)
    · have hF := hF.2 z2
      refine j_lload_n hJ dX4_divide_24 rfl 2 rfl ?_
      refine j_lload hJ dX4_divide_25 3 rfl ?_
      refine j_ldiv hJ gp2 gp3 hF.1 dX4_divide_27 ?_
      have hF := hF.2
      refine j_goto hJ 35 dX4_divide_28 (by decide) ?_
      exact j_sub hJ [] rfl (k_X4_divide_b35 hin  hJ  (w64 ((Int.tdiv p2 p3))) 0 _ (rl_w _) rk_0 hF)
  · have hF := hF.2 z1
    refine j_aload_n hJ dX4_divide_7 rfl 0 rfl ?_
    refine j_iconst hJ dX4_divide_8 ?_
    refine j_lconst (x := 0) hJ dX4_divide_9 rfl ?_
    refine j_callVv hJ (c_X4_push (l := l) (D := D) (cy := cy) (ad := ad) hin) rfl om_291 ⟨rfl, rfl, Nat.le_of_ble_eq_true rfl, Nat.le_of_ble_eq_true rfl⟩ [.int (Ii 4), .long (Ll 0)] mv_X4_139 hd_X4_pushv kC_219 rfl rfl rfl (Nat.le_of_ble_eq_true rfl) dX4_divide_10 ⟨4, 0, rfl, rk_4, lkm_0, hF⟩ (fun M4 qM4 => ?_)
    have hF := qM4
    refine j_goto hJ 38 dX4_divide_13 (by decide) ?_
    exact j_vret hJ rfl dX4_divide_38 hF
def W_X4_reckon (ad : Nat → Nat) (Q : Int → MM → Prop) (av : List Value) (M : MM) : Prop := ∃ (p1 : Int) (p2 : Int) (p3 : Int), av = [.ref (ad 219), .int (Ii p1), .long (Ll p2), .long (Ll p3)] ∧ ri_ p1 ∧ rl_ p2 ∧ rl_ p3 ∧ w_X4_reckon  Q p1 p2 p3 M
set_option maxHeartbeats 4000000 in
set_option maxRecDepth 100000 in
theorem k_X4_reckon_b57 {l : Launch} {D : va_G} {cy : Nat → ClassId} {ad : Nat → Nat} {Q : Int → MM → Prop} {J : Nat → List (Nat × Value) → List Value → MM → Prop} (hin : jIn ad ksC.length)   (hJ : jOk l D vwCl (tyC cy) cy ad ftC ksC (XtC ad) Om RX4 cX4_reckon 6 0 ({ frames := 2, cells := 0, slots := 0, locals := 48 } : Room) Q J)  : ∀ (s0 : Int) (M : MM), ri_ s0 → w_X4_reckon_b57  Q  s0 M → J 57 [] [.int (Ii s0), .ref (ad 219)] M := by
  intro s0 M gs0 hF
  unfold w_X4_reckon_b57 at hF
  refine j_callVv hJ (c_X4_pushTruth (l := l) (D := D) (cy := cy) (ad := ad) hin) rfl om_329 ⟨rfl, rfl, Nat.le_of_ble_eq_true rfl, Nat.le_of_ble_eq_true rfl⟩ [.int (Ii s0)] mv_X4_148 hd_X4_pushTruthv kC_219 rfl rfl rfl (Nat.le_of_ble_eq_true rfl) dX4_reckon_57 ⟨s0, rfl, hF.1, hF.2⟩ (fun M2 qM2 => ?_)
  have hF := qM2
  refine j_goto hJ 164 dX4_reckon_60 (by decide) ?_
  exact j_vret hJ rfl dX4_reckon_164 hF
set_option maxHeartbeats 4000000 in
set_option maxRecDepth 100000 in
theorem k_X4_reckon_b76 {l : Launch} {D : va_G} {cy : Nat → ClassId} {ad : Nat → Nat} {Q : Int → MM → Prop} {J : Nat → List (Nat × Value) → List Value → MM → Prop} (hin : jIn ad ksC.length)   (hJ : jOk l D vwCl (tyC cy) cy ad ftC ksC (XtC ad) Om RX4 cX4_reckon 6 0 ({ frames := 2, cells := 0, slots := 0, locals := 48 } : Room) Q J)  : ∀ (s0 : Int) (M : MM), ri_ s0 → w_X4_reckon_b76  Q  s0 M → J 76 [] [.int (Ii s0), .ref (ad 219)] M := by
  intro s0 M gs0 hF
  unfold w_X4_reckon_b76 at hF
  refine j_callVv hJ (c_X4_pushTruth (l := l) (D := D) (cy := cy) (ad := ad) hin) rfl om_329 ⟨rfl, rfl, Nat.le_of_ble_eq_true rfl, Nat.le_of_ble_eq_true rfl⟩ [.int (Ii s0)] mv_X4_148 hd_X4_pushTruthv kC_219 rfl rfl rfl (Nat.le_of_ble_eq_true rfl) dX4_reckon_76 ⟨s0, rfl, hF.1, hF.2⟩ (fun M2 qM2 => ?_)
  have hF := qM2
  refine j_goto hJ 164 dX4_reckon_79 (by decide) ?_
  exact j_vret hJ rfl dX4_reckon_164 hF
set_option maxHeartbeats 4000000 in
set_option maxRecDepth 100000 in
theorem k_X4_reckon_b95 {l : Launch} {D : va_G} {cy : Nat → ClassId} {ad : Nat → Nat} {Q : Int → MM → Prop} {J : Nat → List (Nat × Value) → List Value → MM → Prop} (hin : jIn ad ksC.length)   (hJ : jOk l D vwCl (tyC cy) cy ad ftC ksC (XtC ad) Om RX4 cX4_reckon 6 0 ({ frames := 2, cells := 0, slots := 0, locals := 48 } : Room) Q J)  : ∀ (s0 : Int) (M : MM), ri_ s0 → w_X4_reckon_b95  Q  s0 M → J 95 [] [.int (Ii s0), .ref (ad 219)] M := by
  intro s0 M gs0 hF
  unfold w_X4_reckon_b95 at hF
  refine j_callVv hJ (c_X4_pushTruth (l := l) (D := D) (cy := cy) (ad := ad) hin) rfl om_329 ⟨rfl, rfl, Nat.le_of_ble_eq_true rfl, Nat.le_of_ble_eq_true rfl⟩ [.int (Ii s0)] mv_X4_148 hd_X4_pushTruthv kC_219 rfl rfl rfl (Nat.le_of_ble_eq_true rfl) dX4_reckon_95 ⟨s0, rfl, hF.1, hF.2⟩ (fun M2 qM2 => ?_)
  have hF := qM2
  refine j_goto hJ 164 dX4_reckon_98 (by decide) ?_
  exact j_vret hJ rfl dX4_reckon_164 hF
set_option maxHeartbeats 4000000 in
set_option maxRecDepth 100000 in
theorem k_X4_reckon_b114 {l : Launch} {D : va_G} {cy : Nat → ClassId} {ad : Nat → Nat} {Q : Int → MM → Prop} {J : Nat → List (Nat × Value) → List Value → MM → Prop} (hin : jIn ad ksC.length)   (hJ : jOk l D vwCl (tyC cy) cy ad ftC ksC (XtC ad) Om RX4 cX4_reckon 6 0 ({ frames := 2, cells := 0, slots := 0, locals := 48 } : Room) Q J)  : ∀ (s0 : Int) (M : MM), ri_ s0 → w_X4_reckon_b114  Q  s0 M → J 114 [] [.int (Ii s0), .ref (ad 219)] M := by
  intro s0 M gs0 hF
  unfold w_X4_reckon_b114 at hF
  refine j_callVv hJ (c_X4_pushTruth (l := l) (D := D) (cy := cy) (ad := ad) hin) rfl om_329 ⟨rfl, rfl, Nat.le_of_ble_eq_true rfl, Nat.le_of_ble_eq_true rfl⟩ [.int (Ii s0)] mv_X4_148 hd_X4_pushTruthv kC_219 rfl rfl rfl (Nat.le_of_ble_eq_true rfl) dX4_reckon_114 ⟨s0, rfl, hF.1, hF.2⟩ (fun M2 qM2 => ?_)
  have hF := qM2
  refine j_goto hJ 164 dX4_reckon_117 (by decide) ?_
  exact j_vret hJ rfl dX4_reckon_164 hF
set_option maxHeartbeats 4000000 in
set_option maxRecDepth 100000 in
theorem c_X4_reckon {l : Launch} {D : va_G} {cy : Nat → ClassId} {ad : Nat → Nat} (hin : jIn ad ksC.length) : jCN l D vwCl (tyC cy) cy ad ftC ksC (XtC ad) yX4_reckon (.code yX4_reckon cX4_reckon 6 none :: Om) ({ frames := 2, cells := 0, slots := 0, locals := 48 } : Room) 0 (W_X4_reckon ad) := by
  refine jCN_of (y := yX4_reckon) (cc := cX4_reckon) (nL := 6) (rk := 0) (rm := ({ frames := 2, cells := 0, slots := 0, locals := 48 } : Room)) (own := RX4) (tyC_ok cy) hin (XtC_ok ad) Om_good (by decide) rfl ?_
  intro Q av M hF
  obtain ⟨p1, p2, p3, rfl, gp1, gp2, gp3, hF⟩ := hF
  refine ⟨Nat.le_of_ble_eq_true rfl, fun J hJ => ?_⟩
  show J 0 [(0, .ref (ad 219)), (1, .int (Ii p1)), (2, .long (Ll p2)), (4, .long (Ll p3))] [] M
  unfold w_X4_reckon at hF
  refine j_iload_n hJ dX4_reckon_0 rfl 1 rfl ?_
  by_cases z1 : p1 = 18
  · refine j_tabIn hJ 43 44 gp1 dX4_reckon_1 (by omega) (by omega) (by rw [z1]; decide) (by decide) ?_
    have hF := hF.1 z1
    refine j_aload_n hJ dX4_reckon_44 rfl 0 rfl ?_
    refine j_lload_n hJ dX4_reckon_45 rfl 2 rfl ?_
    refine j_lload hJ dX4_reckon_46 3 rfl ?_
    refine j_lcmp_ge hJ 56 gp2 gp3 dX4_reckon_48 dX4_reckon_49 (by decide) (fun z2 => ?_) (fun z2 => ?_)
    · have hF := hF.1 z2
      refine j_iconst hJ dX4_reckon_56 ?_
      exact j_sub hJ [] rfl (k_X4_reckon_b57 hin  hJ  0 _ rk_0 hF)
    · have hF := hF.2 z2
      refine j_iconst hJ dX4_reckon_52 ?_
      refine j_goto hJ 57 dX4_reckon_53 (by decide) ?_
      exact j_sub hJ [] rfl (k_X4_reckon_b57 hin  hJ  1 _ rk_1 hF)
  by_cases z3 : p1 = 19
  · refine j_tabIn hJ 62 63 gp1 dX4_reckon_1 (by omega) (by omega) (by rw [z3]; decide) (by decide) ?_
    have hF := hF.2.1 z3
    refine j_aload_n hJ dX4_reckon_63 rfl 0 rfl ?_
    refine j_lload_n hJ dX4_reckon_64 rfl 2 rfl ?_
    refine j_lload hJ dX4_reckon_65 3 rfl ?_
    refine j_lcmp_gt hJ 75 gp2 gp3 dX4_reckon_67 dX4_reckon_68 (by decide) (fun z4 => ?_) (fun z4 => ?_)
    · have hF := hF.1 z4
      refine j_iconst hJ dX4_reckon_75 ?_
      exact j_sub hJ [] rfl (k_X4_reckon_b76 hin  hJ  0 _ rk_0 hF)
    · have hF := hF.2 z4
      refine j_iconst hJ dX4_reckon_71 ?_
      refine j_goto hJ 76 dX4_reckon_72 (by decide) ?_
      exact j_sub hJ [] rfl (k_X4_reckon_b76 hin  hJ  1 _ rk_1 hF)
  by_cases z5 : p1 = 20
  · refine j_tabIn hJ 81 82 gp1 dX4_reckon_1 (by omega) (by omega) (by rw [z5]; decide) (by decide) ?_
    have hF := hF.2.2.1 z5
    refine j_aload_n hJ dX4_reckon_82 rfl 0 rfl ?_
    refine j_lload_n hJ dX4_reckon_83 rfl 2 rfl ?_
    refine j_lload hJ dX4_reckon_84 3 rfl ?_
    refine j_lcmp_le hJ 94 gp2 gp3 dX4_reckon_86 dX4_reckon_87 (by decide) (fun z6 => ?_) (fun z6 => ?_)
    · have hF := hF.1 z6
      refine j_iconst hJ dX4_reckon_94 ?_
      exact j_sub hJ [] rfl (k_X4_reckon_b95 hin  hJ  0 _ rk_0 hF)
    · have hF := hF.2 z6
      refine j_iconst hJ dX4_reckon_90 ?_
      refine j_goto hJ 95 dX4_reckon_91 (by decide) ?_
      exact j_sub hJ [] rfl (k_X4_reckon_b95 hin  hJ  1 _ rk_1 hF)
  by_cases z7 : p1 = 21
  · refine j_tabIn hJ 100 101 gp1 dX4_reckon_1 (by omega) (by omega) (by rw [z7]; decide) (by decide) ?_
    have hF := hF.2.2.2.1 z7
    refine j_aload_n hJ dX4_reckon_101 rfl 0 rfl ?_
    refine j_lload_n hJ dX4_reckon_102 rfl 2 rfl ?_
    refine j_lload hJ dX4_reckon_103 3 rfl ?_
    refine j_lcmp_lt hJ 113 gp2 gp3 dX4_reckon_105 dX4_reckon_106 (by decide) (fun z8 => ?_) (fun z8 => ?_)
    · have hF := hF.1 z8
      refine j_iconst hJ dX4_reckon_113 ?_
      exact j_sub hJ [] rfl (k_X4_reckon_b114 hin  hJ  0 _ rk_0 hF)
    · have hF := hF.2 z8
      refine j_iconst hJ dX4_reckon_109 ?_
      refine j_goto hJ 114 dX4_reckon_110 (by decide) ?_
      exact j_sub hJ [] rfl (k_X4_reckon_b114 hin  hJ  1 _ rk_1 hF)
  by_cases z9 : p1 = 22
  · refine j_tabIn hJ 119 120 gp1 dX4_reckon_1 (by omega) (by omega) (by rw [z9]; decide) (by decide) ?_
    have hF := hF.2.2.2.2.1 z9
    refine j_aload_n hJ dX4_reckon_120 rfl 0 rfl ?_
    refine j_iconst hJ dX4_reckon_121 ?_
    refine j_lload_n hJ dX4_reckon_122 rfl 2 rfl ?_
    refine j_lload hJ dX4_reckon_123 3 rfl ?_
    refine j_laddw hJ dX4_reckon_125 ?_
    refine j_callVv hJ (c_X4_push (l := l) (D := D) (cy := cy) (ad := ad) hin) rfl om_291 ⟨rfl, rfl, Nat.le_of_ble_eq_true rfl, Nat.le_of_ble_eq_true rfl⟩ [.int (Ii 0), .long (Ll (w64 (p2 + p3)))] mv_X4_139 hd_X4_pushv kC_219 rfl rfl rfl (Nat.le_of_ble_eq_true rfl) dX4_reckon_126 ⟨0, (w64 (p2 + p3)), rfl, rk_0, (rl_w _), hF⟩ (fun M11 qM11 => ?_)
    have hF := qM11
    refine j_goto hJ 164 dX4_reckon_129 (by decide) ?_
    exact j_vret hJ rfl dX4_reckon_164 hF
  by_cases z12 : p1 = 23
  · refine j_tabIn hJ 131 132 gp1 dX4_reckon_1 (by omega) (by omega) (by rw [z12]; decide) (by decide) ?_
    have hF := hF.2.2.2.2.2.1 z12
    refine j_aload_n hJ dX4_reckon_132 rfl 0 rfl ?_
    refine j_iconst hJ dX4_reckon_133 ?_
    refine j_lload_n hJ dX4_reckon_134 rfl 2 rfl ?_
    refine j_lload hJ dX4_reckon_135 3 rfl ?_
    refine j_lsubw hJ dX4_reckon_137 ?_
    refine j_callVv hJ (c_X4_push (l := l) (D := D) (cy := cy) (ad := ad) hin) rfl om_291 ⟨rfl, rfl, Nat.le_of_ble_eq_true rfl, Nat.le_of_ble_eq_true rfl⟩ [.int (Ii 0), .long (Ll (w64 (p2 - p3)))] mv_X4_139 hd_X4_pushv kC_219 rfl rfl rfl (Nat.le_of_ble_eq_true rfl) dX4_reckon_138 ⟨0, (w64 (p2 - p3)), rfl, rk_0, (rl_w _), hF⟩ (fun M14 qM14 => ?_)
    have hF := qM14
    refine j_goto hJ 164 dX4_reckon_141 (by decide) ?_
    exact j_vret hJ rfl dX4_reckon_164 hF
  by_cases z15 : p1 = 24
  · refine j_tabIn hJ 143 144 gp1 dX4_reckon_1 (by omega) (by omega) (by rw [z15]; decide) (by decide) ?_
    have hF := hF.2.2.2.2.2.2.1 z15
    refine j_aload_n hJ dX4_reckon_144 rfl 0 rfl ?_
    refine j_iconst hJ dX4_reckon_145 ?_
    refine j_lload_n hJ dX4_reckon_146 rfl 2 rfl ?_
    refine j_lload hJ dX4_reckon_147 3 rfl ?_
    refine j_lmulw hJ dX4_reckon_149 ?_
    refine j_callVv hJ (c_X4_push (l := l) (D := D) (cy := cy) (ad := ad) hin) rfl om_291 ⟨rfl, rfl, Nat.le_of_ble_eq_true rfl, Nat.le_of_ble_eq_true rfl⟩ [.int (Ii 0), .long (Ll (w64 (p2 * p3)))] mv_X4_139 hd_X4_pushv kC_219 rfl rfl rfl (Nat.le_of_ble_eq_true rfl) dX4_reckon_150 ⟨0, (w64 (p2 * p3)), rfl, rk_0, (rl_w _), hF⟩ (fun M17 qM17 => ?_)
    have hF := qM17
    refine j_goto hJ 164 dX4_reckon_153 (by decide) ?_
    exact j_vret hJ rfl dX4_reckon_164 hF
  have z18 : ¬ p1 = 18 ∧ ¬ p1 = 19 ∧ ¬ p1 = 20 ∧ ¬ p1 = 21 ∧ ¬ p1 = 22 ∧ ¬ p1 = 23 ∧ ¬ p1 = 24 := ⟨z1, z3, z5, z7, z9, z12, z15⟩
  have hF := hF.2.2.2.2.2.2.2 z18
  refine j_tabOut hJ 156 gp1 dX4_reckon_1 (by omega) (by decide) ?_
  refine j_aload_n hJ dX4_reckon_156 rfl 0 rfl ?_
  refine j_iload_n hJ dX4_reckon_157 rfl 1 rfl ?_
  refine j_lload_n hJ dX4_reckon_158 rfl 2 rfl ?_
  refine j_lload hJ dX4_reckon_159 3 rfl ?_
  refine j_callVv hJ (c_X4_divide (l := l) (D := D) (cy := cy) (ad := ad) hin) rfl om_365 ⟨rfl, rfl, Nat.le_of_ble_eq_true rfl, Nat.le_of_ble_eq_true rfl⟩ [.int (Ii p1), .long (Ll p2), .long (Ll p3)] mv_X4_214 hd_X4_dividev kC_219 rfl rfl rfl (Nat.le_of_ble_eq_true rfl) dX4_reckon_161 ⟨p1, p2, p3, rfl, gp1, gp2, gp3, hF⟩ (fun M20 qM20 => ?_)
  have hF := qM20
  exact j_vret hJ rfl dX4_reckon_164 hF
def W_X4_pushSlot (ad : Nat → Nat) (Q : Int → MM → Prop) (av : List Value) (M : MM) : Prop := ∃ (p1 : Int) (p2 : Int), av = [.ref (ad 219), .int (Ii p1), .int (Ii p2)] ∧ ri_ p1 ∧ ri_ p2 ∧ w_X4_pushSlot  Q p1 p2 M
set_option maxHeartbeats 4000000 in
set_option maxRecDepth 100000 in
theorem c_X4_pushSlot {l : Launch} {D : va_G} {cy : Nat → ClassId} {ad : Nat → Nat} (hin : jIn ad ksC.length) : jCN l D vwCl (tyC cy) cy ad ftC ksC (XtC ad) yX4_pushSlot (.code yX4_pushSlot cX4_pushSlot 4 none :: Om) ({ frames := 1, cells := 0, slots := 0, locals := 23 } : Room) 0 (W_X4_pushSlot ad) := by
  refine jCN_of (y := yX4_pushSlot) (cc := cX4_pushSlot) (nL := 4) (rk := 0) (rm := ({ frames := 1, cells := 0, slots := 0, locals := 23 } : Room)) (own := RX4) (tyC_ok cy) hin (XtC_ok ad) Om_good (by decide) rfl ?_
  intro Q av M hF
  obtain ⟨p1, p2, rfl, gp1, gp2, hF⟩ := hF
  refine ⟨Nat.le_of_ble_eq_true rfl, fun J hJ => ?_⟩
  show J 0 [(0, .ref (ad 219)), (1, .int (Ii p1)), (2, .int (Ii p2))] [] M
  unfold w_X4_pushSlot at hF
  refine j_iload_n hJ dX4_pushSlot_0 rfl 2 rfl ?_
  refine j_iconst hJ dX4_pushSlot_1 ?_
  refine j_icmp_ne hJ 12 gp2 rk_m1 dX4_pushSlot_2 (by decide) (fun z1 => ?_) (fun z1 => ?_)
  · have hF := hF.1 z1
    refine j_aload_n hJ dX4_pushSlot_12 rfl 0 rfl ?_
    obtain ⟨c2, ec2, hc2, hF⟩ := hF
    refine j_gq hJ kC_219 fC_7_1 rfl fl_X4_79 dX4_pushSlot_13 ec2 ?_
    refine j_gr (e := (c2 + 4)) hJ (kP_0 hc2) fC_8_4 fl_X4_191 dX4_pushSlot_16 rfl ?_
    refine j_iload_n hJ dX4_pushSlot_19 rfl 1 rfl ?_
    refine j_iald hJ gp1 (kP_4 hc2) hF.1 hF.2.1 dX4_pushSlot_20 (fun v3 ev3 gv3 => ?_)
    have hF := hF.2.2 v3 ev3 gv3
    refine j_iload_n hJ dX4_pushSlot_21 rfl 2 rfl ?_
    refine j_iadd hJ dX4_pushSlot_22 ?_
    have g4 := hF.1; have hF := hF.2
    refine j_istore_n (lv' := [(3, .int (Ii (v3 + p2))), (0, .ref (ad 219)), (1, .int (Ii p1)), (2, .int (Ii p2))]) hJ dX4_pushSlot_23 rfl (by decide) rfl ?_
    refine j_aload_n hJ dX4_pushSlot_24 rfl 1 rfl ?_
    obtain ⟨c5, ec5, hc5, hF⟩ := hF
    refine j_gq hJ kC_219 fC_7_1 rfl fl_X4_79 dX4_pushSlot_25 ec5 ?_
    refine j_gr (e := (c5 + 10)) hJ (kP_0 hc5) fC_8_10 fl_X4_194 dX4_pushSlot_28 rfl ?_
    refine j_iload_n hJ dX4_pushSlot_31 rfl 0 rfl ?_
    refine j_zald hJ g4 (kP_10 hc5) hF.1 hF.2.1 dX4_pushSlot_32 (fun v6 ev6 gv6 => ?_)
    have hF := hF.2.2 v6 ev6 gv6
    refine j_if_ne hJ 53 (jz_ri gv6) dX4_pushSlot_33 (by decide) (fun z7 => ?_) (fun z7 => ?_)
    · have hF := hF.1 z7
      refine j_aload_n hJ dX4_pushSlot_53 rfl 1 rfl ?_
      obtain ⟨c8, ec8, hc8, hF⟩ := hF
      refine j_gq hJ kC_219 fC_7_1 rfl fl_X4_79 dX4_pushSlot_54 ec8 ?_
      refine j_gr (e := (c8 + 9)) hJ (kP_0 hc8) fC_8_9 fl_X4_197 dX4_pushSlot_57 rfl ?_
      refine j_iload_n hJ dX4_pushSlot_60 rfl 0 rfl ?_
      refine j_lald hJ g4 (kP_9 hc8) hF.1 hF.2.1 dX4_pushSlot_61 (fun v9 ev9 gv9 => ?_)
      have hF := hF.2.2 v9 ev9 gv9
      refine j_ldc2 hJ (-1) om_307 (by decide) dX4_pushSlot_62 ?_
      refine j_lcmp_ne hJ 78 gv9 lk_m1 dX4_pushSlot_65 dX4_pushSlot_66 (by decide) (fun z10 => ?_) (fun z10 => ?_)
      · have hF := hF.1 z10
        refine j_aload_n hJ dX4_pushSlot_78 rfl 1 rfl ?_
        refine j_iconst hJ dX4_pushSlot_79 ?_
        refine j_aload_n hJ dX4_pushSlot_80 rfl 1 rfl ?_
        obtain ⟨c11, ec11, hc11, hF⟩ := hF
        refine j_gq hJ kC_219 fC_7_1 rfl fl_X4_79 dX4_pushSlot_81 ec11 ?_
        refine j_gr (e := (c11 + 9)) hJ (kP_0 hc11) fC_8_9 fl_X4_197 dX4_pushSlot_84 rfl ?_
        refine j_iload_n hJ dX4_pushSlot_87 rfl 0 rfl ?_
        refine j_lald hJ g4 (kP_9 hc11) hF.1 hF.2.1 dX4_pushSlot_88 (fun v12 ev12 gv12 => ?_)
        have hF := hF.2.2 v12 ev12 gv12
        refine j_callVv hJ (c_X4_push (l := l) (D := D) (cy := cy) (ad := ad) hin) rfl om_291 ⟨rfl, rfl, Nat.le_of_ble_eq_true rfl, Nat.le_of_ble_eq_true rfl⟩ [.int (Ii 2), .long (Ll v12)] mv_X4_139 hd_X4_pushv kC_219 rfl rfl rfl (Nat.le_of_ble_eq_true rfl) dX4_pushSlot_89 ⟨2, v12, rfl, rk_2, gv12, hF⟩ (fun M14 qM14 => ?_)
        have hF := qM14
        exact j_vret hJ rfl dX4_pushSlot_92 hF
      · have hF := hF.2 z10
        refine j_aload_n hJ dX4_pushSlot_69 rfl 1 rfl ?_
        refine j_iconst hJ dX4_pushSlot_70 ?_
        refine j_lconst (x := 0) hJ dX4_pushSlot_71 rfl ?_
        refine j_callVv hJ (c_X4_push (l := l) (D := D) (cy := cy) (ad := ad) hin) rfl om_291 ⟨rfl, rfl, Nat.le_of_ble_eq_true rfl, Nat.le_of_ble_eq_true rfl⟩ [.int (Ii 3), .long (Ll 0)] mv_X4_139 hd_X4_pushv kC_219 rfl rfl rfl (Nat.le_of_ble_eq_true rfl) dX4_pushSlot_72 ⟨3, 0, rfl, rk_3, lkm_0, hF⟩ (fun M16 qM16 => ?_)
        have hF := qM16
        refine j_goto hJ 92 dX4_pushSlot_75 (by decide) ?_
        exact j_vret hJ rfl dX4_pushSlot_92 hF
    · have hF := hF.2 z7
      refine j_aload_n hJ dX4_pushSlot_36 rfl 1 rfl ?_
      refine j_iconst hJ dX4_pushSlot_37 ?_
      refine j_aload_n hJ dX4_pushSlot_38 rfl 1 rfl ?_
      obtain ⟨c17, ec17, hc17, hF⟩ := hF
      refine j_gq hJ kC_219 fC_7_1 rfl fl_X4_79 dX4_pushSlot_39 ec17 ?_
      refine j_gr (e := (c17 + 9)) hJ (kP_0 hc17) fC_8_9 fl_X4_197 dX4_pushSlot_42 rfl ?_
      refine j_iload_n hJ dX4_pushSlot_45 rfl 0 rfl ?_
      refine j_lald hJ g4 (kP_9 hc17) hF.1 hF.2.1 dX4_pushSlot_46 (fun v18 ev18 gv18 => ?_)
      have hF := hF.2.2 v18 ev18 gv18
      refine j_callVv hJ (c_X4_push (l := l) (D := D) (cy := cy) (ad := ad) hin) rfl om_291 ⟨rfl, rfl, Nat.le_of_ble_eq_true rfl, Nat.le_of_ble_eq_true rfl⟩ [.int (Ii 0), .long (Ll v18)] mv_X4_139 hd_X4_pushv kC_219 rfl rfl rfl (Nat.le_of_ble_eq_true rfl) dX4_pushSlot_47 ⟨0, v18, rfl, rk_0, gv18, hF⟩ (fun M20 qM20 => ?_)
      have hF := qM20
      refine j_goto hJ 92 dX4_pushSlot_50 (by decide) ?_
      exact j_vret hJ rfl dX4_pushSlot_92 hF
  · have hF := hF.2 z1
    refine j_aload_n hJ dX4_pushSlot_5 rfl 0 rfl ?_
    refine j_iconst hJ dX4_pushSlot_6 ?_
    refine j_lconst (x := 0) hJ dX4_pushSlot_7 rfl ?_
    refine j_callVv hJ (c_X4_push (l := l) (D := D) (cy := cy) (ad := ad) hin) rfl om_291 ⟨rfl, rfl, Nat.le_of_ble_eq_true rfl, Nat.le_of_ble_eq_true rfl⟩ [.int (Ii 4), .long (Ll 0)] mv_X4_139 hd_X4_pushv kC_219 rfl rfl rfl (Nat.le_of_ble_eq_true rfl) dX4_pushSlot_8 ⟨4, 0, rfl, rk_4, lkm_0, hF⟩ (fun M22 qM22 => ?_)
    have hF := qM22
    exact j_vret hJ rfl dX4_pushSlot_11 hF
def W_X4_pushElement (ad : Nat → Nat) (Q : Int → MM → Prop) (av : List Value) (M : MM) : Prop := ∃ (p1 : Int) (p2 : Int), av = [.ref (ad 219), .int (Ii p1), .long (Ll p2)] ∧ ri_ p1 ∧ rl_ p2 ∧ w_X4_pushElement  Q p1 p2 M
set_option maxHeartbeats 4000000 in
set_option maxRecDepth 100000 in
theorem k_X4_pushElement_b56 {l : Launch} {D : va_G} {cy : Nat → ClassId} {ad : Nat → Nat} {Q : Int → MM → Prop} {J : Nat → List (Nat × Value) → List Value → MM → Prop} (hin : jIn ad ksC.length)   (hJ : jOk l D vwCl (tyC cy) cy ad ftC ksC (XtC ad) Om RX4 cX4_pushElement 5 0 ({ frames := 2, cells := 0, slots := 0, locals := 46 } : Room) Q J)  : ∀ (s0 s1 : Int) (M : MM), ri_ s0 → ri_ s1 → w_X4_pushElement_b56  Q  s0 s1 M → J 56 [] [.int (Ii s0), .int (Ii s1), .ref (ad 219)] M := by
  intro s0 s1 M gs0 gs1 hF
  unfold w_X4_pushElement_b56 at hF
  refine j_callVv hJ (c_X4_pushSlot (l := l) (D := D) (cy := cy) (ad := ad) hin) rfl om_374 ⟨rfl, rfl, Nat.le_of_ble_eq_true rfl, Nat.le_of_ble_eq_true rfl⟩ [.int (Ii s1), .int (Ii s0)] mv_X4_188 hd_X4_pushSlotv kC_219 rfl rfl rfl (Nat.le_of_ble_eq_true rfl) dX4_pushElement_56 ⟨s1, s0, rfl, gs1, gs0, hF⟩ (fun M2 qM2 => ?_)
  have hF := qM2
  exact j_vret hJ rfl dX4_pushElement_59 hF
set_option maxHeartbeats 4000000 in
set_option maxRecDepth 100000 in
theorem k_X4_pushElement_b41 {l : Launch} {D : va_G} {cy : Nat → ClassId} {ad : Nat → Nat} {Q : Int → MM → Prop} {J : Nat → List (Nat × Value) → List Value → MM → Prop} (hin : jIn ad ksC.length)   (hJ : jOk l D vwCl (tyC cy) cy ad ftC ksC (XtC ad) Om RX4 cX4_pushElement 5 0 ({ frames := 2, cells := 0, slots := 0, locals := 46 } : Room) Q J)  : ∀ (x1 x2 s0 : Int) (M : MM), ri_ x1 → rl_ x2 → ri_ s0 → w_X4_pushElement_b41  Q  x1 x2 s0 M → J 41 [(0, .ref (ad 219)), (1, .int (Ii x1)), (2, .long (Ll x2))] [.int (Ii s0)] M := by
  intro x1 x2 s0 M gx1 gx2 gs0 hF
  unfold w_X4_pushElement_b41 at hF
  refine j_istore (lv' := [(4, .int (Ii s0)), (0, .ref (ad 219)), (1, .int (Ii x1)), (2, .long (Ll x2))]) hJ dX4_pushElement_41 (by decide) rfl ?_
  refine j_aload_n hJ dX4_pushElement_43 rfl 1 rfl ?_
  refine j_iload_n hJ dX4_pushElement_44 rfl 2 rfl ?_
  refine j_iload hJ dX4_pushElement_45 0 rfl ?_
  refine j_if_eq hJ 55 gs0 dX4_pushElement_47 (by decide) (fun z1 => ?_) (fun z1 => ?_)
  · have hF := hF.1 z1
    refine j_iconst hJ dX4_pushElement_55 ?_
    exact j_sub hJ [] rfl (k_X4_pushElement_b56 hin  hJ  (-1) x1 _ rk_m1 gx1 hF)
  · have hF := hF.2 z1
    refine j_lload_n hJ dX4_pushElement_50 rfl 3 rfl ?_
    refine j_l2i hJ dX4_pushElement_51 ?_
    have g2 := hF.1; have hF := hF.2
    refine j_goto hJ 56 dX4_pushElement_52 (by decide) ?_
    exact j_sub hJ [] rfl (k_X4_pushElement_b56 hin  hJ  x2 x1 _ g2 gx1 hF)
set_option maxHeartbeats 4000000 in
set_option maxRecDepth 100000 in
theorem k_X4_pushElement_b40 {l : Launch} {D : va_G} {cy : Nat → ClassId} {ad : Nat → Nat} {Q : Int → MM → Prop} {J : Nat → List (Nat × Value) → List Value → MM → Prop} (hin : jIn ad ksC.length)   (hJ : jOk l D vwCl (tyC cy) cy ad ftC ksC (XtC ad) Om RX4 cX4_pushElement 5 0 ({ frames := 2, cells := 0, slots := 0, locals := 46 } : Room) Q J)  : ∀ (x1 x2 : Int) (M : MM), ri_ x1 → rl_ x2 → w_X4_pushElement_b40  Q  x1 x2 M → J 40 [(0, .ref (ad 219)), (1, .int (Ii x1)), (2, .long (Ll x2))] [] M := by
  intro x1 x2 M gx1 gx2 hF
  unfold w_X4_pushElement_b40 at hF
  refine j_iconst hJ dX4_pushElement_40 ?_
  exact j_sub hJ [0, 1, 2] rfl (k_X4_pushElement_b41 hin  hJ  x1 x2 0 _ gx1 gx2 rk_0 hF)
set_option maxHeartbeats 4000000 in
set_option maxRecDepth 100000 in
theorem c_X4_pushElement {l : Launch} {D : va_G} {cy : Nat → ClassId} {ad : Nat → Nat} (hin : jIn ad ksC.length) : jCN l D vwCl (tyC cy) cy ad ftC ksC (XtC ad) yX4_pushElement (.code yX4_pushElement cX4_pushElement 5 none :: Om) ({ frames := 2, cells := 0, slots := 0, locals := 46 } : Room) 0 (W_X4_pushElement ad) := by
  refine jCN_of (y := yX4_pushElement) (cc := cX4_pushElement) (nL := 5) (rk := 0) (rm := ({ frames := 2, cells := 0, slots := 0, locals := 46 } : Room)) (own := RX4) (tyC_ok cy) hin (XtC_ok ad) Om_good (by decide) rfl ?_
  intro Q av M hF
  obtain ⟨p1, p2, rfl, gp1, gp2, hF⟩ := hF
  refine ⟨Nat.le_of_ble_eq_true rfl, fun J hJ => ?_⟩
  show J 0 [(0, .ref (ad 219)), (1, .int (Ii p1)), (2, .long (Ll p2))] [] M
  unfold w_X4_pushElement at hF
  refine j_aload_n hJ dX4_pushElement_0 rfl 0 rfl ?_
  obtain ⟨c1, ec1, hc1, hF⟩ := hF
  refine j_gq hJ kC_219 fC_7_1 rfl fl_X4_79 dX4_pushElement_1 ec1 ?_
  refine j_gr (e := (c1 + 2)) hJ (kP_0 hc1) fC_8_2 fl_X4_160 dX4_pushElement_4 rfl ?_
  refine j_iload_n hJ dX4_pushElement_7 rfl 1 rfl ?_
  refine j_iald hJ gp1 (kP_2 hc1) hF.1 hF.2.1 dX4_pushElement_8 (fun v2 ev2 gv2 => ?_)
  have hF := hF.2.2 v2 ev2 gv2
  refine j_callSz hJ (c_X10_isArray (l := l) (D := D) (cy := cy) (ad := ad) hin) rfl om_39 ⟨rfl, rfl, Nat.le_of_ble_eq_true rfl, Nat.le_of_ble_eq_true rfl⟩ [.int (Ii v2)] mv_X4_163 hd_X10_isArray rfl (Nat.le_of_ble_eq_true rfl) dX4_pushElement_9 ⟨v2, rfl, gv2, hF⟩ (fun r3 M4 gr3 qM4 => ?_)
  have hF := qM4 gr3
  refine j_if_eq hJ 40 (jz_ri gr3) dX4_pushElement_12 (by decide) (fun z5 => ?_) (fun z5 => ?_)
  · have hF := hF.1 z5
    exact j_sub hJ [0, 1, 2] rfl (k_X4_pushElement_b40 hin  hJ  p1 p2 _ gp1 gp2 hF)
  · have hF := hF.2 z5
    refine j_lload_n hJ dX4_pushElement_15 rfl 2 rfl ?_
    refine j_lconst (x := 0) hJ dX4_pushElement_16 rfl ?_
    refine j_lcmp_lt hJ 40 gp2 lkm_0 dX4_pushElement_17 dX4_pushElement_18 (by decide) (fun z6 => ?_) (fun z6 => ?_)
    · have hF := hF.1 z6
      exact j_sub hJ [0, 1, 2] rfl (k_X4_pushElement_b40 hin  hJ  p1 p2 _ gp1 gp2 hF)
    · have hF := hF.2 z6
      refine j_lload_n hJ dX4_pushElement_21 rfl 2 rfl ?_
      refine j_aload_n hJ dX4_pushElement_22 rfl 0 rfl ?_
      obtain ⟨c7, ec7, hc7, hF⟩ := hF
      refine j_gq hJ kC_219 fC_7_1 rfl fl_X4_79 dX4_pushElement_23 ec7 ?_
      refine j_gr (e := (c7 + 3)) hJ (kP_0 hc7) fC_8_3 fl_X4_168 dX4_pushElement_26 rfl ?_
      refine j_iload_n hJ dX4_pushElement_29 rfl 1 rfl ?_
      refine j_iald hJ gp1 (kP_3 hc7) hF.1 hF.2.1 dX4_pushElement_30 (fun v8 ev8 gv8 => ?_)
      have hF := hF.2.2 v8 ev8 gv8
      refine j_i2l hJ gv8 dX4_pushElement_31 ?_
      refine j_lcmp_ge hJ 40 gp2 (rl_ri gv8) dX4_pushElement_32 dX4_pushElement_33 (by decide) (fun z9 => ?_) (fun z9 => ?_)
      · have hF := hF.1 z9
        exact j_sub hJ [0, 1, 2] rfl (k_X4_pushElement_b40 hin  hJ  p1 p2 _ gp1 gp2 hF)
      · have hF := hF.2 z9
        refine j_iconst hJ dX4_pushElement_36 ?_
        refine j_goto hJ 41 dX4_pushElement_37 (by decide) ?_
        exact j_sub hJ [0, 1, 2] rfl (k_X4_pushElement_b41 hin  hJ  p1 p2 1 _ gp1 gp2 rk_1 hF)
def W_X4_doTwo (ad : Nat → Nat) (Q : Int → MM → Prop) (av : List Value) (M : MM) : Prop := ∃ (p1 : Int), av = [.ref (ad 219), .int (Ii p1)] ∧ ri_ p1 ∧ w_X4_doTwo  Q p1 M
set_option maxHeartbeats 4000000 in
set_option maxRecDepth 100000 in
theorem k_X4_doTwo_b94 {l : Launch} {D : va_G} {cy : Nat → ClassId} {ad : Nat → Nat} {Q : Int → MM → Prop} {J : Nat → List (Nat × Value) → List Value → MM → Prop} (hin : jIn ad ksC.length)   (hJ : jOk l D vwCl (tyC cy) cy ad ftC ksC (XtC ad) Om RX4 cX4_doTwo 8 0 ({ frames := 3, cells := 0, slots := 0, locals := 73 } : Room) Q J)  : ∀ (s0 s1 s2 s3 : Int) (M : MM), ri_ s0 → ri_ s1 → ri_ s2 → ri_ s3 → w_X4_doTwo_b94  Q  s0 s1 s2 s3 M → J 94 [] [.int (Ii s0), .int (Ii s1), .int (Ii s2), .int (Ii s3), .ref (ad 219)] M := by
  intro s0 s1 s2 s3 M gs0 gs1 gs2 gs3 hF
  unfold w_X4_doTwo_b94 at hF
  refine j_callVv hJ (c_X4_compare (l := l) (D := D) (cy := cy) (ad := ad) hin) rfl om_361 ⟨rfl, rfl, Nat.le_of_ble_eq_true rfl, Nat.le_of_ble_eq_true rfl⟩ [.int (Ii s3), .int (Ii s2), .int (Ii s1), .int (Ii s0)] mv_X4_200 hd_X4_comparev kC_219 rfl rfl rfl (Nat.le_of_ble_eq_true rfl) dX4_doTwo_94 ⟨s3, s2, s1, s0, rfl, gs3, gs2, gs1, hF.1, hF.2⟩ (fun M2 qM2 => ?_)
  have hF := qM2
  refine j_goto hJ 164 dX4_doTwo_97 (by decide) ?_
  exact j_vret hJ rfl dX4_doTwo_164 hF
set_option maxHeartbeats 4000000 in
set_option maxRecDepth 100000 in
theorem k_X4_doTwo_b77 {l : Launch} {D : va_G} {cy : Nat → ClassId} {ad : Nat → Nat} {Q : Int → MM → Prop} {J : Nat → List (Nat × Value) → List Value → MM → Prop} (hin : jIn ad ksC.length)   (hJ : jOk l D vwCl (tyC cy) cy ad ftC ksC (XtC ad) Om RX4 cX4_doTwo 8 0 ({ frames := 3, cells := 0, slots := 0, locals := 73 } : Room) Q J)  : ∀ (x1 x2 x3 x4 x6 : Int) (M : MM), ri_ x1 → ri_ x2 → ri_ x3 → rl_ x4 → rl_ x6 → w_X4_doTwo_b77  Q  x1 x2 x3 x4 x6 M → J 77 [(0, .ref (ad 219)), (1, .int (Ii x1)), (2, .int (Ii x2)), (3, .int (Ii x3)), (4, .long (Ll x4)), (6, .long (Ll x6))] [] M := by
  intro x1 x2 x3 x4 x6 M gx1 gx2 gx3 gx4 gx6 hF
  unfold w_X4_doTwo_b77 at hF
  refine j_aload_n hJ dX4_doTwo_77 rfl 0 rfl ?_
  refine j_iload_n hJ dX4_doTwo_78 rfl 1 rfl ?_
  refine j_iload_n hJ dX4_doTwo_79 rfl 2 rfl ?_
  refine j_iload_n hJ dX4_doTwo_80 rfl 3 rfl ?_
  refine j_lload hJ dX4_doTwo_81 4 rfl ?_
  refine j_lload hJ dX4_doTwo_83 5 rfl ?_
  refine j_lcmp_ne hJ 93 gx4 gx6 dX4_doTwo_85 dX4_doTwo_86 (by decide) (fun z1 => ?_) (fun z1 => ?_)
  · have hF := hF.1 z1
    refine j_iconst hJ dX4_doTwo_93 ?_
    exact j_sub hJ [] rfl (k_X4_doTwo_b94 hin  hJ  0 x3 x2 x1 _ rk_0 gx3 gx2 gx1 hF)
  · have hF := hF.2 z1
    refine j_iconst hJ dX4_doTwo_89 ?_
    refine j_goto hJ 94 dX4_doTwo_90 (by decide) ?_
    exact j_sub hJ [] rfl (k_X4_doTwo_b94 hin  hJ  1 x3 x2 x1 _ rk_1 gx3 gx2 gx1 hF)
set_option maxHeartbeats 4000000 in
set_option maxRecDepth 100000 in
theorem k_X4_doTwo_b158 {l : Launch} {D : va_G} {cy : Nat → ClassId} {ad : Nat → Nat} {Q : Int → MM → Prop} {J : Nat → List (Nat × Value) → List Value → MM → Prop} (hin : jIn ad ksC.length)   (hJ : jOk l D vwCl (tyC cy) cy ad ftC ksC (XtC ad) Om RX4 cX4_doTwo 8 0 ({ frames := 3, cells := 0, slots := 0, locals := 73 } : Room) Q J)  : ∀ (M : MM), w_X4_doTwo_b158  Q   M → J 158 [(0, .ref (ad 219))] [] M := by
  intro  M  hF
  unfold w_X4_doTwo_b158 at hF
  refine j_aload_n hJ dX4_doTwo_158 rfl 0 rfl ?_
  refine j_iconst hJ dX4_doTwo_159 ?_
  refine j_lconst (x := 0) hJ dX4_doTwo_160 rfl ?_
  refine j_callVv hJ (c_X4_push (l := l) (D := D) (cy := cy) (ad := ad) hin) rfl om_291 ⟨rfl, rfl, Nat.le_of_ble_eq_true rfl, Nat.le_of_ble_eq_true rfl⟩ [.int (Ii 4), .long (Ll 0)] mv_X4_139 hd_X4_pushv kC_219 rfl rfl rfl (Nat.le_of_ble_eq_true rfl) dX4_doTwo_161 ⟨4, 0, rfl, rk_4, lkm_0, hF⟩ (fun M2 qM2 => ?_)
  have hF := qM2
  exact j_vret hJ rfl dX4_doTwo_164 hF
set_option maxHeartbeats 4000000 in
set_option maxRecDepth 100000 in
theorem k_X4_doTwo_b136 {l : Launch} {D : va_G} {cy : Nat → ClassId} {ad : Nat → Nat} {Q : Int → MM → Prop} {J : Nat → List (Nat × Value) → List Value → MM → Prop} (hin : jIn ad ksC.length)   (hJ : jOk l D vwCl (tyC cy) cy ad ftC ksC (XtC ad) Om RX4 cX4_doTwo 8 0 ({ frames := 3, cells := 0, slots := 0, locals := 73 } : Room) Q J)  : ∀ (x1 x2 x4 x6 : Int) (M : MM), ri_ x1 → ri_ x2 → rl_ x4 → rl_ x6 → w_X4_doTwo_b136  Q  x1 x2 x4 x6 M → J 136 [(0, .ref (ad 219)), (1, .int (Ii x1)), (2, .int (Ii x2)), (4, .long (Ll x4)), (6, .long (Ll x6))] [] M := by
  intro x1 x2 x4 x6 M gx1 gx2 gx4 gx6 hF
  unfold w_X4_doTwo_b136 at hF
  refine j_iload_n hJ dX4_doTwo_136 rfl 1 rfl ?_
  refine j_bipush hJ dX4_doTwo_137 (by decide) ?_
  refine j_icmp_eq hJ 158 gx1 rk_15 dX4_doTwo_139 (by decide) (fun z1 => ?_) (fun z1 => ?_)
  · have hF := hF.1 z1
    exact j_sub hJ [0] rfl (k_X4_doTwo_b158 hin  hJ   _  hF)
  · have hF := hF.2 z1
    refine j_iload_n hJ dX4_doTwo_142 rfl 2 rfl ?_
    refine j_if_ne hJ 158 gx2 dX4_doTwo_143 (by decide) (fun z2 => ?_) (fun z2 => ?_)
    · have hF := hF.1 z2
      exact j_sub hJ [0] rfl (k_X4_doTwo_b158 hin  hJ   _  hF)
    · have hF := hF.2 z2
      refine j_aload_n hJ dX4_doTwo_146 rfl 0 rfl ?_
      refine j_iload_n hJ dX4_doTwo_147 rfl 1 rfl ?_
      refine j_lload hJ dX4_doTwo_148 3 rfl ?_
      refine j_lload hJ dX4_doTwo_150 4 rfl ?_
      refine j_callVv hJ (c_X4_reckon (l := l) (D := D) (cy := cy) (ad := ad) hin) rfl om_369 ⟨rfl, rfl, Nat.le_of_ble_eq_true rfl, Nat.le_of_ble_eq_true rfl⟩ [.int (Ii x1), .long (Ll x4), .long (Ll x6)] mv_X4_207 hd_X4_reckonv kC_219 rfl rfl rfl (Nat.le_of_ble_eq_true rfl) dX4_doTwo_152 ⟨x1, x4, x6, rfl, gx1, gx4, gx6, hF⟩ (fun M4 qM4 => ?_)
      have hF := qM4
      refine j_goto hJ 164 dX4_doTwo_155 (by decide) ?_
      exact j_vret hJ rfl dX4_doTwo_164 hF
set_option maxHeartbeats 4000000 in
set_option maxRecDepth 100000 in
theorem c_X4_doTwo {l : Launch} {D : va_G} {cy : Nat → ClassId} {ad : Nat → Nat} (hin : jIn ad ksC.length) : jCN l D vwCl (tyC cy) cy ad ftC ksC (XtC ad) yX4_doTwo (.code yX4_doTwo cX4_doTwo 8 none :: Om) ({ frames := 3, cells := 0, slots := 0, locals := 73 } : Room) 0 (W_X4_doTwo ad) := by
  refine jCN_of (y := yX4_doTwo) (cc := cX4_doTwo) (nL := 8) (rk := 0) (rm := ({ frames := 3, cells := 0, slots := 0, locals := 73 } : Room)) (own := RX4) (tyC_ok cy) hin (XtC_ok ad) Om_good (by decide) rfl ?_
  intro Q av M hF
  obtain ⟨p1, rfl, gp1, hF⟩ := hF
  refine ⟨Nat.le_of_ble_eq_true rfl, fun J hJ => ?_⟩
  show J 0 [(0, .ref (ad 219)), (1, .int (Ii p1))] [] M
  unfold w_X4_doTwo at hF
  refine j_aload_n hJ dX4_doTwo_0 rfl 0 rfl ?_
  refine j_gi hJ kC_219 fC_7_6 rfl fl_X4_67 dX4_doTwo_1 (fun v1 ev1 gv1 => ?_)
  have hF := hF v1 ev1 gv1
  refine j_iconst hJ dX4_doTwo_4 ?_
  refine j_icmp_ge hJ 9 gv1 rk_2 dX4_doTwo_5 (by decide) (fun z2 => ?_) (fun z2 => ?_)
  · have hF := hF.1 z2
    refine j_aload_n hJ dX4_doTwo_9 rfl 0 rfl ?_
    refine j_dup hJ dX4_doTwo_10 rfl ?_
    refine j_gi hJ kC_219 fC_7_6 rfl fl_X4_67 dX4_doTwo_11 (fun v3 ev3 gv3 => ?_)
    have hF := hF v3 ev3 gv3
    refine j_iconst hJ dX4_doTwo_14 ?_
    refine j_isub hJ dX4_doTwo_15 ?_
    have g4 := hF.1; have hF := hF.2
    refine j_pi hJ g4 kC_219 fC_7_6 rfl fp_X4_67 dX4_doTwo_16 (fun M5 eM5 => ?_)
    have hF := hF M5 eM5
    refine j_aload_n hJ dX4_doTwo_19 rfl 0 rfl ?_
    refine j_gr (e := 220) hJ kC_219 fC_7_4 fl_X4_19 dX4_doTwo_20 rfl ?_
    refine j_aload_n hJ dX4_doTwo_23 rfl 0 rfl ?_
    refine j_gi hJ kC_219 fC_7_6 rfl fl_X4_67 dX4_doTwo_24 (fun v6 ev6 gv6 => ?_)
    have hF := hF v6 ev6 gv6
    refine j_iald hJ gv6 kC_220 hF.1 hF.2.1 dX4_doTwo_27 (fun v7 ev7 gv7 => ?_)
    have hF := hF.2.2 v7 ev7 gv7
    refine j_istore_n (lv' := [(2, .int (Ii v7)), (0, .ref (ad 219)), (1, .int (Ii p1))]) hJ dX4_doTwo_28 rfl (by decide) rfl ?_
    refine j_aload_n hJ dX4_doTwo_29 rfl 1 rfl ?_
    refine j_gr (e := 220) hJ kC_219 fC_7_4 fl_X4_19 dX4_doTwo_30 rfl ?_
    refine j_aload_n hJ dX4_doTwo_33 rfl 1 rfl ?_
    refine j_gi hJ kC_219 fC_7_6 rfl fl_X4_67 dX4_doTwo_34 (fun v8 ev8 gv8 => ?_)
    have hF := hF v8 ev8 gv8
    refine j_iconst hJ dX4_doTwo_37 ?_
    refine j_iadd hJ dX4_doTwo_38 ?_
    have g9 := hF.1; have hF := hF.2
    refine j_iald hJ g9 kC_220 hF.1 hF.2.1 dX4_doTwo_39 (fun v10 ev10 gv10 => ?_)
    have hF := hF.2.2 v10 ev10 gv10
    refine j_istore_n (lv' := [(3, .int (Ii v10)), (2, .int (Ii v7)), (0, .ref (ad 219)), (1, .int (Ii p1))]) hJ dX4_doTwo_40 rfl (by decide) rfl ?_
    refine j_aload_n hJ dX4_doTwo_41 rfl 2 rfl ?_
    refine j_gr (e := 221) hJ kC_219 fC_7_5 fl_X4_23 dX4_doTwo_42 rfl ?_
    refine j_aload_n hJ dX4_doTwo_45 rfl 2 rfl ?_
    refine j_gi hJ kC_219 fC_7_6 rfl fl_X4_67 dX4_doTwo_46 (fun v11 ev11 gv11 => ?_)
    have hF := hF v11 ev11 gv11
    refine j_lald hJ gv11 kC_221 hF.1 hF.2.1 dX4_doTwo_49 (fun v12 ev12 gv12 => ?_)
    have hF := hF.2.2 v12 ev12 gv12
    refine j_lstore (lv' := [(4, .long (Ll v12)), (3, .int (Ii v10)), (2, .int (Ii v7)), (0, .ref (ad 219)), (1, .int (Ii p1))]) hJ dX4_doTwo_50 (by decide) rfl ?_
    refine j_aload_n hJ dX4_doTwo_52 rfl 3 rfl ?_
    refine j_gr (e := 221) hJ kC_219 fC_7_5 fl_X4_23 dX4_doTwo_53 rfl ?_
    refine j_aload_n hJ dX4_doTwo_56 rfl 3 rfl ?_
    refine j_gi hJ kC_219 fC_7_6 rfl fl_X4_67 dX4_doTwo_57 (fun v13 ev13 gv13 => ?_)
    have hF := hF v13 ev13 gv13
    refine j_iconst hJ dX4_doTwo_60 ?_
    refine j_iadd hJ dX4_doTwo_61 ?_
    have g14 := hF.1; have hF := hF.2
    refine j_lald hJ g14 kC_221 hF.1 hF.2.1 dX4_doTwo_62 (fun v15 ev15 gv15 => ?_)
    have hF := hF.2.2 v15 ev15 gv15
    refine j_lstore (lv' := [(6, .long (Ll v15)), (4, .long (Ll v12)), (3, .int (Ii v10)), (2, .int (Ii v7)), (0, .ref (ad 219)), (1, .int (Ii p1))]) hJ dX4_doTwo_63 (by decide) rfl ?_
    refine j_iload_n hJ dX4_doTwo_65 rfl 5 rfl ?_
    refine j_bipush hJ dX4_doTwo_66 (by decide) ?_
    refine j_icmp_eq hJ 77 gp1 rk_16 dX4_doTwo_68 (by decide) (fun z16 => ?_) (fun z16 => ?_)
    · have hF := hF.1 z16
      exact j_sub hJ [4, 5, 3, 2, 1, 0] rfl (k_X4_doTwo_b77 hin  hJ  p1 v7 v10 v12 v15 _ gp1 gv7 gv10 gv12 gv15 hF)
    · have hF := hF.2 z16
      refine j_iload_n hJ dX4_doTwo_71 rfl 5 rfl ?_
      refine j_bipush hJ dX4_doTwo_72 (by decide) ?_
      refine j_icmp_ne hJ 100 gp1 rk_17 dX4_doTwo_74 (by decide) (fun z17 => ?_) (fun z17 => ?_)
      · have hF := hF.1 z17
        refine j_iload_n hJ dX4_doTwo_100 rfl 2 rfl ?_
        refine j_if_eq hJ 113 gv10 dX4_doTwo_101 (by decide) (fun z18 => ?_) (fun z18 => ?_)
        · have hF := hF.1 z18
          refine j_iload_n hJ dX4_doTwo_113 rfl 5 rfl ?_
          refine j_bipush hJ dX4_doTwo_114 (by decide) ?_
          refine j_icmp_ne hJ 136 gp1 rk_15 dX4_doTwo_116 (by decide) (fun z19 => ?_) (fun z19 => ?_)
          · have hF := hF.1 z19
            exact j_sub hJ [4, 5, 3, 1, 0] rfl (k_X4_doTwo_b136 hin  hJ  p1 v7 v12 v15 _ gp1 gv7 gv12 gv15 hF)
          · have hF := hF.2 z19
            refine j_iload_n hJ dX4_doTwo_119 rfl 3 rfl ?_
            refine j_iconst hJ dX4_doTwo_120 ?_
            refine j_icmp_ne hJ 136 gv7 rk_2 dX4_doTwo_121 (by decide) (fun z20 => ?_) (fun z20 => ?_)
            · have hF := hF.1 z20
              exact j_sub hJ [4, 5, 3, 1, 0] rfl (k_X4_doTwo_b136 hin  hJ  p1 v7 v12 v15 _ gp1 gv7 gv12 gv15 hF)
            · have hF := hF.2 z20
              refine j_aload_n hJ dX4_doTwo_124 rfl 4 rfl ?_
              refine j_lload hJ dX4_doTwo_125 1 rfl ?_
              refine j_l2i hJ dX4_doTwo_127 ?_
              have g21 := hF.1; have hF := hF.2
              refine j_lload hJ dX4_doTwo_128 0 rfl ?_
              refine j_callVv hJ (c_X4_pushElement (l := l) (D := D) (cy := cy) (ad := ad) hin) rfl om_378 ⟨rfl, rfl, Nat.le_of_ble_eq_true rfl, Nat.le_of_ble_eq_true rfl⟩ [.int (Ii v12), .long (Ll v15)] mv_X4_204 hd_X4_pushElementv kC_219 rfl rfl rfl (Nat.le_of_ble_eq_true rfl) dX4_doTwo_130 ⟨v12, v15, rfl, g21, gv15, hF⟩ (fun M23 qM23 => ?_)
              have hF := qM23
              refine j_goto hJ 164 dX4_doTwo_133 (by decide) ?_
              exact j_vret hJ rfl dX4_doTwo_164 hF
        · have hF := hF.2 z18
          refine j_aload_n hJ dX4_doTwo_104 rfl 4 rfl ?_
          refine j_iconst hJ dX4_doTwo_105 ?_
          refine j_lconst (x := 0) hJ dX4_doTwo_106 rfl ?_
          refine j_callVv hJ (c_X4_push (l := l) (D := D) (cy := cy) (ad := ad) hin) rfl om_291 ⟨rfl, rfl, Nat.le_of_ble_eq_true rfl, Nat.le_of_ble_eq_true rfl⟩ [.int (Ii 4), .long (Ll 0)] mv_X4_139 hd_X4_pushv kC_219 rfl rfl rfl (Nat.le_of_ble_eq_true rfl) dX4_doTwo_107 ⟨4, 0, rfl, rk_4, lkm_0, hF⟩ (fun M25 qM25 => ?_)
          have hF := qM25
          refine j_goto hJ 164 dX4_doTwo_110 (by decide) ?_
          exact j_vret hJ rfl dX4_doTwo_164 hF
      · have hF := hF.2 z17
        exact j_sub hJ [4, 5, 3, 2, 1, 0] rfl (k_X4_doTwo_b77 hin  hJ  p1 v7 v10 v12 v15 _ gp1 gv7 gv10 gv12 gv15 hF)
  · have hF := hF.2 z2
    exact j_vret hJ rfl dX4_doTwo_8 hF
