set_option maxHeartbeats 4000000 in
set_option maxRecDepth 100000 in
theorem cl_type {l : Launch} {D : va_G} {cy : Nat → ClassId} {ad : Nat → Nat} {xs : Nat → Int} {L : Nat} (hst : l.stackTraces = false) (hin : jIn ad ksK.length) : jXN l D vwCl (tyC cy) cy ad ftJ ksK (XtB ad xs L) yL_type (.codeWith yL_type cL_type 5 (some .int) [(0, 10, 13, 13), (0, 10, 17, 15), (0, 10, 21, 17)] :: Om) ({ frames := 10, cells := 1, slots := 6, locals := 192 } : Room) 1 1 6 [] (fun post _ av M => WL_type ad post av M) := by
  refine jHN_of (y := yL_type) (cc := cL_type) (nL := 5) (rm := ({ frames := 10, cells := 1, slots := 6, locals := 192 } : Room)) (own := RL) (hh := [(0, 10, 13, 13), (0, 10, 17, 15), (0, 10, 21, 17)]) (mc := 1) (ms := 6) (fun A U h => h.2.1) (fun A U h => XtC_z ad A U h.1) (tyC_ok cy) hin (XtB_ok ad xs L) Om_good (by decide) rfl ⟨rfl, rfl⟩ ?_
  intro post av M hF
  obtain ⟨p1, p2, rfl, g1, g2, hF⟩ := hF
  refine ⟨Nat.le_of_ble_eq_true rfl, fun J0 J1 h0 h1 tv ti tl tz => ?_⟩
  show J0 0 [(0, .ref (ad 0)), (1, .int (Ii p1)), (2, .int (Ii p2)), (3, .ref (ad 389))] [] M
  refine j_aload_n h0 dL_type_0 rfl 3 rfl ?_
  refine j_iconst h0 dL_type_1 ?_
  refine j_aload_n h0 dL_type_2 rfl 0 rfl ?_
  refine j_iload_n h0 dL_type_3 rfl 1 rfl ?_
  refine j_iload_n h0 dL_type_4 rfl 2 rfl ?_
  obtain ⟨C, Q0, X0, hC, hRC, hw, hQ, hX⟩ := hF
  refine ti _ _ _ _ _ _ 0 _ _ _ _ _ _ _ (fun r M1 => post 0 (ux_ M1 389 0 r)) (fun E M1 => (E = "java/lang/IndexOutOfBoundsException" ∧ post 1 M1) ∨ (E = "java/lang/IllegalArgumentException" ∧ post 2 M1) ∨ (E = "java/lang/IllegalStateException" ∧ post 3 M1)) [.int (Ii p1), .int (Ii p2)] [.int (Ii 0), .ref (ad 389)] _ _ (lfX hin (c_X11_type (l := l) (D := D) (cy := cy) (ad := ad) hst (jIn_w hin))) rfl om_1978 ⟨rfl, rfl, Nat.le_of_ble_eq_true rfl, Nat.le_of_ble_eq_true rfl⟩ ⟨om_1979, om_1980, om_1981, om_854⟩ hd_X11_typev kK_0 rfl rfl rfl (Nat.le_of_ble_eq_true rfl) dL_type_5 ⟨C, Q0, X0, hC, hRC, ⟨p1, p2, rfl, g1, g2, hw⟩, hQ, hX⟩ (fun E M1 h8 h9 => ?_) (fun r M1 gr h9 => ?_)
  · rcases h9 with ⟨rfl, h9⟩ | ⟨rfl, h9⟩ | ⟨rfl, h9⟩
    · refine ⟨[], ⟨0, 10, 13, 13⟩, [⟨0, 10, 17, 15⟩, ⟨0, 10, 21, 17⟩], rfl, (fun _ h => nomatch h), by decide, by decide, om_1982, by decide, fun q => ?_⟩
      refine j_astore (lv' := [(4, .ref q), (0, .ref (ad 0)), (1, .int (Ii p1)), (2, .int (Ii p2)), (3, .ref (ad 389))]) h1 dL_type_13 (by decide) rfl ?_
      refine j_iconst h1 dL_type_15 ?_
      exact j_iret h1 rfl rk_1 dL_type_16 h9
    · refine ⟨[⟨0, 10, 13, 13⟩], ⟨0, 10, 17, 15⟩, [⟨0, 10, 21, 17⟩], rfl, (List.forall_mem_cons.mpr ⟨⟨by decide, "java/lang/IndexOutOfBoundsException", om_1982, by decide, by decide⟩, (fun _ h => nomatch h)⟩), by decide, by decide, om_1983, by decide, fun q => ?_⟩
      refine j_astore (lv' := [(4, .ref q), (0, .ref (ad 0)), (1, .int (Ii p1)), (2, .int (Ii p2)), (3, .ref (ad 389))]) h1 dL_type_17 (by decide) rfl ?_
      refine j_iconst h1 dL_type_19 ?_
      exact j_iret h1 rfl rk_2 dL_type_20 h9
    · refine ⟨[⟨0, 10, 13, 13⟩, ⟨0, 10, 17, 15⟩], ⟨0, 10, 21, 17⟩, [], rfl, (List.forall_mem_cons.mpr ⟨⟨by decide, "java/lang/IndexOutOfBoundsException", om_1982, by decide, by decide⟩, (List.forall_mem_cons.mpr ⟨⟨by decide, "java/lang/IllegalArgumentException", om_1983, by decide, by decide⟩, (fun _ h => nomatch h)⟩)⟩), by decide, by decide, om_1984, by decide, fun q => ?_⟩
      refine j_astore (lv' := [(4, .ref q), (0, .ref (ad 0)), (1, .int (Ii p1)), (2, .int (Ii p2)), (3, .ref (ad 389))]) h1 dL_type_21 (by decide) rfl ?_
      refine j_iconst h1 dL_type_23 ?_
      exact j_iret h1 rfl rk_3 dL_type_24 h9
  · skip
    refine j_i2l h1 gr dL_type_8 ?_
    refine j_last h1 rk_0 (rl_ri gr) kK_389 (by decide) (by decide) dL_type_9 (fun M2 e2 => ?_)
    subst e2
    refine j_goto h1 25 dL_type_10 (by decide) ?_
    refine j_iconst h1 dL_type_25 ?_
    exact j_iret h1 rfl rk_0 dL_type_26 h9
set_option maxHeartbeats 4000000 in
set_option maxRecDepth 100000 in
theorem cl_field {l : Launch} {D : va_G} {cy : Nat → ClassId} {ad : Nat → Nat} {xs : Nat → Int} {L : Nat} (hst : l.stackTraces = false) (hin : jIn ad ksK.length) : jXN l D vwCl (tyC cy) cy ad ftJ ksK (XtB ad xs L) yL_field (.codeWith yL_field cL_field 7 (some .int) [(0, 14, 17, 13), (0, 14, 21, 15), (0, 14, 25, 17)] :: Om) ({ frames := 10, cells := 1, slots := 6, locals := 195 } : Room) 1 1 6 [] (fun post _ av M => WL_field ad post av M) := by
  refine jHN_of (y := yL_field) (cc := cL_field) (nL := 7) (rm := ({ frames := 10, cells := 1, slots := 6, locals := 195 } : Room)) (own := RL) (hh := [(0, 14, 17, 13), (0, 14, 21, 15), (0, 14, 25, 17)]) (mc := 1) (ms := 6) (fun A U h => h.2.1) (fun A U h => XtC_z ad A U h.1) (tyC_ok cy) hin (XtB_ok ad xs L) Om_good (by decide) rfl ⟨rfl, rfl⟩ ?_
  intro post av M hF
  obtain ⟨p1, p2, p3, p4, rfl, g1, g2, g3, g4, hF⟩ := hF
  refine ⟨Nat.le_of_ble_eq_true rfl, fun J0 J1 h0 h1 tv ti tl tz => ?_⟩
  show J0 0 [(0, .ref (ad 0)), (1, .int (Ii p1)), (2, .int (Ii p2)), (3, .int (Ii p3)), (4, .int (Ii p4)), (5, .ref (ad 389))] [] M
  refine j_aload h0 dL_field_0 5 rfl ?_
  refine j_iconst h0 dL_field_2 ?_
  refine j_aload_n h0 dL_field_3 rfl 0 rfl ?_
  refine j_iload_n h0 dL_field_4 rfl 1 rfl ?_
  refine j_iload_n h0 dL_field_5 rfl 2 rfl ?_
  refine j_iload_n h0 dL_field_6 rfl 3 rfl ?_
  refine j_iload h0 dL_field_7 4 rfl ?_
  obtain ⟨C, Q0, X0, hC, hRC, hw, hQ, hX⟩ := hF
  refine ti _ _ _ _ _ _ 0 _ _ _ _ _ _ _ (fun r M1 => post 0 (ux_ M1 389 0 r)) (fun E M1 => (E = "java/lang/IndexOutOfBoundsException" ∧ post 1 M1) ∨ (E = "java/lang/IllegalArgumentException" ∧ post 2 M1) ∨ (E = "java/lang/IllegalStateException" ∧ post 3 M1)) [.int (Ii p1), .int (Ii p2), .int (Ii p3), .int (Ii p4)] [.int (Ii 0), .ref (ad 389)] _ _ (lfX hin (c_X11_field (l := l) (D := D) (cy := cy) (ad := ad) hst (jIn_w hin))) rfl om_1985 ⟨rfl, rfl, Nat.le_of_ble_eq_true rfl, Nat.le_of_ble_eq_true rfl⟩ ⟨om_1986, om_1987, om_1988, om_854⟩ hd_X11_fieldv kK_0 rfl rfl rfl (Nat.le_of_ble_eq_true rfl) dL_field_9 ⟨C, Q0, X0, hC, hRC, ⟨p1, p2, p3, p4, rfl, g1, g2, g3, g4, hw⟩, hQ, hX⟩ (fun E M1 h8 h9 => ?_) (fun r M1 gr h9 => ?_)
  · rcases h9 with ⟨rfl, h9⟩ | ⟨rfl, h9⟩ | ⟨rfl, h9⟩
    · refine ⟨[], ⟨0, 14, 17, 13⟩, [⟨0, 14, 21, 15⟩, ⟨0, 14, 25, 17⟩], rfl, (fun _ h => nomatch h), by decide, by decide, om_1982, by decide, fun q => ?_⟩
      refine j_astore (lv' := [(6, .ref q), (0, .ref (ad 0)), (1, .int (Ii p1)), (2, .int (Ii p2)), (3, .int (Ii p3)), (4, .int (Ii p4)), (5, .ref (ad 389))]) h1 dL_field_17 (by decide) rfl ?_
      refine j_iconst h1 dL_field_19 ?_
      exact j_iret h1 rfl rk_1 dL_field_20 h9
    · refine ⟨[⟨0, 14, 17, 13⟩], ⟨0, 14, 21, 15⟩, [⟨0, 14, 25, 17⟩], rfl, (List.forall_mem_cons.mpr ⟨⟨by decide, "java/lang/IndexOutOfBoundsException", om_1982, by decide, by decide⟩, (fun _ h => nomatch h)⟩), by decide, by decide, om_1983, by decide, fun q => ?_⟩
      refine j_astore (lv' := [(6, .ref q), (0, .ref (ad 0)), (1, .int (Ii p1)), (2, .int (Ii p2)), (3, .int (Ii p3)), (4, .int (Ii p4)), (5, .ref (ad 389))]) h1 dL_field_21 (by decide) rfl ?_
      refine j_iconst h1 dL_field_23 ?_
      exact j_iret h1 rfl rk_2 dL_field_24 h9
    · refine ⟨[⟨0, 14, 17, 13⟩, ⟨0, 14, 21, 15⟩], ⟨0, 14, 25, 17⟩, [], rfl, (List.forall_mem_cons.mpr ⟨⟨by decide, "java/lang/IndexOutOfBoundsException", om_1982, by decide, by decide⟩, (List.forall_mem_cons.mpr ⟨⟨by decide, "java/lang/IllegalArgumentException", om_1983, by decide, by decide⟩, (fun _ h => nomatch h)⟩)⟩), by decide, by decide, om_1984, by decide, fun q => ?_⟩
      refine j_astore (lv' := [(6, .ref q), (0, .ref (ad 0)), (1, .int (Ii p1)), (2, .int (Ii p2)), (3, .int (Ii p3)), (4, .int (Ii p4)), (5, .ref (ad 389))]) h1 dL_field_25 (by decide) rfl ?_
      refine j_iconst h1 dL_field_27 ?_
      exact j_iret h1 rfl rk_3 dL_field_28 h9
  · skip
    refine j_i2l h1 gr dL_field_12 ?_
    refine j_last h1 rk_0 (rl_ri gr) kK_389 (by decide) (by decide) dL_field_13 (fun M2 e2 => ?_)
    subst e2
    refine j_goto h1 29 dL_field_14 (by decide) ?_
    refine j_iconst h1 dL_field_29 ?_
    exact j_iret h1 rfl rk_0 dL_field_30 h9
set_option maxHeartbeats 4000000 in
set_option maxRecDepth 100000 in
theorem cl_make {l : Launch} {D : va_G} {cy : Nat → ClassId} {ad : Nat → Nat} {xs : Nat → Int} {L : Nat} (hst : l.stackTraces = false) (hin : jIn ad ksK.length) : jXN l D vwCl (tyC cy) cy ad ftJ ksK (XtB ad xs L) yL_make (.codeWith yL_make cL_make 5 (some .int) [(0, 10, 13, 15), (0, 10, 17, 17)] :: Om) ({ frames := 10, cells := 1, slots := 6, locals := 163 } : Room) 1 1 6 [] (fun post _ av M => WL_make ad post av M) := by
  refine jHN_of (y := yL_make) (cc := cL_make) (nL := 5) (rm := ({ frames := 10, cells := 1, slots := 6, locals := 163 } : Room)) (own := RL) (hh := [(0, 10, 13, 15), (0, 10, 17, 17)]) (mc := 1) (ms := 6) (fun A U h => h.2.1) (fun A U h => XtC_z ad A U h.1) (tyC_ok cy) hin (XtB_ok ad xs L) Om_good (by decide) rfl ⟨rfl, rfl⟩ ?_
  intro post av M hF
  obtain ⟨p1, p2, rfl, g1, g2, hF⟩ := hF
  refine ⟨Nat.le_of_ble_eq_true rfl, fun J0 J1 h0 h1 tv ti tl tz => ?_⟩
  show J0 0 [(0, .ref (ad 0)), (1, .int (Ii p1)), (2, .int (Ii p2)), (3, .ref (ad 389))] [] M
  refine j_aload_n h0 dL_make_0 rfl 3 rfl ?_
  refine j_iconst h0 dL_make_1 ?_
  refine j_aload_n h0 dL_make_2 rfl 0 rfl ?_
  refine j_iload_n h0 dL_make_3 rfl 1 rfl ?_
  refine j_iload_n h0 dL_make_4 rfl 2 rfl ?_
  obtain ⟨C, Q0, X0, hC, hRC, hw, hQ, hX⟩ := hF
  refine ti _ _ _ _ _ _ 0 _ _ _ _ _ _ _ (fun r M1 => post 0 (ux_ M1 389 0 r)) (fun E M1 => (E = "java/lang/IllegalArgumentException" ∧ post 1 M1) ∨ (E = "java/lang/IllegalStateException" ∧ post 2 M1)) [.int (Ii p1), .int (Ii p2)] [.int (Ii 0), .ref (ad 389)] _ _ (lfX hin (c_X11_make (l := l) (D := D) (cy := cy) (ad := ad) hst (jIn_w hin))) rfl om_1989 ⟨rfl, rfl, Nat.le_of_ble_eq_true rfl, Nat.le_of_ble_eq_true rfl⟩ ⟨om_1990, om_1991, om_1992, om_854⟩ hd_X11_makev kK_0 rfl rfl rfl (Nat.le_of_ble_eq_true rfl) dL_make_5 ⟨C, Q0, X0, hC, hRC, ⟨p1, p2, rfl, g1, g2, hw⟩, hQ, hX⟩ (fun E M1 h8 h9 => ?_) (fun r M1 gr h9 => ?_)
  · rcases h9 with ⟨rfl, h9⟩ | ⟨rfl, h9⟩
    · refine ⟨[], ⟨0, 10, 13, 15⟩, [⟨0, 10, 17, 17⟩], rfl, (fun _ h => nomatch h), by decide, by decide, om_1983, by decide, fun q => ?_⟩
      refine j_astore (lv' := [(4, .ref q), (0, .ref (ad 0)), (1, .int (Ii p1)), (2, .int (Ii p2)), (3, .ref (ad 389))]) h1 dL_make_13 (by decide) rfl ?_
      refine j_iconst h1 dL_make_15 ?_
      exact j_iret h1 rfl rk_1 dL_make_16 h9
    · refine ⟨[⟨0, 10, 13, 15⟩], ⟨0, 10, 17, 17⟩, [], rfl, (List.forall_mem_cons.mpr ⟨⟨by decide, "java/lang/IllegalArgumentException", om_1983, by decide, by decide⟩, (fun _ h => nomatch h)⟩), by decide, by decide, om_1984, by decide, fun q => ?_⟩
      refine j_astore (lv' := [(4, .ref q), (0, .ref (ad 0)), (1, .int (Ii p1)), (2, .int (Ii p2)), (3, .ref (ad 389))]) h1 dL_make_17 (by decide) rfl ?_
      refine j_iconst h1 dL_make_19 ?_
      exact j_iret h1 rfl rk_2 dL_make_20 h9
  · skip
    refine j_i2l h1 gr dL_make_8 ?_
    refine j_last h1 rk_0 (rl_ri gr) kK_389 (by decide) (by decide) dL_make_9 (fun M2 e2 => ?_)
    subst e2
    refine j_goto h1 21 dL_make_10 (by decide) ?_
    refine j_iconst h1 dL_make_21 ?_
    exact j_iret h1 rfl rk_0 dL_make_22 h9
set_option maxHeartbeats 4000000 in
set_option maxRecDepth 100000 in
theorem cl_root {l : Launch} {D : va_G} {cy : Nat → ClassId} {ad : Nat → Nat} {xs : Nat → Int} {L : Nat} (hst : l.stackTraces = false) (hin : jIn ad ksK.length) : jXN l D vwCl (tyC cy) cy ad ftJ ksK (XtB ad xs L) yL_root (.codeWith yL_root cL_root 4 (some .int) [(0, 6, 9, 30), (0, 6, 12, 17)] :: Om) ({ frames := 10, cells := 1, slots := 6, locals := 163 } : Room) 1 1 6 [] (fun post _ av M => WL_root ad post av M) := by
  refine jHN_of (y := yL_root) (cc := cL_root) (nL := 4) (rm := ({ frames := 10, cells := 1, slots := 6, locals := 163 } : Room)) (own := RL) (hh := [(0, 6, 9, 30), (0, 6, 12, 17)]) (mc := 1) (ms := 6) (fun A U h => h.2.1) (fun A U h => XtC_z ad A U h.1) (tyC_ok cy) hin (XtB_ok ad xs L) Om_good (by decide) rfl ⟨rfl, rfl⟩ ?_
  intro post av M hF
  obtain ⟨p1, p2, rfl, g1, g2, hF⟩ := hF
  refine ⟨Nat.le_of_ble_eq_true rfl, fun J0 J1 h0 h1 tv ti tl tz => ?_⟩
  show J0 0 [(0, .ref (ad 0)), (1, .int (Ii p1)), (2, .int (Ii p2))] [] M
  refine j_aload_n h0 dL_root_0 rfl 0 rfl ?_
  refine j_iload_n h0 dL_root_1 rfl 1 rfl ?_
  refine j_iload_n h0 dL_root_2 rfl 2 rfl ?_
  obtain ⟨C, Q0, X0, hC, hRC, hw, hQ, hX⟩ := hF
  refine tv _ _ _ _ _ _ 0 _ _ _ _ _ _ _ (fun r M1 => post 0 M1) (fun E M1 => (E = "java/util/NoSuchElementException" ∧ post 1 M1) ∨ (E = "java/lang/IllegalStateException" ∧ post 2 M1)) [.int (Ii p1), .int (Ii p2)] [] _ _ (lfX hin (c_X11_root (l := l) (D := D) (cy := cy) (ad := ad) hst (jIn_w hin))) rfl om_1993 ⟨rfl, rfl, Nat.le_of_ble_eq_true rfl, Nat.le_of_ble_eq_true rfl⟩ ⟨om_1994, om_1995, om_1996, om_854⟩ hd_X11_rootv kK_0 rfl rfl rfl (Nat.le_of_ble_eq_true rfl) dL_root_3 ⟨C, Q0, X0, hC, hRC, ⟨p1, p2, rfl, g1, g2, hw⟩, hQ, hX⟩ (fun E M1 h8 h9 => ?_) (fun M1 h9 => ?_)
  · rcases h9 with ⟨rfl, h9⟩ | ⟨rfl, h9⟩
    · refine ⟨[], ⟨0, 6, 9, 30⟩, [⟨0, 6, 12, 17⟩], rfl, (fun _ h => nomatch h), by decide, by decide, om_1997, by decide, fun q => ?_⟩
      refine j_astore_n (lv' := [(3, .ref q), (0, .ref (ad 0)), (1, .int (Ii p1)), (2, .int (Ii p2))]) h1 dL_root_9 rfl (by decide) rfl ?_
      refine j_iconst h1 dL_root_10 ?_
      exact j_iret h1 rfl rk_1 dL_root_11 h9
    · refine ⟨[⟨0, 6, 9, 30⟩], ⟨0, 6, 12, 17⟩, [], rfl, (List.forall_mem_cons.mpr ⟨⟨by decide, "java/util/NoSuchElementException", om_1997, by decide, by decide⟩, (fun _ h => nomatch h)⟩), by decide, by decide, om_1984, by decide, fun q => ?_⟩
      refine j_astore_n (lv' := [(3, .ref q), (0, .ref (ad 0)), (1, .int (Ii p1)), (2, .int (Ii p2))]) h1 dL_root_12 rfl (by decide) rfl ?_
      refine j_iconst h1 dL_root_13 ?_
      exact j_iret h1 rfl rk_2 dL_root_14 h9
  · skip
    refine j_goto h1 15 dL_root_6 (by decide) ?_
    refine j_iconst h1 dL_root_15 ?_
    exact j_iret h1 rfl rk_0 dL_root_16 h9
set_option maxHeartbeats 4000000 in
set_option maxRecDepth 100000 in
theorem cl_set {l : Launch} {D : va_G} {cy : Nat → ClassId} {ad : Nat → Nat} {xs : Nat → Int} {L : Nat} (hst : l.stackTraces = false) (hin : jIn ad ksK.length) : jXN l D vwCl (tyC cy) cy ad ftJ ksK (XtB ad xs L) yL_set (.codeWith yL_set cL_set 7 (some .int) [(0, 12, 15, 30), (0, 12, 19, 15)] :: Om) ({ frames := 10, cells := 1, slots := 6, locals := 195 } : Room) 1 1 6 [] (fun post _ av M => WL_set ad post av M) := by
  refine jHN_of (y := yL_set) (cc := cL_set) (nL := 7) (rm := ({ frames := 10, cells := 1, slots := 6, locals := 195 } : Room)) (own := RL) (hh := [(0, 12, 15, 30), (0, 12, 19, 15)]) (mc := 1) (ms := 6) (fun A U h => h.2.1) (fun A U h => XtC_z ad A U h.1) (tyC_ok cy) hin (XtB_ok ad xs L) Om_good (by decide) rfl ⟨rfl, rfl⟩ ?_
  intro post av M hF
  obtain ⟨p1, p2, p3, rfl, g1, g2, g3, hF⟩ := hF
  refine ⟨Nat.le_of_ble_eq_true rfl, fun J0 J1 h0 h1 tv ti tl tz => ?_⟩
  show J0 0 [(0, .ref (ad 0)), (1, .int (Ii p1)), (2, .int (Ii p2)), (3, .long (Ll p3)), (5, .ref (ad 389))] [] M
  refine j_aload h0 dL_set_0 4 rfl ?_
  refine j_iconst h0 dL_set_2 ?_
  refine j_aload_n h0 dL_set_3 rfl 0 rfl ?_
  refine j_iload_n h0 dL_set_4 rfl 1 rfl ?_
  refine j_iload_n h0 dL_set_5 rfl 2 rfl ?_
  refine j_lload_n h0 dL_set_6 rfl 3 rfl ?_
  obtain ⟨C, Q0, X0, hC, hRC, hw, hQ, hX⟩ := hF
  refine ti _ _ _ _ _ _ 0 _ _ _ _ _ _ _ (fun r M1 => post 0 (ux_ M1 389 0 r)) (fun E M1 => (E = "java/util/NoSuchElementException" ∧ post 1 M1) ∨ (E = "java/lang/IllegalArgumentException" ∧ post 2 M1)) [.int (Ii p1), .int (Ii p2), .long (Ll p3)] [.int (Ii 0), .ref (ad 389)] _ _ (lfX hin (c_X11_set (l := l) (D := D) (cy := cy) (ad := ad) hst (jIn_w hin))) rfl om_1998 ⟨rfl, rfl, Nat.le_of_ble_eq_true rfl, Nat.le_of_ble_eq_true rfl⟩ ⟨om_1999, om_2000, om_2001, om_854⟩ hd_X11_setv kK_0 rfl rfl rfl (Nat.le_of_ble_eq_true rfl) dL_set_7 ⟨C, Q0, X0, hC, hRC, ⟨p1, p2, p3, rfl, g1, g2, g3, hw⟩, hQ, hX⟩ (fun E M1 h8 h9 => ?_) (fun r M1 gr h9 => ?_)
  · rcases h9 with ⟨rfl, h9⟩ | ⟨rfl, h9⟩
    · refine ⟨[], ⟨0, 12, 15, 30⟩, [⟨0, 12, 19, 15⟩], rfl, (fun _ h => nomatch h), by decide, by decide, om_1997, by decide, fun q => ?_⟩
      refine j_astore (lv' := [(6, .ref q), (0, .ref (ad 0)), (1, .int (Ii p1)), (2, .int (Ii p2)), (3, .long (Ll p3)), (5, .ref (ad 389))]) h1 dL_set_15 (by decide) rfl ?_
      refine j_iconst h1 dL_set_17 ?_
      exact j_iret h1 rfl rk_1 dL_set_18 h9
    · refine ⟨[⟨0, 12, 15, 30⟩], ⟨0, 12, 19, 15⟩, [], rfl, (List.forall_mem_cons.mpr ⟨⟨by decide, "java/util/NoSuchElementException", om_1997, by decide, by decide⟩, (fun _ h => nomatch h)⟩), by decide, by decide, om_1983, by decide, fun q => ?_⟩
      refine j_astore (lv' := [(6, .ref q), (0, .ref (ad 0)), (1, .int (Ii p1)), (2, .int (Ii p2)), (3, .long (Ll p3)), (5, .ref (ad 389))]) h1 dL_set_19 (by decide) rfl ?_
      refine j_iconst h1 dL_set_21 ?_
      exact j_iret h1 rfl rk_2 dL_set_22 h9
  · skip
    refine j_i2l h1 gr dL_set_10 ?_
    refine j_last h1 rk_0 (rl_ri gr) kK_389 (by decide) (by decide) dL_set_11 (fun M2 e2 => ?_)
    subst e2
    refine j_goto h1 23 dL_set_12 (by decide) ?_
    refine j_iconst h1 dL_set_23 ?_
    exact j_iret h1 rfl rk_0 dL_set_24 h9
set_option maxHeartbeats 4000000 in
set_option maxRecDepth 100000 in
theorem cl_setStatic {l : Launch} {D : va_G} {cy : Nat → ClassId} {ad : Nat → Nat} {xs : Nat → Int} {L : Nat} (hst : l.stackTraces = false) (hin : jIn ad ksK.length) : jXN l D vwCl (tyC cy) cy ad ftJ ksK (XtB ad xs L) yL_setStatic (.codeWith yL_setStatic cL_setStatic 7 (some .int) [(0, 12, 15, 30), (0, 12, 19, 15)] :: Om) ({ frames := 10, cells := 1, slots := 6, locals := 196 } : Room) 1 1 6 [] (fun post _ av M => WL_setStatic ad post av M) := by
  refine jHN_of (y := yL_setStatic) (cc := cL_setStatic) (nL := 7) (rm := ({ frames := 10, cells := 1, slots := 6, locals := 196 } : Room)) (own := RL) (hh := [(0, 12, 15, 30), (0, 12, 19, 15)]) (mc := 1) (ms := 6) (fun A U h => h.2.1) (fun A U h => XtC_z ad A U h.1) (tyC_ok cy) hin (XtB_ok ad xs L) Om_good (by decide) rfl ⟨rfl, rfl⟩ ?_
  intro post av M hF
  obtain ⟨p1, p2, p3, rfl, g1, g2, g3, hF⟩ := hF
  refine ⟨Nat.le_of_ble_eq_true rfl, fun J0 J1 h0 h1 tv ti tl tz => ?_⟩
  show J0 0 [(0, .ref (ad 0)), (1, .int (Ii p1)), (2, .int (Ii p2)), (3, .long (Ll p3)), (5, .ref (ad 389))] [] M
  refine j_aload h0 dL_setStatic_0 4 rfl ?_
  refine j_iconst h0 dL_setStatic_2 ?_
  refine j_aload_n h0 dL_setStatic_3 rfl 0 rfl ?_
  refine j_iload_n h0 dL_setStatic_4 rfl 1 rfl ?_
  refine j_iload_n h0 dL_setStatic_5 rfl 2 rfl ?_
  refine j_lload_n h0 dL_setStatic_6 rfl 3 rfl ?_
  obtain ⟨C, Q0, X0, hC, hRC, hw, hQ, hX⟩ := hF
  refine ti _ _ _ _ _ _ 0 _ _ _ _ _ _ _ (fun r M1 => post 0 (ux_ M1 389 0 r)) (fun E M1 => (E = "java/util/NoSuchElementException" ∧ post 1 M1) ∨ (E = "java/lang/IllegalArgumentException" ∧ post 2 M1)) [.int (Ii p1), .int (Ii p2), .long (Ll p3)] [.int (Ii 0), .ref (ad 389)] _ _ (lfX hin (c_X11_setStatic (l := l) (D := D) (cy := cy) (ad := ad) hst (jIn_w hin))) rfl om_2002 ⟨rfl, rfl, Nat.le_of_ble_eq_true rfl, Nat.le_of_ble_eq_true rfl⟩ ⟨om_2003, om_2004, om_2005, om_854⟩ hd_X11_setStaticv kK_0 rfl rfl rfl (Nat.le_of_ble_eq_true rfl) dL_setStatic_7 ⟨C, Q0, X0, hC, hRC, ⟨p1, p2, p3, rfl, g1, g2, g3, hw⟩, hQ, hX⟩ (fun E M1 h8 h9 => ?_) (fun r M1 gr h9 => ?_)
  · rcases h9 with ⟨rfl, h9⟩ | ⟨rfl, h9⟩
    · refine ⟨[], ⟨0, 12, 15, 30⟩, [⟨0, 12, 19, 15⟩], rfl, (fun _ h => nomatch h), by decide, by decide, om_1997, by decide, fun q => ?_⟩
      refine j_astore (lv' := [(6, .ref q), (0, .ref (ad 0)), (1, .int (Ii p1)), (2, .int (Ii p2)), (3, .long (Ll p3)), (5, .ref (ad 389))]) h1 dL_setStatic_15 (by decide) rfl ?_
      refine j_iconst h1 dL_setStatic_17 ?_
      exact j_iret h1 rfl rk_1 dL_setStatic_18 h9
    · refine ⟨[⟨0, 12, 15, 30⟩], ⟨0, 12, 19, 15⟩, [], rfl, (List.forall_mem_cons.mpr ⟨⟨by decide, "java/util/NoSuchElementException", om_1997, by decide, by decide⟩, (fun _ h => nomatch h)⟩), by decide, by decide, om_1983, by decide, fun q => ?_⟩
      refine j_astore (lv' := [(6, .ref q), (0, .ref (ad 0)), (1, .int (Ii p1)), (2, .int (Ii p2)), (3, .long (Ll p3)), (5, .ref (ad 389))]) h1 dL_setStatic_19 (by decide) rfl ?_
      refine j_iconst h1 dL_setStatic_21 ?_
      exact j_iret h1 rfl rk_2 dL_setStatic_22 h9
  · skip
    refine j_i2l h1 gr dL_setStatic_10 ?_
    refine j_last h1 rk_0 (rl_ri gr) kK_389 (by decide) (by decide) dL_setStatic_11 (fun M2 e2 => ?_)
    subst e2
    refine j_goto h1 23 dL_setStatic_12 (by decide) ?_
    refine j_iconst h1 dL_setStatic_23 ?_
    exact j_iret h1 rfl rk_0 dL_setStatic_24 h9
set_option maxHeartbeats 4000000 in
set_option maxRecDepth 100000 in
theorem cl_get {l : Launch} {D : va_G} {cy : Nat → ClassId} {ad : Nat → Nat} {xs : Nat → Int} {L : Nat} (hst : l.stackTraces = false) (hin : jIn ad ksK.length) : jXN l D vwCl (tyC cy) cy ad ftJ ksK (XtB ad xs L) yL_get (.codeWith yL_get cL_get 5 (some .int) [(0, 9, 12, 30)] :: Om) ({ frames := 10, cells := 1, slots := 6, locals := 162 } : Room) 1 1 6 [] (fun post _ av M => WL_get ad post av M) := by
  refine jHN_of (y := yL_get) (cc := cL_get) (nL := 5) (rm := ({ frames := 10, cells := 1, slots := 6, locals := 162 } : Room)) (own := RL) (hh := [(0, 9, 12, 30)]) (mc := 1) (ms := 6) (fun A U h => h.2.1) (fun A U h => XtC_z ad A U h.1) (tyC_ok cy) hin (XtB_ok ad xs L) Om_good (by decide) rfl ⟨rfl, rfl⟩ ?_
  intro post av M hF
  obtain ⟨p1, p2, rfl, g1, g2, hF⟩ := hF
  refine ⟨Nat.le_of_ble_eq_true rfl, fun J0 J1 h0 h1 tv ti tl tz => ?_⟩
  show J0 0 [(0, .ref (ad 0)), (1, .int (Ii p1)), (2, .int (Ii p2)), (3, .ref (ad 389))] [] M
  refine j_aload_n h0 dL_get_0 rfl 3 rfl ?_
  refine j_iconst h0 dL_get_1 ?_
  refine j_aload_n h0 dL_get_2 rfl 0 rfl ?_
  refine j_iload_n h0 dL_get_3 rfl 1 rfl ?_
  refine j_iload_n h0 dL_get_4 rfl 2 rfl ?_
  obtain ⟨C, Q0, X0, hC, hRC, hw, hQ, hX⟩ := hF
  refine tl _ _ _ _ _ _ 0 _ _ _ _ _ _ _ (fun r M1 => post 0 (ux_ M1 389 0 r)) (fun E M1 => (E = "java/util/NoSuchElementException" ∧ post 1 M1)) [.int (Ii p1), .int (Ii p2)] [.int (Ii 0), .ref (ad 389)] _ _ (lfX hin (c_X11_get (l := l) (D := D) (cy := cy) (ad := ad) hst (jIn_w hin))) rfl om_2006 ⟨rfl, rfl, Nat.le_of_ble_eq_true rfl, Nat.le_of_ble_eq_true rfl⟩ ⟨om_2007, om_2008, om_2009, om_854⟩ hd_X11_getv kK_0 rfl rfl rfl (Nat.le_of_ble_eq_true rfl) dL_get_5 ⟨C, Q0, X0, hC, hRC, ⟨p1, p2, rfl, g1, g2, hw⟩, hQ, hX⟩ (fun E M1 h8 h9 => ?_) (fun r M1 gr h9 => ?_)
  · rcases h9 with ⟨rfl, h9⟩
    · refine ⟨[], ⟨0, 9, 12, 30⟩, [], rfl, (fun _ h => nomatch h), by decide, by decide, om_1997, by decide, fun q => ?_⟩
      refine j_astore (lv' := [(4, .ref q), (0, .ref (ad 0)), (1, .int (Ii p1)), (2, .int (Ii p2)), (3, .ref (ad 389))]) h1 dL_get_12 (by decide) rfl ?_
      refine j_iconst h1 dL_get_14 ?_
      exact j_iret h1 rfl rk_1 dL_get_15 h9
  · skip
    refine j_last h1 rk_0 gr kK_389 (by decide) (by decide) dL_get_8 (fun M2 e2 => ?_)
    subst e2
    refine j_goto h1 16 dL_get_9 (by decide) ?_
    refine j_iconst h1 dL_get_16 ?_
    exact j_iret h1 rfl rk_0 dL_get_17 h9
set_option maxHeartbeats 4000000 in
set_option maxRecDepth 100000 in
theorem cl_getStatic {l : Launch} {D : va_G} {cy : Nat → ClassId} {ad : Nat → Nat} {xs : Nat → Int} {L : Nat} (hst : l.stackTraces = false) (hin : jIn ad ksK.length) : jXN l D vwCl (tyC cy) cy ad ftJ ksK (XtB ad xs L) yL_getStatic (.codeWith yL_getStatic cL_getStatic 5 (some .int) [(0, 9, 12, 30)] :: Om) ({ frames := 10, cells := 1, slots := 6, locals := 163 } : Room) 1 1 6 [] (fun post _ av M => WL_getStatic ad post av M) := by
  refine jHN_of (y := yL_getStatic) (cc := cL_getStatic) (nL := 5) (rm := ({ frames := 10, cells := 1, slots := 6, locals := 163 } : Room)) (own := RL) (hh := [(0, 9, 12, 30)]) (mc := 1) (ms := 6) (fun A U h => h.2.1) (fun A U h => XtC_z ad A U h.1) (tyC_ok cy) hin (XtB_ok ad xs L) Om_good (by decide) rfl ⟨rfl, rfl⟩ ?_
  intro post av M hF
  obtain ⟨p1, p2, rfl, g1, g2, hF⟩ := hF
  refine ⟨Nat.le_of_ble_eq_true rfl, fun J0 J1 h0 h1 tv ti tl tz => ?_⟩
  show J0 0 [(0, .ref (ad 0)), (1, .int (Ii p1)), (2, .int (Ii p2)), (3, .ref (ad 389))] [] M
  refine j_aload_n h0 dL_getStatic_0 rfl 3 rfl ?_
  refine j_iconst h0 dL_getStatic_1 ?_
  refine j_aload_n h0 dL_getStatic_2 rfl 0 rfl ?_
  refine j_iload_n h0 dL_getStatic_3 rfl 1 rfl ?_
  refine j_iload_n h0 dL_getStatic_4 rfl 2 rfl ?_
  obtain ⟨C, Q0, X0, hC, hRC, hw, hQ, hX⟩ := hF
  refine tl _ _ _ _ _ _ 0 _ _ _ _ _ _ _ (fun r M1 => post 0 (ux_ M1 389 0 r)) (fun E M1 => (E = "java/util/NoSuchElementException" ∧ post 1 M1)) [.int (Ii p1), .int (Ii p2)] [.int (Ii 0), .ref (ad 389)] _ _ (lfX hin (c_X11_getStatic (l := l) (D := D) (cy := cy) (ad := ad) hst (jIn_w hin))) rfl om_2010 ⟨rfl, rfl, Nat.le_of_ble_eq_true rfl, Nat.le_of_ble_eq_true rfl⟩ ⟨om_2011, om_2012, om_2013, om_854⟩ hd_X11_getStaticv kK_0 rfl rfl rfl (Nat.le_of_ble_eq_true rfl) dL_getStatic_5 ⟨C, Q0, X0, hC, hRC, ⟨p1, p2, rfl, g1, g2, hw⟩, hQ, hX⟩ (fun E M1 h8 h9 => ?_) (fun r M1 gr h9 => ?_)
  · rcases h9 with ⟨rfl, h9⟩
    · refine ⟨[], ⟨0, 9, 12, 30⟩, [], rfl, (fun _ h => nomatch h), by decide, by decide, om_1997, by decide, fun q => ?_⟩
      refine j_astore (lv' := [(4, .ref q), (0, .ref (ad 0)), (1, .int (Ii p1)), (2, .int (Ii p2)), (3, .ref (ad 389))]) h1 dL_getStatic_12 (by decide) rfl ?_
      refine j_iconst h1 dL_getStatic_14 ?_
      exact j_iret h1 rfl rk_1 dL_getStatic_15 h9
  · skip
    refine j_last h1 rk_0 gr kK_389 (by decide) (by decide) dL_getStatic_8 (fun M2 e2 => ?_)
    subst e2
    refine j_goto h1 16 dL_getStatic_9 (by decide) ?_
    refine j_iconst h1 dL_getStatic_16 ?_
    exact j_iret h1 rfl rk_0 dL_getStatic_17 h9
set_option maxHeartbeats 4000000 in
set_option maxRecDepth 100000 in
theorem cl_swap {l : Launch} {D : va_G} {cy : Nat → ClassId} {ad : Nat → Nat} {xs : Nat → Int} {L : Nat} (hst : l.stackTraces = false) (hin : jIn ad ksK.length) : jXN l D vwCl (tyC cy) cy ad ftJ ksK (XtB ad xs L) yL_swap (.codeWith yL_swap cL_swap 5 (some .int) [(0, 10, 13, 30), (0, 10, 17, 15)] :: Om) ({ frames := 10, cells := 1, slots := 6, locals := 192 } : Room) 1 1 6 [] (fun post _ av M => WL_swap ad post av M) := by
  refine jHN_of (y := yL_swap) (cc := cL_swap) (nL := 5) (rm := ({ frames := 10, cells := 1, slots := 6, locals := 192 } : Room)) (own := RL) (hh := [(0, 10, 13, 30), (0, 10, 17, 15)]) (mc := 1) (ms := 6) (fun A U h => h.2.1) (fun A U h => XtC_z ad A U h.1) (tyC_ok cy) hin (XtB_ok ad xs L) Om_good (by decide) rfl ⟨rfl, rfl⟩ ?_
  intro post av M hF
  obtain ⟨p1, p2, rfl, g1, g2, hF⟩ := hF
  refine ⟨Nat.le_of_ble_eq_true rfl, fun J0 J1 h0 h1 tv ti tl tz => ?_⟩
  show J0 0 [(0, .ref (ad 0)), (1, .int (Ii p1)), (2, .int (Ii p2)), (3, .ref (ad 389))] [] M
  refine j_aload_n h0 dL_swap_0 rfl 3 rfl ?_
  refine j_iconst h0 dL_swap_1 ?_
  refine j_aload_n h0 dL_swap_2 rfl 0 rfl ?_
  refine j_iload_n h0 dL_swap_3 rfl 1 rfl ?_
  refine j_iload_n h0 dL_swap_4 rfl 2 rfl ?_
  obtain ⟨C, Q0, X0, hC, hRC, hw, hQ, hX⟩ := hF
  refine ti _ _ _ _ _ _ 0 _ _ _ _ _ _ _ (fun r M1 => post 0 (ux_ M1 389 0 r)) (fun E M1 => (E = "java/util/NoSuchElementException" ∧ post 1 M1) ∨ (E = "java/lang/IllegalArgumentException" ∧ post 2 M1)) [.int (Ii p1), .int (Ii p2)] [.int (Ii 0), .ref (ad 389)] _ _ (lfX hin (c_X11_swap (l := l) (D := D) (cy := cy) (ad := ad) hst (jIn_w hin))) rfl om_2014 ⟨rfl, rfl, Nat.le_of_ble_eq_true rfl, Nat.le_of_ble_eq_true rfl⟩ ⟨om_2015, om_2016, om_2017, om_854⟩ hd_X11_swapv kK_0 rfl rfl rfl (Nat.le_of_ble_eq_true rfl) dL_swap_5 ⟨C, Q0, X0, hC, hRC, ⟨p1, p2, rfl, g1, g2, hw⟩, hQ, hX⟩ (fun E M1 h8 h9 => ?_) (fun r M1 gr h9 => ?_)
  · rcases h9 with ⟨rfl, h9⟩ | ⟨rfl, h9⟩
    · refine ⟨[], ⟨0, 10, 13, 30⟩, [⟨0, 10, 17, 15⟩], rfl, (fun _ h => nomatch h), by decide, by decide, om_1997, by decide, fun q => ?_⟩
      refine j_astore (lv' := [(4, .ref q), (0, .ref (ad 0)), (1, .int (Ii p1)), (2, .int (Ii p2)), (3, .ref (ad 389))]) h1 dL_swap_13 (by decide) rfl ?_
      refine j_iconst h1 dL_swap_15 ?_
      exact j_iret h1 rfl rk_1 dL_swap_16 h9
    · refine ⟨[⟨0, 10, 13, 30⟩], ⟨0, 10, 17, 15⟩, [], rfl, (List.forall_mem_cons.mpr ⟨⟨by decide, "java/util/NoSuchElementException", om_1997, by decide, by decide⟩, (fun _ h => nomatch h)⟩), by decide, by decide, om_1983, by decide, fun q => ?_⟩
      refine j_astore (lv' := [(4, .ref q), (0, .ref (ad 0)), (1, .int (Ii p1)), (2, .int (Ii p2)), (3, .ref (ad 389))]) h1 dL_swap_17 (by decide) rfl ?_
      refine j_iconst h1 dL_swap_19 ?_
      exact j_iret h1 rfl rk_2 dL_swap_20 h9
  · skip
    refine j_i2l h1 gr dL_swap_8 ?_
    refine j_last h1 rk_0 (rl_ri gr) kK_389 (by decide) (by decide) dL_swap_9 (fun M2 e2 => ?_)
    subst e2
    refine j_goto h1 21 dL_swap_10 (by decide) ?_
    refine j_iconst h1 dL_swap_21 ?_
    exact j_iret h1 rfl rk_0 dL_swap_22 h9
set_option maxHeartbeats 4000000 in
set_option maxRecDepth 100000 in
theorem cl_copy {l : Launch} {D : va_G} {cy : Nat → ClassId} {ad : Nat → Nat} {xs : Nat → Int} {L : Nat} (hst : l.stackTraces = false) (hin : jIn ad ksK.length) : jXN l D vwCl (tyC cy) cy ad ftJ ksK (XtB ad xs L) yL_copy (.codeWith yL_copy cL_copy 5 (some .int) [(0, 10, 13, 30), (0, 10, 17, 15), (0, 10, 21, 17)] :: Om) ({ frames := 10, cells := 1, slots := 6, locals := 163 } : Room) 1 1 6 [] (fun post _ av M => WL_copy ad post av M) := by
  refine jHN_of (y := yL_copy) (cc := cL_copy) (nL := 5) (rm := ({ frames := 10, cells := 1, slots := 6, locals := 163 } : Room)) (own := RL) (hh := [(0, 10, 13, 30), (0, 10, 17, 15), (0, 10, 21, 17)]) (mc := 1) (ms := 6) (fun A U h => h.2.1) (fun A U h => XtC_z ad A U h.1) (tyC_ok cy) hin (XtB_ok ad xs L) Om_good (by decide) rfl ⟨rfl, rfl⟩ ?_
  intro post av M hF
  obtain ⟨p1, p2, rfl, g1, g2, hF⟩ := hF
  refine ⟨Nat.le_of_ble_eq_true rfl, fun J0 J1 h0 h1 tv ti tl tz => ?_⟩
  show J0 0 [(0, .ref (ad 0)), (1, .int (Ii p1)), (2, .int (Ii p2)), (3, .ref (ad 389))] [] M
  refine j_aload_n h0 dL_copy_0 rfl 3 rfl ?_
  refine j_iconst h0 dL_copy_1 ?_
  refine j_aload_n h0 dL_copy_2 rfl 0 rfl ?_
  refine j_iload_n h0 dL_copy_3 rfl 1 rfl ?_
  refine j_iload_n h0 dL_copy_4 rfl 2 rfl ?_
  obtain ⟨C, Q0, X0, hC, hRC, hw, hQ, hX⟩ := hF
  refine ti _ _ _ _ _ _ 0 _ _ _ _ _ _ _ (fun r M1 => post 0 (ux_ M1 389 0 r)) (fun E M1 => (E = "java/util/NoSuchElementException" ∧ post 1 M1) ∨ (E = "java/lang/IllegalArgumentException" ∧ post 2 M1) ∨ (E = "java/lang/IllegalStateException" ∧ post 3 M1)) [.int (Ii p1), .int (Ii p2)] [.int (Ii 0), .ref (ad 389)] _ _ (lfX hin (c_X11_copy (l := l) (D := D) (cy := cy) (ad := ad) hst (jIn_w hin))) rfl om_2018 ⟨rfl, rfl, Nat.le_of_ble_eq_true rfl, Nat.le_of_ble_eq_true rfl⟩ ⟨om_2019, om_2020, om_2021, om_854⟩ hd_X11_copyv kK_0 rfl rfl rfl (Nat.le_of_ble_eq_true rfl) dL_copy_5 ⟨C, Q0, X0, hC, hRC, ⟨p1, p2, rfl, g1, g2, hw⟩, hQ, hX⟩ (fun E M1 h8 h9 => ?_) (fun r M1 gr h9 => ?_)
  · rcases h9 with ⟨rfl, h9⟩ | ⟨rfl, h9⟩ | ⟨rfl, h9⟩
    · refine ⟨[], ⟨0, 10, 13, 30⟩, [⟨0, 10, 17, 15⟩, ⟨0, 10, 21, 17⟩], rfl, (fun _ h => nomatch h), by decide, by decide, om_1997, by decide, fun q => ?_⟩
      refine j_astore (lv' := [(4, .ref q), (0, .ref (ad 0)), (1, .int (Ii p1)), (2, .int (Ii p2)), (3, .ref (ad 389))]) h1 dL_copy_13 (by decide) rfl ?_
      refine j_iconst h1 dL_copy_15 ?_
      exact j_iret h1 rfl rk_1 dL_copy_16 h9
    · refine ⟨[⟨0, 10, 13, 30⟩], ⟨0, 10, 17, 15⟩, [⟨0, 10, 21, 17⟩], rfl, (List.forall_mem_cons.mpr ⟨⟨by decide, "java/util/NoSuchElementException", om_1997, by decide, by decide⟩, (fun _ h => nomatch h)⟩), by decide, by decide, om_1983, by decide, fun q => ?_⟩
      refine j_astore (lv' := [(4, .ref q), (0, .ref (ad 0)), (1, .int (Ii p1)), (2, .int (Ii p2)), (3, .ref (ad 389))]) h1 dL_copy_17 (by decide) rfl ?_
      refine j_iconst h1 dL_copy_19 ?_
      exact j_iret h1 rfl rk_2 dL_copy_20 h9
    · refine ⟨[⟨0, 10, 13, 30⟩, ⟨0, 10, 17, 15⟩], ⟨0, 10, 21, 17⟩, [], rfl, (List.forall_mem_cons.mpr ⟨⟨by decide, "java/util/NoSuchElementException", om_1997, by decide, by decide⟩, (List.forall_mem_cons.mpr ⟨⟨by decide, "java/lang/IllegalArgumentException", om_1983, by decide, by decide⟩, (fun _ h => nomatch h)⟩)⟩), by decide, by decide, om_1984, by decide, fun q => ?_⟩
      refine j_astore (lv' := [(4, .ref q), (0, .ref (ad 0)), (1, .int (Ii p1)), (2, .int (Ii p2)), (3, .ref (ad 389))]) h1 dL_copy_21 (by decide) rfl ?_
      refine j_iconst h1 dL_copy_23 ?_
      exact j_iret h1 rfl rk_3 dL_copy_24 h9
  · skip
    refine j_i2l h1 gr dL_copy_8 ?_
    refine j_last h1 rk_0 (rl_ri gr) kK_389 (by decide) (by decide) dL_copy_9 (fun M2 e2 => ?_)
    subst e2
    refine j_goto h1 25 dL_copy_10 (by decide) ?_
    refine j_iconst h1 dL_copy_25 ?_
    exact j_iret h1 rfl rk_0 dL_copy_26 h9
set_option maxHeartbeats 4000000 in
set_option maxRecDepth 100000 in
theorem cl_watch {l : Launch} {D : va_G} {cy : Nat → ClassId} {ad : Nat → Nat} {xs : Nat → Int} {L : Nat} (hst : l.stackTraces = false) (hin : jIn ad ksK.length) : jXN l D vwCl (tyC cy) cy ad ftJ ksK (XtB ad xs L) yL_watch (.codeWith yL_watch cL_watch 6 (some .int) [(0, 12, 15, 30), (0, 12, 19, 15), (0, 12, 23, 17)] :: Om) ({ frames := 10, cells := 1, slots := 6, locals := 163 } : Room) 1 1 6 [] (fun post _ av M => WL_watch ad post av M) := by
  refine jHN_of (y := yL_watch) (cc := cL_watch) (nL := 6) (rm := ({ frames := 10, cells := 1, slots := 6, locals := 163 } : Room)) (own := RL) (hh := [(0, 12, 15, 30), (0, 12, 19, 15), (0, 12, 23, 17)]) (mc := 1) (ms := 6) (fun A U h => h.2.1) (fun A U h => XtC_z ad A U h.1) (tyC_ok cy) hin (XtB_ok ad xs L) Om_good (by decide) rfl ⟨rfl, rfl⟩ ?_
  intro post av M hF
  obtain ⟨p1, p2, p3, rfl, g1, g2, g3, hF⟩ := hF
  refine ⟨Nat.le_of_ble_eq_true rfl, fun J0 J1 h0 h1 tv ti tl tz => ?_⟩
  show J0 0 [(0, .ref (ad 0)), (1, .int (Ii p1)), (2, .int (Ii p2)), (3, .int (Ii p3)), (4, .ref (ad 389))] [] M
  refine j_aload h0 dL_watch_0 4 rfl ?_
  refine j_iconst h0 dL_watch_2 ?_
  refine j_aload_n h0 dL_watch_3 rfl 0 rfl ?_
  refine j_iload_n h0 dL_watch_4 rfl 1 rfl ?_
  refine j_iload_n h0 dL_watch_5 rfl 2 rfl ?_
  refine j_iload_n h0 dL_watch_6 rfl 3 rfl ?_
  obtain ⟨C, Q0, X0, hC, hRC, hw, hQ, hX⟩ := hF
  refine ti _ _ _ _ _ _ 0 _ _ _ _ _ _ _ (fun r M1 => post 0 (ux_ M1 389 0 r)) (fun E M1 => (E = "java/util/NoSuchElementException" ∧ post 1 M1) ∨ (E = "java/lang/IllegalArgumentException" ∧ post 2 M1) ∨ (E = "java/lang/IllegalStateException" ∧ post 3 M1)) [.int (Ii p1), .int (Ii p2), .int (Ii p3)] [.int (Ii 0), .ref (ad 389)] _ _ (lfX hin (c_X11_watch (l := l) (D := D) (cy := cy) (ad := ad) hst (jIn_w hin))) rfl om_2022 ⟨rfl, rfl, Nat.le_of_ble_eq_true rfl, Nat.le_of_ble_eq_true rfl⟩ ⟨om_2023, om_2024, om_2025, om_854⟩ hd_X11_watchv kK_0 rfl rfl rfl (Nat.le_of_ble_eq_true rfl) dL_watch_7 ⟨C, Q0, X0, hC, hRC, ⟨p1, p2, p3, rfl, g1, g2, g3, hw⟩, hQ, hX⟩ (fun E M1 h8 h9 => ?_) (fun r M1 gr h9 => ?_)
  · rcases h9 with ⟨rfl, h9⟩ | ⟨rfl, h9⟩ | ⟨rfl, h9⟩
    · refine ⟨[], ⟨0, 12, 15, 30⟩, [⟨0, 12, 19, 15⟩, ⟨0, 12, 23, 17⟩], rfl, (fun _ h => nomatch h), by decide, by decide, om_1997, by decide, fun q => ?_⟩
      refine j_astore (lv' := [(5, .ref q), (0, .ref (ad 0)), (1, .int (Ii p1)), (2, .int (Ii p2)), (3, .int (Ii p3)), (4, .ref (ad 389))]) h1 dL_watch_15 (by decide) rfl ?_
      refine j_iconst h1 dL_watch_17 ?_
      exact j_iret h1 rfl rk_1 dL_watch_18 h9
    · refine ⟨[⟨0, 12, 15, 30⟩], ⟨0, 12, 19, 15⟩, [⟨0, 12, 23, 17⟩], rfl, (List.forall_mem_cons.mpr ⟨⟨by decide, "java/util/NoSuchElementException", om_1997, by decide, by decide⟩, (fun _ h => nomatch h)⟩), by decide, by decide, om_1983, by decide, fun q => ?_⟩
      refine j_astore (lv' := [(5, .ref q), (0, .ref (ad 0)), (1, .int (Ii p1)), (2, .int (Ii p2)), (3, .int (Ii p3)), (4, .ref (ad 389))]) h1 dL_watch_19 (by decide) rfl ?_
      refine j_iconst h1 dL_watch_21 ?_
      exact j_iret h1 rfl rk_2 dL_watch_22 h9
    · refine ⟨[⟨0, 12, 15, 30⟩, ⟨0, 12, 19, 15⟩], ⟨0, 12, 23, 17⟩, [], rfl, (List.forall_mem_cons.mpr ⟨⟨by decide, "java/util/NoSuchElementException", om_1997, by decide, by decide⟩, (List.forall_mem_cons.mpr ⟨⟨by decide, "java/lang/IllegalArgumentException", om_1983, by decide, by decide⟩, (fun _ h => nomatch h)⟩)⟩), by decide, by decide, om_1984, by decide, fun q => ?_⟩
      refine j_astore (lv' := [(5, .ref q), (0, .ref (ad 0)), (1, .int (Ii p1)), (2, .int (Ii p2)), (3, .int (Ii p3)), (4, .ref (ad 389))]) h1 dL_watch_23 (by decide) rfl ?_
      refine j_iconst h1 dL_watch_25 ?_
      exact j_iret h1 rfl rk_3 dL_watch_26 h9
  · skip
    refine j_i2l h1 gr dL_watch_10 ?_
    refine j_last h1 rk_0 (rl_ri gr) kK_389 (by decide) (by decide) dL_watch_11 (fun M2 e2 => ?_)
    subst e2
    refine j_goto h1 27 dL_watch_12 (by decide) ?_
    refine j_iconst h1 dL_watch_27 ?_
    exact j_iret h1 rfl rk_0 dL_watch_28 h9
set_option maxHeartbeats 4000000 in
set_option maxRecDepth 100000 in
theorem cl_row {l : Launch} {D : va_G} {cy : Nat → ClassId} {ad : Nat → Nat} {xs : Nat → Int} {L : Nat} (hst : l.stackTraces = false) (hin : jIn ad ksK.length) : jXN l D vwCl (tyC cy) cy ad ftJ ksK (XtB ad xs L) yL_row (.codeWith yL_row cL_row 6 (some .int) [(0, 11, 14, 30)] :: Om) ({ frames := 10, cells := 1, slots := 6, locals := 163 } : Room) 1 1 6 [] (fun post _ av M => WL_row ad post av M) := by
  refine jHN_of (y := yL_row) (cc := cL_row) (nL := 6) (rm := ({ frames := 10, cells := 1, slots := 6, locals := 163 } : Room)) (own := RL) (hh := [(0, 11, 14, 30)]) (mc := 1) (ms := 6) (fun A U h => h.2.1) (fun A U h => XtC_z ad A U h.1) (tyC_ok cy) hin (XtB_ok ad xs L) Om_good (by decide) rfl ⟨rfl, rfl⟩ ?_
  intro post av M hF
  obtain ⟨p1, p2, p3, rfl, g1, g2, g3, hF⟩ := hF
  refine ⟨Nat.le_of_ble_eq_true rfl, fun J0 J1 h0 h1 tv ti tl tz => ?_⟩
  show J0 0 [(0, .ref (ad 0)), (1, .int (Ii p1)), (2, .int (Ii p2)), (3, .int (Ii p3)), (4, .ref (ad 389))] [] M
  refine j_aload h0 dL_row_0 4 rfl ?_
  refine j_iconst h0 dL_row_2 ?_
  refine j_aload_n h0 dL_row_3 rfl 0 rfl ?_
  refine j_iload_n h0 dL_row_4 rfl 1 rfl ?_
  refine j_iload_n h0 dL_row_5 rfl 2 rfl ?_
  refine j_iload_n h0 dL_row_6 rfl 3 rfl ?_
  obtain ⟨C, Q0, X0, hC, hRC, hw, hQ, hX⟩ := hF
  refine tl _ _ _ _ _ _ 0 _ _ _ _ _ _ _ (fun r M1 => post 0 (ux_ M1 389 0 r)) (fun E M1 => (E = "java/util/NoSuchElementException" ∧ post 1 M1)) [.int (Ii p1), .int (Ii p2), .int (Ii p3)] [.int (Ii 0), .ref (ad 389)] _ _ (lfX hin (c_X11_row (l := l) (D := D) (cy := cy) (ad := ad) hst (jIn_w hin))) rfl om_2026 ⟨rfl, rfl, Nat.le_of_ble_eq_true rfl, Nat.le_of_ble_eq_true rfl⟩ ⟨om_2027, om_2028, om_2029, om_854⟩ hd_X11_rowv kK_0 rfl rfl rfl (Nat.le_of_ble_eq_true rfl) dL_row_7 ⟨C, Q0, X0, hC, hRC, ⟨p1, p2, p3, rfl, g1, g2, g3, hw⟩, hQ, hX⟩ (fun E M1 h8 h9 => ?_) (fun r M1 gr h9 => ?_)
  · rcases h9 with ⟨rfl, h9⟩
    · refine ⟨[], ⟨0, 11, 14, 30⟩, [], rfl, (fun _ h => nomatch h), by decide, by decide, om_1997, by decide, fun q => ?_⟩
      refine j_astore (lv' := [(5, .ref q), (0, .ref (ad 0)), (1, .int (Ii p1)), (2, .int (Ii p2)), (3, .int (Ii p3)), (4, .ref (ad 389))]) h1 dL_row_14 (by decide) rfl ?_
      refine j_iconst h1 dL_row_16 ?_
      exact j_iret h1 rfl rk_1 dL_row_17 h9
  · skip
    refine j_last h1 rk_0 gr kK_389 (by decide) (by decide) dL_row_10 (fun M2 e2 => ?_)
    subst e2
    refine j_goto h1 18 dL_row_11 (by decide) ?_
    refine j_iconst h1 dL_row_18 ?_
    exact j_iret h1 rfl rk_0 dL_row_19 h9
set_option maxHeartbeats 4000000 in
set_option maxRecDepth 100000 in
theorem cl_promise {l : Launch} {D : va_G} {cy : Nat → ClassId} {ad : Nat → Nat} {xs : Nat → Int} {L : Nat} (hst : l.stackTraces = false) (hin : jIn ad ksK.length) : jXN l D vwCl (tyC cy) cy ad ftJ ksK (XtB ad xs L) yL_promise (.codeWith yL_promise cL_promise 3 (some .int) [(0, 8, 11, 17), (0, 8, 14, 15)] :: Om) ({ frames := 307, cells := 1, slots := 6, locals := 7375 } : Room) 1 1 6 [] (fun post _ av M => WL_promise ad post av M) := by
  refine jHN_of (y := yL_promise) (cc := cL_promise) (nL := 3) (rm := ({ frames := 307, cells := 1, slots := 6, locals := 7375 } : Room)) (own := RL) (hh := [(0, 8, 11, 17), (0, 8, 14, 15)]) (mc := 1) (ms := 6) (fun A U h => h.2.1) (fun A U h => XtC_z ad A U h.1) (tyC_ok cy) hin (XtB_ok ad xs L) Om_good (by decide) rfl ⟨rfl, rfl⟩ ?_
  intro post av M hF
  obtain ⟨rfl, hF⟩ := hF
  refine ⟨Nat.le_of_ble_eq_true rfl, fun J0 J1 h0 h1 tv ti tl tz => ?_⟩
  show J0 0 [(0, .ref (ad 0)), (1, .ref (ad 389))] [] M
  refine j_aload_n h0 dL_promise_0 rfl 1 rfl ?_
  refine j_iconst h0 dL_promise_1 ?_
  refine j_aload_n h0 dL_promise_2 rfl 0 rfl ?_
  obtain ⟨C, Q0, X0, hC, hRC, hw, hQ, hX⟩ := hF
  refine ti _ _ _ _ _ _ 0 _ _ _ _ _ _ _ (fun r M1 => post 0 (ux_ M1 389 0 r)) (fun E M1 => (E = "java/lang/IllegalStateException" ∧ post 1 M1) ∨ (E = "java/lang/IllegalArgumentException" ∧ post 2 M1)) [] [.int (Ii 0), .ref (ad 389)] _ _ (lfX hin (c_X11_promise (l := l) (D := D) (cy := cy) (ad := ad) hst (jIn_w hin))) rfl om_2030 ⟨rfl, rfl, Nat.le_of_ble_eq_true rfl, Nat.le_of_ble_eq_true rfl⟩ ⟨om_2031, om_2032, om_2033, om_854⟩ hd_X11_promisev kK_0 rfl rfl rfl (Nat.le_of_ble_eq_true rfl) dL_promise_3 ⟨C, Q0, X0, hC, hRC, ⟨rfl, hw⟩, hQ, hX⟩ (fun E M1 h8 h9 => ?_) (fun r M1 gr h9 => ?_)
  · rcases h9 with ⟨rfl, h9⟩ | ⟨rfl, h9⟩
    · refine ⟨[], ⟨0, 8, 11, 17⟩, [⟨0, 8, 14, 15⟩], rfl, (fun _ h => nomatch h), by decide, by decide, om_1984, by decide, fun q => ?_⟩
      refine j_astore_n (lv' := [(2, .ref q), (0, .ref (ad 0)), (1, .ref (ad 389))]) h1 dL_promise_11 rfl (by decide) rfl ?_
      refine j_iconst h1 dL_promise_12 ?_
      exact j_iret h1 rfl rk_1 dL_promise_13 h9
    · refine ⟨[⟨0, 8, 11, 17⟩], ⟨0, 8, 14, 15⟩, [], rfl, (List.forall_mem_cons.mpr ⟨⟨by decide, "java/lang/IllegalStateException", om_1984, by decide, by decide⟩, (fun _ h => nomatch h)⟩), by decide, by decide, om_1983, by decide, fun q => ?_⟩
      refine j_astore_n (lv' := [(2, .ref q), (0, .ref (ad 0)), (1, .ref (ad 389))]) h1 dL_promise_14 rfl (by decide) rfl ?_
      refine j_iconst h1 dL_promise_15 ?_
      exact j_iret h1 rfl rk_2 dL_promise_16 h9
  · skip
    refine j_i2l h1 gr dL_promise_6 ?_
    refine j_last h1 rk_0 (rl_ri gr) kK_389 (by decide) (by decide) dL_promise_7 (fun M2 e2 => ?_)
    subst e2
    refine j_goto h1 17 dL_promise_8 (by decide) ?_
    refine j_iconst h1 dL_promise_17 ?_
    exact j_iret h1 rfl rk_0 dL_promise_18 h9
set_option maxHeartbeats 4000000 in
set_option maxRecDepth 100000 in
theorem cl_broken {l : Launch} {D : va_G} {cy : Nat → ClassId} {ad : Nat → Nat} {xs : Nat → Int} {L : Nat} (hst : l.stackTraces = false) (hin : jIn ad ksK.length) : jXN l D vwCl (tyC cy) cy ad ftJ ksK (XtB ad xs L) yL_broken (.codeWith yL_broken cL_broken 4 (some .int) [(0, 9, 12, 30)] :: Om) ({ frames := 10, cells := 1, slots := 6, locals := 161 } : Room) 1 1 6 [] (fun post _ av M => WL_broken ad post av M) := by
  refine jHN_of (y := yL_broken) (cc := cL_broken) (nL := 4) (rm := ({ frames := 10, cells := 1, slots := 6, locals := 161 } : Room)) (own := RL) (hh := [(0, 9, 12, 30)]) (mc := 1) (ms := 6) (fun A U h => h.2.1) (fun A U h => XtC_z ad A U h.1) (tyC_ok cy) hin (XtB_ok ad xs L) Om_good (by decide) rfl ⟨rfl, rfl⟩ ?_
  intro post av M hF
  obtain ⟨p1, rfl, g1, hF⟩ := hF
  refine ⟨Nat.le_of_ble_eq_true rfl, fun J0 J1 h0 h1 tv ti tl tz => ?_⟩
  show J0 0 [(0, .ref (ad 0)), (1, .int (Ii p1)), (2, .ref (ad 389))] [] M
  refine j_aload_n h0 dL_broken_0 rfl 2 rfl ?_
  refine j_iconst h0 dL_broken_1 ?_
  refine j_aload_n h0 dL_broken_2 rfl 0 rfl ?_
  refine j_iload_n h0 dL_broken_3 rfl 1 rfl ?_
  obtain ⟨C, Q0, X0, hC, hRC, hw, hQ, hX⟩ := hF
  refine ti _ _ _ _ _ _ 0 _ _ _ _ _ _ _ (fun r M1 => post 0 (ux_ M1 389 0 r)) (fun E M1 => (E = "java/util/NoSuchElementException" ∧ post 1 M1)) [.int (Ii p1)] [.int (Ii 0), .ref (ad 389)] _ _ (lfX hin (c_X11_broken (l := l) (D := D) (cy := cy) (ad := ad) hst (jIn_w hin))) rfl om_2034 ⟨rfl, rfl, Nat.le_of_ble_eq_true rfl, Nat.le_of_ble_eq_true rfl⟩ ⟨om_2035, om_2036, om_2037, om_854⟩ hd_X11_brokenv kK_0 rfl rfl rfl (Nat.le_of_ble_eq_true rfl) dL_broken_4 ⟨C, Q0, X0, hC, hRC, ⟨p1, rfl, g1, hw⟩, hQ, hX⟩ (fun E M1 h8 h9 => ?_) (fun r M1 gr h9 => ?_)
  · rcases h9 with ⟨rfl, h9⟩
    · refine ⟨[], ⟨0, 9, 12, 30⟩, [], rfl, (fun _ h => nomatch h), by decide, by decide, om_1997, by decide, fun q => ?_⟩
      refine j_astore_n (lv' := [(3, .ref q), (0, .ref (ad 0)), (1, .int (Ii p1)), (2, .ref (ad 389))]) h1 dL_broken_12 rfl (by decide) rfl ?_
      refine j_iconst h1 dL_broken_13 ?_
      exact j_iret h1 rfl rk_1 dL_broken_14 h9
  · skip
    refine j_i2l h1 gr dL_broken_7 ?_
    refine j_last h1 rk_0 (rl_ri gr) kK_389 (by decide) (by decide) dL_broken_8 (fun M2 e2 => ?_)
    subst e2
    refine j_goto h1 15 dL_broken_9 (by decide) ?_
    refine j_iconst h1 dL_broken_15 ?_
    exact j_iret h1 rfl rk_0 dL_broken_16 h9
set_option maxHeartbeats 4000000 in
set_option maxRecDepth 100000 in
theorem cl_take {l : Launch} {D : va_G} {cy : Nat → ClassId} {ad : Nat → Nat} {xs : Nat → Int} {L : Nat} (hst : l.stackTraces = false) (hin : jIn ad ksK.length) : jXN l D vwCl (tyC cy) cy ad ftJ ksK (XtB ad xs L) yL_take (.codeWith yL_take cL_take 4 (some .int) [(0, 9, 12, 13)] :: Om) ({ frames := 11, cells := 2, slots := 12, locals := 181 } : Room) 1 2 12 [] (fun post _ av M => WL_take ad post av M) := by
  refine jHN_of (y := yL_take) (cc := cL_take) (nL := 4) (rm := ({ frames := 11, cells := 2, slots := 12, locals := 181 } : Room)) (own := RL) (hh := [(0, 9, 12, 13)]) (mc := 2) (ms := 12) (fun A U h => h.2.1) (fun A U h => XtC_z ad A U h.1) (tyC_ok cy) hin (XtB_ok ad xs L) Om_good (by decide) rfl ⟨rfl, rfl⟩ ?_
  intro post av M hF
  obtain ⟨p1, rfl, g1, hF⟩ := hF
  refine ⟨Nat.le_of_ble_eq_true rfl, fun J0 J1 h0 h1 tv ti tl tz => ?_⟩
  show J0 0 [(0, .ref (ad 0)), (1, .int (Ii p1)), (2, .ref (ad 389))] [] M
  refine j_aload_n h0 dL_take_0 rfl 2 rfl ?_
  refine j_iconst h0 dL_take_1 ?_
  refine j_aload_n h0 dL_take_2 rfl 0 rfl ?_
  refine j_iload_n h0 dL_take_3 rfl 1 rfl ?_
  obtain ⟨C, Q0, X0, hC, hRC, hw, hQ, hX⟩ := hF
  refine ti _ _ _ _ _ _ 0 _ _ _ _ _ _ _ (fun r M1 => post 0 (ux_ M1 389 0 r)) (fun E M1 => (E = "java/lang/IndexOutOfBoundsException" ∧ post 1 M1)) [.int (Ii p1)] [.int (Ii 0), .ref (ad 389)] _ _ (lfX hin (c_X11_take (l := l) (D := D) (cy := cy) (ad := ad) hst (jIn_w hin))) rfl om_2038 ⟨rfl, rfl, Nat.le_of_ble_eq_true rfl, Nat.le_of_ble_eq_true rfl⟩ ⟨om_2039, om_2040, om_2041, om_854⟩ hd_X11_takev kK_0 rfl rfl rfl (Nat.le_of_ble_eq_true rfl) dL_take_4 ⟨C, Q0, X0, hC, hRC, ⟨p1, rfl, g1, hw⟩, hQ, hX⟩ (fun E M1 h8 h9 => ?_) (fun r M1 gr h9 => ?_)
  · rcases h9 with ⟨rfl, h9⟩
    · refine ⟨[], ⟨0, 9, 12, 13⟩, [], rfl, (fun _ h => nomatch h), by decide, by decide, om_1982, by decide, fun q => ?_⟩
      refine j_astore_n (lv' := [(3, .ref q), (0, .ref (ad 0)), (1, .int (Ii p1)), (2, .ref (ad 389))]) h1 dL_take_12 rfl (by decide) rfl ?_
      refine j_iconst h1 dL_take_13 ?_
      exact j_iret h1 rfl rk_1 dL_take_14 h9
  · skip
    refine j_i2l h1 gr dL_take_7 ?_
    refine j_last h1 rk_0 (rl_ri gr) kK_389 (by decide) (by decide) dL_take_8 (fun M2 e2 => ?_)
    subst e2
    refine j_goto h1 15 dL_take_9 (by decide) ?_
    refine j_iconst h1 dL_take_15 ?_
    exact j_iret h1 rfl rk_0 dL_take_16 h9
set_option maxHeartbeats 4000000 in
set_option maxRecDepth 100000 in
theorem cl_slot {l : Launch} {D : va_G} {cy : Nat → ClassId} {ad : Nat → Nat} {xs : Nat → Int} {L : Nat} (hst : l.stackTraces = false) (hin : jIn ad ksK.length) : jXN l D vwCl (tyC cy) cy ad ftJ ksK (XtB ad xs L) yL_slot (.codeWith yL_slot cL_slot 6 (some .int) [(0, 11, 14, 30)] :: Om) ({ frames := 10, cells := 1, slots := 6, locals := 163 } : Room) 1 1 6 [] (fun post _ av M => WL_slot ad post av M) := by
  refine jHN_of (y := yL_slot) (cc := cL_slot) (nL := 6) (rm := ({ frames := 10, cells := 1, slots := 6, locals := 163 } : Room)) (own := RL) (hh := [(0, 11, 14, 30)]) (mc := 1) (ms := 6) (fun A U h => h.2.1) (fun A U h => XtC_z ad A U h.1) (tyC_ok cy) hin (XtB_ok ad xs L) Om_good (by decide) rfl ⟨rfl, rfl⟩ ?_
  intro post av M hF
  obtain ⟨p1, p2, p3, rfl, g1, g2, g3, hF⟩ := hF
  refine ⟨Nat.le_of_ble_eq_true rfl, fun J0 J1 h0 h1 tv ti tl tz => ?_⟩
  show J0 0 [(0, .ref (ad 0)), (1, .int (Ii p1)), (2, .int (Ii p2)), (3, .int (Ii p3)), (4, .ref (ad 389))] [] M
  refine j_aload h0 dL_slot_0 4 rfl ?_
  refine j_iconst h0 dL_slot_2 ?_
  refine j_aload_n h0 dL_slot_3 rfl 0 rfl ?_
  refine j_iload_n h0 dL_slot_4 rfl 1 rfl ?_
  refine j_iload_n h0 dL_slot_5 rfl 2 rfl ?_
  refine j_iload_n h0 dL_slot_6 rfl 3 rfl ?_
  obtain ⟨C, Q0, X0, hC, hRC, hw, hQ, hX⟩ := hF
  refine tl _ _ _ _ _ _ 0 _ _ _ _ _ _ _ (fun r M1 => post 0 (ux_ M1 389 0 r)) (fun E M1 => (E = "java/util/NoSuchElementException" ∧ post 1 M1)) [.int (Ii p1), .int (Ii p2), .int (Ii p3)] [.int (Ii 0), .ref (ad 389)] _ _ (lfX hin (c_X11_slot (l := l) (D := D) (cy := cy) (ad := ad) hst (jIn_w hin))) rfl om_2042 ⟨rfl, rfl, Nat.le_of_ble_eq_true rfl, Nat.le_of_ble_eq_true rfl⟩ ⟨om_2043, om_2044, om_2045, om_854⟩ hd_X11_slotv kK_0 rfl rfl rfl (Nat.le_of_ble_eq_true rfl) dL_slot_7 ⟨C, Q0, X0, hC, hRC, ⟨p1, p2, p3, rfl, g1, g2, g3, hw⟩, hQ, hX⟩ (fun E M1 h8 h9 => ?_) (fun r M1 gr h9 => ?_)
  · rcases h9 with ⟨rfl, h9⟩
    · refine ⟨[], ⟨0, 11, 14, 30⟩, [], rfl, (fun _ h => nomatch h), by decide, by decide, om_1997, by decide, fun q => ?_⟩
      refine j_astore (lv' := [(5, .ref q), (0, .ref (ad 0)), (1, .int (Ii p1)), (2, .int (Ii p2)), (3, .int (Ii p3)), (4, .ref (ad 389))]) h1 dL_slot_14 (by decide) rfl ?_
      refine j_iconst h1 dL_slot_16 ?_
      exact j_iret h1 rfl rk_1 dL_slot_17 h9
  · skip
    refine j_last h1 rk_0 gr kK_389 (by decide) (by decide) dL_slot_10 (fun M2 e2 => ?_)
    subst e2
    refine j_goto h1 18 dL_slot_11 (by decide) ?_
    refine j_iconst h1 dL_slot_18 ?_
    exact j_iret h1 rfl rk_0 dL_slot_19 h9
set_option maxHeartbeats 4000000 in
set_option maxRecDepth 100000 in
theorem cl_holder {l : Launch} {D : va_G} {cy : Nat → ClassId} {ad : Nat → Nat} {xs : Nat → Int} {L : Nat} (hst : l.stackTraces = false) (hin : jIn ad ksK.length) : jXN l D vwCl (tyC cy) cy ad ftJ ksK (XtB ad xs L) yL_holder (.codeWith yL_holder cL_holder 7 (some .int) [(0, 14, 17, 30)] :: Om) ({ frames := 10, cells := 1, slots := 6, locals := 166 } : Room) 1 1 6 [] (fun post _ av M => WL_holder ad post av M) := by
  refine jHN_of (y := yL_holder) (cc := cL_holder) (nL := 7) (rm := ({ frames := 10, cells := 1, slots := 6, locals := 166 } : Room)) (own := RL) (hh := [(0, 14, 17, 30)]) (mc := 1) (ms := 6) (fun A U h => h.2.1) (fun A U h => XtC_z ad A U h.1) (tyC_ok cy) hin (XtB_ok ad xs L) Om_good (by decide) rfl ⟨rfl, rfl⟩ ?_
  intro post av M hF
  obtain ⟨p1, p2, p3, p4, rfl, g1, g2, g3, g4, hF⟩ := hF
  refine ⟨Nat.le_of_ble_eq_true rfl, fun J0 J1 h0 h1 tv ti tl tz => ?_⟩
  show J0 0 [(0, .ref (ad 0)), (1, .int (Ii p1)), (2, .int (Ii p2)), (3, .int (Ii p3)), (4, .int (Ii p4)), (5, .ref (ad 389))] [] M
  refine j_aload h0 dL_holder_0 5 rfl ?_
  refine j_iconst h0 dL_holder_2 ?_
  refine j_aload_n h0 dL_holder_3 rfl 0 rfl ?_
  refine j_iload_n h0 dL_holder_4 rfl 1 rfl ?_
  refine j_iload_n h0 dL_holder_5 rfl 2 rfl ?_
  refine j_iload_n h0 dL_holder_6 rfl 3 rfl ?_
  refine j_iload h0 dL_holder_7 4 rfl ?_
  obtain ⟨C, Q0, X0, hC, hRC, hw, hQ, hX⟩ := hF
  refine ti _ _ _ _ _ _ 0 _ _ _ _ _ _ _ (fun r M1 => post 0 (ux_ M1 389 0 r)) (fun E M1 => (E = "java/util/NoSuchElementException" ∧ post 1 M1)) [.int (Ii p1), .int (Ii p2), .int (Ii p3), .int (Ii p4)] [.int (Ii 0), .ref (ad 389)] _ _ (lfX hin (c_X11_holder (l := l) (D := D) (cy := cy) (ad := ad) hst (jIn_w hin))) rfl om_2046 ⟨rfl, rfl, Nat.le_of_ble_eq_true rfl, Nat.le_of_ble_eq_true rfl⟩ ⟨om_2047, om_2048, om_2049, om_854⟩ hd_X11_holderv kK_0 rfl rfl rfl (Nat.le_of_ble_eq_true rfl) dL_holder_9 ⟨C, Q0, X0, hC, hRC, ⟨p1, p2, p3, p4, rfl, g1, g2, g3, g4, hw⟩, hQ, hX⟩ (fun E M1 h8 h9 => ?_) (fun r M1 gr h9 => ?_)
  · rcases h9 with ⟨rfl, h9⟩
    · refine ⟨[], ⟨0, 14, 17, 30⟩, [], rfl, (fun _ h => nomatch h), by decide, by decide, om_1997, by decide, fun q => ?_⟩
      refine j_astore (lv' := [(6, .ref q), (0, .ref (ad 0)), (1, .int (Ii p1)), (2, .int (Ii p2)), (3, .int (Ii p3)), (4, .int (Ii p4)), (5, .ref (ad 389))]) h1 dL_holder_17 (by decide) rfl ?_
      refine j_iconst h1 dL_holder_19 ?_
      exact j_iret h1 rfl rk_1 dL_holder_20 h9
  · skip
    refine j_i2l h1 gr dL_holder_12 ?_
    refine j_last h1 rk_0 (rl_ri gr) kK_389 (by decide) (by decide) dL_holder_13 (fun M2 e2 => ?_)
    subst e2
    refine j_goto h1 21 dL_holder_14 (by decide) ?_
    refine j_iconst h1 dL_holder_21 ?_
    exact j_iret h1 rfl rk_0 dL_holder_22 h9
set_option maxHeartbeats 4000000 in
set_option maxRecDepth 100000 in
theorem cl_member {l : Launch} {D : va_G} {cy : Nat → ClassId} {ad : Nat → Nat} {xs : Nat → Int} {L : Nat} (hst : l.stackTraces = false) (hin : jIn ad ksK.length) : jXN l D vwCl (tyC cy) cy ad ftJ ksK (XtB ad xs L) yL_member (.codeWith yL_member cL_member 7 (some .int) [(0, 14, 17, 30)] :: Om) ({ frames := 10, cells := 1, slots := 6, locals := 165 } : Room) 1 1 6 [] (fun post _ av M => WL_member ad post av M) := by
  refine jHN_of (y := yL_member) (cc := cL_member) (nL := 7) (rm := ({ frames := 10, cells := 1, slots := 6, locals := 165 } : Room)) (own := RL) (hh := [(0, 14, 17, 30)]) (mc := 1) (ms := 6) (fun A U h => h.2.1) (fun A U h => XtC_z ad A U h.1) (tyC_ok cy) hin (XtB_ok ad xs L) Om_good (by decide) rfl ⟨rfl, rfl⟩ ?_
  intro post av M hF
  obtain ⟨p1, p2, p3, p4, rfl, g1, g2, g3, g4, hF⟩ := hF
  refine ⟨Nat.le_of_ble_eq_true rfl, fun J0 J1 h0 h1 tv ti tl tz => ?_⟩
  show J0 0 [(0, .ref (ad 0)), (1, .int (Ii p1)), (2, .int (Ii p2)), (3, .int (Ii p3)), (4, .int (Ii p4)), (5, .ref (ad 389))] [] M
  refine j_aload h0 dL_member_0 5 rfl ?_
  refine j_iconst h0 dL_member_2 ?_
  refine j_aload_n h0 dL_member_3 rfl 0 rfl ?_
  refine j_iload_n h0 dL_member_4 rfl 1 rfl ?_
  refine j_iload_n h0 dL_member_5 rfl 2 rfl ?_
  refine j_iload_n h0 dL_member_6 rfl 3 rfl ?_
  refine j_iload h0 dL_member_7 4 rfl ?_
  obtain ⟨C, Q0, X0, hC, hRC, hw, hQ, hX⟩ := hF
  refine ti _ _ _ _ _ _ 0 _ _ _ _ _ _ _ (fun r M1 => post 0 (ux_ M1 389 0 r)) (fun E M1 => (E = "java/util/NoSuchElementException" ∧ post 1 M1)) [.int (Ii p1), .int (Ii p2), .int (Ii p3), .int (Ii p4)] [.int (Ii 0), .ref (ad 389)] _ _ (lfX hin (c_X11_member (l := l) (D := D) (cy := cy) (ad := ad) hst (jIn_w hin))) rfl om_2050 ⟨rfl, rfl, Nat.le_of_ble_eq_true rfl, Nat.le_of_ble_eq_true rfl⟩ ⟨om_2051, om_2052, om_2053, om_854⟩ hd_X11_memberv kK_0 rfl rfl rfl (Nat.le_of_ble_eq_true rfl) dL_member_9 ⟨C, Q0, X0, hC, hRC, ⟨p1, p2, p3, p4, rfl, g1, g2, g3, g4, hw⟩, hQ, hX⟩ (fun E M1 h8 h9 => ?_) (fun r M1 gr h9 => ?_)
  · rcases h9 with ⟨rfl, h9⟩
    · refine ⟨[], ⟨0, 14, 17, 30⟩, [], rfl, (fun _ h => nomatch h), by decide, by decide, om_1997, by decide, fun q => ?_⟩
      refine j_astore (lv' := [(6, .ref q), (0, .ref (ad 0)), (1, .int (Ii p1)), (2, .int (Ii p2)), (3, .int (Ii p3)), (4, .int (Ii p4)), (5, .ref (ad 389))]) h1 dL_member_17 (by decide) rfl ?_
      refine j_iconst h1 dL_member_19 ?_
      exact j_iret h1 rfl rk_1 dL_member_20 h9
  · skip
    refine j_i2l h1 gr dL_member_12 ?_
    refine j_last h1 rk_0 (rl_ri gr) kK_389 (by decide) (by decide) dL_member_13 (fun M2 e2 => ?_)
    subst e2
    refine j_goto h1 21 dL_member_14 (by decide) ?_
    refine j_iconst h1 dL_member_21 ?_
    exact j_iret h1 rfl rk_0 dL_member_22 h9
set_option maxHeartbeats 4000000 in
set_option maxRecDepth 100000 in
theorem cl_lost {l : Launch} {D : va_G} {cy : Nat → ClassId} {ad : Nat → Nat} {xs : Nat → Int} {L : Nat} (hst : l.stackTraces = false) (hin : jIn ad ksK.length) : jXN l D vwCl (tyC cy) cy ad ftJ ksK (XtB ad xs L) yL_lost (.codeWith yL_lost cL_lost 4 (some .int) [(0, 9, 12, 13)] :: Om) ({ frames := 11, cells := 2, slots := 12, locals := 181 } : Room) 1 2 12 [] (fun post _ av M => WL_lost ad post av M) := by
  refine jHN_of (y := yL_lost) (cc := cL_lost) (nL := 4) (rm := ({ frames := 11, cells := 2, slots := 12, locals := 181 } : Room)) (own := RL) (hh := [(0, 9, 12, 13)]) (mc := 2) (ms := 12) (fun A U h => h.2.1) (fun A U h => XtC_z ad A U h.1) (tyC_ok cy) hin (XtB_ok ad xs L) Om_good (by decide) rfl ⟨rfl, rfl⟩ ?_
  intro post av M hF
  obtain ⟨p1, rfl, g1, hF⟩ := hF
  refine ⟨Nat.le_of_ble_eq_true rfl, fun J0 J1 h0 h1 tv ti tl tz => ?_⟩
  show J0 0 [(0, .ref (ad 0)), (1, .int (Ii p1)), (2, .ref (ad 389))] [] M
  refine j_aload_n h0 dL_lost_0 rfl 2 rfl ?_
  refine j_iconst h0 dL_lost_1 ?_
  refine j_aload_n h0 dL_lost_2 rfl 0 rfl ?_
  refine j_iload_n h0 dL_lost_3 rfl 1 rfl ?_
  obtain ⟨C, Q0, X0, hC, hRC, hw, hQ, hX⟩ := hF
  refine ti _ _ _ _ _ _ 0 _ _ _ _ _ _ _ (fun r M1 => post 0 (ux_ M1 389 0 r)) (fun E M1 => (E = "java/lang/IndexOutOfBoundsException" ∧ post 1 M1)) [.int (Ii p1)] [.int (Ii 0), .ref (ad 389)] _ _ (lfX hin (c_X11_lost (l := l) (D := D) (cy := cy) (ad := ad) hst (jIn_w hin))) rfl om_2054 ⟨rfl, rfl, Nat.le_of_ble_eq_true rfl, Nat.le_of_ble_eq_true rfl⟩ ⟨om_2055, om_2056, om_2057, om_854⟩ hd_X11_lostv kK_0 rfl rfl rfl (Nat.le_of_ble_eq_true rfl) dL_lost_4 ⟨C, Q0, X0, hC, hRC, ⟨p1, rfl, g1, hw⟩, hQ, hX⟩ (fun E M1 h8 h9 => ?_) (fun r M1 gr h9 => ?_)
  · rcases h9 with ⟨rfl, h9⟩
    · refine ⟨[], ⟨0, 9, 12, 13⟩, [], rfl, (fun _ h => nomatch h), by decide, by decide, om_1982, by decide, fun q => ?_⟩
      refine j_astore_n (lv' := [(3, .ref q), (0, .ref (ad 0)), (1, .int (Ii p1)), (2, .ref (ad 389))]) h1 dL_lost_12 rfl (by decide) rfl ?_
      refine j_iconst h1 dL_lost_13 ?_
      exact j_iret h1 rfl rk_1 dL_lost_14 h9
  · skip
    refine j_i2l h1 gr dL_lost_7 ?_
    refine j_last h1 rk_0 (rl_ri gr) kK_389 (by decide) (by decide) dL_lost_8 (fun M2 e2 => ?_)
    subst e2
    refine j_goto h1 15 dL_lost_9 (by decide) ?_
    refine j_iconst h1 dL_lost_15 ?_
    exact j_iret h1 rfl rk_0 dL_lost_16 h9
set_option maxHeartbeats 4000000 in
set_option maxRecDepth 100000 in
theorem cl_growth {l : Launch} {D : va_G} {cy : Nat → ClassId} {ad : Nat → Nat} {xs : Nat → Int} {L : Nat} (hst : l.stackTraces = false) (hin : jIn ad ksK.length) : jXN l D vwCl (tyC cy) cy ad ftJ ksK (XtB ad xs L) yL_growth (.codeWith yL_growth cL_growth 6 (some .int) [(0, 12, 15, 13)] :: Om) ({ frames := 11, cells := 3, slots := 18, locals := 183 } : Room) 1 3 18 [] (fun post _ av M => WL_growth ad post av M) := by
  refine jHN_of (y := yL_growth) (cc := cL_growth) (nL := 6) (rm := ({ frames := 11, cells := 3, slots := 18, locals := 183 } : Room)) (own := RL) (hh := [(0, 12, 15, 13)]) (mc := 3) (ms := 18) (fun A U h => h.2.1) (fun A U h => XtC_z ad A U h.1) (tyC_ok cy) hin (XtB_ok ad xs L) Om_good (by decide) rfl ⟨rfl, rfl⟩ ?_
  intro post av M hF
  obtain ⟨p1, p2, p3, rfl, g1, g2, g3, hF⟩ := hF
  refine ⟨Nat.le_of_ble_eq_true rfl, fun J0 J1 h0 h1 tv ti tl tz => ?_⟩
  show J0 0 [(0, .ref (ad 0)), (1, .int (Ii p1)), (2, .int (Ii p2)), (3, .int (Ii p3)), (4, .ref (ad 389))] [] M
  refine j_aload h0 dL_growth_0 4 rfl ?_
  refine j_iconst h0 dL_growth_2 ?_
  refine j_aload_n h0 dL_growth_3 rfl 0 rfl ?_
  refine j_iload_n h0 dL_growth_4 rfl 1 rfl ?_
  refine j_iload_n h0 dL_growth_5 rfl 2 rfl ?_
  refine j_iload_n h0 dL_growth_6 rfl 3 rfl ?_
  obtain ⟨C, Q0, X0, hC, hRC, hw, hQ, hX⟩ := hF
  refine ti _ _ _ _ _ _ 0 _ _ _ _ _ _ _ (fun r M1 => post 0 (ux_ M1 389 0 r)) (fun E M1 => (E = "java/lang/IndexOutOfBoundsException" ∧ post 1 M1)) [.int (Ii p1), .int (Ii p2), .int (Ii p3)] [.int (Ii 0), .ref (ad 389)] _ _ (lfX hin (c_X11_growth (l := l) (D := D) (cy := cy) (ad := ad) hst (jIn_w hin))) rfl om_2058 ⟨rfl, rfl, Nat.le_of_ble_eq_true rfl, Nat.le_of_ble_eq_true rfl⟩ ⟨om_2059, om_2060, om_2061, om_854⟩ hd_X11_growthv kK_0 rfl rfl rfl (Nat.le_of_ble_eq_true rfl) dL_growth_7 ⟨C, Q0, X0, hC, hRC, ⟨p1, p2, p3, rfl, g1, g2, g3, hw⟩, hQ, hX⟩ (fun E M1 h8 h9 => ?_) (fun r M1 gr h9 => ?_)
  · rcases h9 with ⟨rfl, h9⟩
    · refine ⟨[], ⟨0, 12, 15, 13⟩, [], rfl, (fun _ h => nomatch h), by decide, by decide, om_1982, by decide, fun q => ?_⟩
      refine j_astore (lv' := [(5, .ref q), (0, .ref (ad 0)), (1, .int (Ii p1)), (2, .int (Ii p2)), (3, .int (Ii p3)), (4, .ref (ad 389))]) h1 dL_growth_15 (by decide) rfl ?_
      refine j_iconst h1 dL_growth_17 ?_
      exact j_iret h1 rfl rk_1 dL_growth_18 h9
  · skip
    refine j_i2l h1 gr dL_growth_10 ?_
    refine j_last h1 rk_0 (rl_ri gr) kK_389 (by decide) (by decide) dL_growth_11 (fun M2 e2 => ?_)
    subst e2
    refine j_goto h1 19 dL_growth_12 (by decide) ?_
    refine j_iconst h1 dL_growth_19 ?_
    exact j_iret h1 rfl rk_0 dL_growth_20 h9
set_option maxHeartbeats 4000000 in
set_option maxRecDepth 100000 in
theorem cl_like {l : Launch} {D : va_G} {cy : Nat → ClassId} {ad : Nat → Nat} {xs : Nat → Int} {L : Nat} (hst : l.stackTraces = false) (hin : jIn ad ksK.length) : jXN l D vwCl (tyC cy) cy ad ftJ ksK (XtB ad xs L) yL_like (.codeWith yL_like cL_like 7 (some .int) [(0, 21, 24, 30)] :: Om) ({ frames := 10, cells := 1, slots := 6, locals := 164 } : Room) 1 1 6 [] (fun post _ av M => WL_like ad post av M) := by
  refine jHN_of (y := yL_like) (cc := cL_like) (nL := 7) (rm := ({ frames := 10, cells := 1, slots := 6, locals := 164 } : Room)) (own := RL) (hh := [(0, 21, 24, 30)]) (mc := 1) (ms := 6) (fun A U h => h.2.1) (fun A U h => XtC_z ad A U h.1) (tyC_ok cy) hin (XtB_ok ad xs L) Om_good (by decide) rfl ⟨rfl, rfl⟩ ?_
  intro post av M hF
  obtain ⟨p1, p2, p3, p4, rfl, g1, g2, g3, g4, hF⟩ := hF
  refine ⟨Nat.le_of_ble_eq_true rfl, fun J0 J1 h0 h1 tv ti tl tz => ?_⟩
  show J0 0 [(0, .ref (ad 0)), (1, .int (Ii p1)), (2, .int (Ii p2)), (3, .int (Ii p3)), (4, .int (Ii p4)), (5, .ref (ad 389))] [] M
  refine j_aload h0 dL_like_0 5 rfl ?_
  refine j_iconst h0 dL_like_2 ?_
  refine j_aload_n h0 dL_like_3 rfl 0 rfl ?_
  refine j_iload_n h0 dL_like_4 rfl 1 rfl ?_
  refine j_iload_n h0 dL_like_5 rfl 2 rfl ?_
  refine j_iload_n h0 dL_like_6 rfl 3 rfl ?_
  refine j_iload h0 dL_like_7 4 rfl ?_
  obtain ⟨C, Q0, X0, hC, hRC, hw, hQ, hX⟩ := hF
  refine tz _ _ _ _ _ _ 0 _ _ _ _ _ _ _ (fun r M1 => post 0 (ux_ M1 389 0 r)) (fun E M1 => (E = "java/util/NoSuchElementException" ∧ post 1 M1)) [.int (Ii p1), .int (Ii p2), .int (Ii p3), .int (Ii p4)] [.int (Ii 0), .ref (ad 389)] _ _ (lfX hin (c_X11_like (l := l) (D := D) (cy := cy) (ad := ad) hst (jIn_w hin))) rfl om_2062 ⟨rfl, rfl, Nat.le_of_ble_eq_true rfl, Nat.le_of_ble_eq_true rfl⟩ ⟨om_2063, om_2064, om_2065, om_854⟩ hd_X11_likev kK_0 rfl rfl rfl (Nat.le_of_ble_eq_true rfl) dL_like_9 ⟨C, Q0, X0, hC, hRC, ⟨p1, p2, p3, p4, rfl, g1, g2, g3, g4, hw⟩, hQ, hX⟩ (fun E M1 h8 h9 => ?_) (fun r M1 gr h9 => ?_)
  · rcases h9 with ⟨rfl, h9⟩
    · refine ⟨[], ⟨0, 21, 24, 30⟩, [], rfl, (fun _ h => nomatch h), by decide, by decide, om_1997, by decide, fun q => ?_⟩
      refine j_astore (lv' := [(6, .ref q), (0, .ref (ad 0)), (1, .int (Ii p1)), (2, .int (Ii p2)), (3, .int (Ii p3)), (4, .int (Ii p4)), (5, .ref (ad 389))]) h1 dL_like_24 (by decide) rfl ?_
      refine j_iconst h1 dL_like_26 ?_
      exact j_iret h1 rfl rk_1 dL_like_27 h9
  · skip
    rcases gr with rfl | rfl
    · refine j_if_eq h1 19 rk_0 dL_like_12 (by decide) (fun _ => ?_) (fun z => absurd rfl z)
      refine j_lconst (x := 0) h1 dL_like_19 rfl ?_
      refine j_last h1 rk_0 lkm_0 kK_389 (by decide) (by decide) dL_like_20 (fun M2 e2 => ?_)
      subst e2
      refine j_goto h1 28 dL_like_21 (by decide) ?_
      refine j_iconst h1 dL_like_28 ?_
      exact j_iret h1 rfl rk_0 dL_like_29 h9
    · refine j_if_eq h1 19 rk_1 dL_like_12 (by decide) (fun z => absurd z (by decide)) (fun _ => ?_)
      refine j_lconst (x := 1) h1 dL_like_15 rfl ?_
      refine j_goto h1 20 dL_like_16 (by decide) ?_
      refine j_last h1 rk_0 lk_1 kK_389 (by decide) (by decide) dL_like_20 (fun M2 e2 => ?_)
      subst e2
      refine j_goto h1 28 dL_like_21 (by decide) ?_
      refine j_iconst h1 dL_like_28 ?_
      exact j_iret h1 rfl rk_0 dL_like_29 h9
set_option maxHeartbeats 4000000 in
set_option maxRecDepth 100000 in
theorem cl_ask {l : Launch} {D : va_G} {cy : Nat → ClassId} {ad : Nat → Nat} {xs : Nat → Int} {L : Nat} (hst : l.stackTraces = false) (hin : jIn ad ksK.length) : jXN l D vwCl (tyC cy) cy ad ftJ ksK (XtB ad xs L) yL_ask (.codeWith yL_ask cL_ask 4 (some .int) [(0, 9, 12, 13), (0, 9, 15, 15)] :: Om) ({ frames := 307, cells := 2, slots := 12, locals := 7376 } : Room) 1 2 12 [] (fun post _ av M => WL_ask ad post av M) := by
  refine jHN_of (y := yL_ask) (cc := cL_ask) (nL := 4) (rm := ({ frames := 307, cells := 2, slots := 12, locals := 7376 } : Room)) (own := RL) (hh := [(0, 9, 12, 13), (0, 9, 15, 15)]) (mc := 2) (ms := 12) (fun A U h => h.2.1) (fun A U h => XtC_z ad A U h.1) (tyC_ok cy) hin (XtB_ok ad xs L) Om_good (by decide) rfl ⟨rfl, rfl⟩ ?_
  intro post av M hF
  obtain ⟨p1, rfl, g1, hF⟩ := hF
  refine ⟨Nat.le_of_ble_eq_true rfl, fun J0 J1 h0 h1 tv ti tl tz => ?_⟩
  show J0 0 [(0, .ref (ad 0)), (1, .int (Ii p1)), (2, .ref (ad 389))] [] M
  refine j_aload_n h0 dL_ask_0 rfl 2 rfl ?_
  refine j_iconst h0 dL_ask_1 ?_
  refine j_aload_n h0 dL_ask_2 rfl 0 rfl ?_
  refine j_iload_n h0 dL_ask_3 rfl 1 rfl ?_
  obtain ⟨C, Q0, X0, hC, hRC, hw, hQ, hX⟩ := hF
  refine ti _ _ _ _ _ _ 0 _ _ _ _ _ _ _ (fun r M1 => post 0 (ux_ M1 389 0 r)) (fun E M1 => (E = "java/lang/IndexOutOfBoundsException" ∧ post 1 M1) ∨ (E = "java/lang/IllegalArgumentException" ∧ post 2 M1)) [.int (Ii p1)] [.int (Ii 0), .ref (ad 389)] _ _ (lfX hin (c_X11_ask (l := l) (D := D) (cy := cy) (ad := ad) hst (jIn_w hin))) rfl om_2066 ⟨rfl, rfl, Nat.le_of_ble_eq_true rfl, Nat.le_of_ble_eq_true rfl⟩ ⟨om_2067, om_2068, om_2069, om_854⟩ hd_X11_askv kK_0 rfl rfl rfl (Nat.le_of_ble_eq_true rfl) dL_ask_4 ⟨C, Q0, X0, hC, hRC, ⟨p1, rfl, g1, hw⟩, hQ, hX⟩ (fun E M1 h8 h9 => ?_) (fun r M1 gr h9 => ?_)
  · rcases h9 with ⟨rfl, h9⟩ | ⟨rfl, h9⟩
    · refine ⟨[], ⟨0, 9, 12, 13⟩, [⟨0, 9, 15, 15⟩], rfl, (fun _ h => nomatch h), by decide, by decide, om_1982, by decide, fun q => ?_⟩
      refine j_astore_n (lv' := [(3, .ref q), (0, .ref (ad 0)), (1, .int (Ii p1)), (2, .ref (ad 389))]) h1 dL_ask_12 rfl (by decide) rfl ?_
      refine j_iconst h1 dL_ask_13 ?_
      exact j_iret h1 rfl rk_1 dL_ask_14 h9
    · refine ⟨[⟨0, 9, 12, 13⟩], ⟨0, 9, 15, 15⟩, [], rfl, (List.forall_mem_cons.mpr ⟨⟨by decide, "java/lang/IndexOutOfBoundsException", om_1982, by decide, by decide⟩, (fun _ h => nomatch h)⟩), by decide, by decide, om_1983, by decide, fun q => ?_⟩
      refine j_astore_n (lv' := [(3, .ref q), (0, .ref (ad 0)), (1, .int (Ii p1)), (2, .ref (ad 389))]) h1 dL_ask_15 rfl (by decide) rfl ?_
      refine j_iconst h1 dL_ask_16 ?_
      exact j_iret h1 rfl rk_2 dL_ask_17 h9
  · skip
    refine j_i2l h1 gr dL_ask_7 ?_
    refine j_last h1 rk_0 (rl_ri gr) kK_389 (by decide) (by decide) dL_ask_8 (fun M2 e2 => ?_)
    subst e2
    refine j_goto h1 18 dL_ask_9 (by decide) ?_
    refine j_iconst h1 dL_ask_18 ?_
    exact j_iret h1 rfl rk_0 dL_ask_19 h9
set_option maxHeartbeats 4000000 in
set_option maxRecDepth 100000 in
theorem cl_answer {l : Launch} {D : va_G} {cy : Nat → ClassId} {ad : Nat → Nat} {xs : Nat → Int} {L : Nat} (hst : l.stackTraces = false) (hin : jIn ad ksK.length) : jXN l D vwCl (tyC cy) cy ad ftJ ksK (XtB ad xs L) yL_answer (.codeWith yL_answer cL_answer 5 (some .int) [(0, 9, 12, 30)] :: Om) ({ frames := 10, cells := 1, slots := 6, locals := 162 } : Room) 1 1 6 [] (fun post _ av M => WL_answer ad post av M) := by
  refine jHN_of (y := yL_answer) (cc := cL_answer) (nL := 5) (rm := ({ frames := 10, cells := 1, slots := 6, locals := 162 } : Room)) (own := RL) (hh := [(0, 9, 12, 30)]) (mc := 1) (ms := 6) (fun A U h => h.2.1) (fun A U h => XtC_z ad A U h.1) (tyC_ok cy) hin (XtB_ok ad xs L) Om_good (by decide) rfl ⟨rfl, rfl⟩ ?_
  intro post av M hF
  obtain ⟨p1, p2, rfl, g1, g2, hF⟩ := hF
  refine ⟨Nat.le_of_ble_eq_true rfl, fun J0 J1 h0 h1 tv ti tl tz => ?_⟩
  show J0 0 [(0, .ref (ad 0)), (1, .int (Ii p1)), (2, .int (Ii p2)), (3, .ref (ad 389))] [] M
  refine j_aload_n h0 dL_answer_0 rfl 3 rfl ?_
  refine j_iconst h0 dL_answer_1 ?_
  refine j_aload_n h0 dL_answer_2 rfl 0 rfl ?_
  refine j_iload_n h0 dL_answer_3 rfl 1 rfl ?_
  refine j_iload_n h0 dL_answer_4 rfl 2 rfl ?_
  obtain ⟨C, Q0, X0, hC, hRC, hw, hQ, hX⟩ := hF
  refine tl _ _ _ _ _ _ 0 _ _ _ _ _ _ _ (fun r M1 => post 0 (ux_ M1 389 0 r)) (fun E M1 => (E = "java/util/NoSuchElementException" ∧ post 1 M1)) [.int (Ii p1), .int (Ii p2)] [.int (Ii 0), .ref (ad 389)] _ _ (lfX hin (c_X11_answer (l := l) (D := D) (cy := cy) (ad := ad) hst (jIn_w hin))) rfl om_2070 ⟨rfl, rfl, Nat.le_of_ble_eq_true rfl, Nat.le_of_ble_eq_true rfl⟩ ⟨om_2071, om_2072, om_2073, om_854⟩ hd_X11_answerv kK_0 rfl rfl rfl (Nat.le_of_ble_eq_true rfl) dL_answer_5 ⟨C, Q0, X0, hC, hRC, ⟨p1, p2, rfl, g1, g2, hw⟩, hQ, hX⟩ (fun E M1 h8 h9 => ?_) (fun r M1 gr h9 => ?_)
  · rcases h9 with ⟨rfl, h9⟩
    · refine ⟨[], ⟨0, 9, 12, 30⟩, [], rfl, (fun _ h => nomatch h), by decide, by decide, om_1997, by decide, fun q => ?_⟩
      refine j_astore (lv' := [(4, .ref q), (0, .ref (ad 0)), (1, .int (Ii p1)), (2, .int (Ii p2)), (3, .ref (ad 389))]) h1 dL_answer_12 (by decide) rfl ?_
      refine j_iconst h1 dL_answer_14 ?_
      exact j_iret h1 rfl rk_1 dL_answer_15 h9
  · skip
    refine j_last h1 rk_0 gr kK_389 (by decide) (by decide) dL_answer_8 (fun M2 e2 => ?_)
    subst e2
    refine j_goto h1 16 dL_answer_9 (by decide) ?_
    refine j_iconst h1 dL_answer_16 ?_
    exact j_iret h1 rfl rk_0 dL_answer_17 h9
set_option maxHeartbeats 4000000 in
set_option maxRecDepth 100000 in
theorem cl_rules {l : Launch} {D : va_G} {cy : Nat → ClassId} {ad : Nat → Nat} {xs : Nat → Int} {L : Nat} (hst : l.stackTraces = false) (hin : jIn ad ksK.length) : jXN l D vwCl (tyC cy) cy ad ftJ ksK (XtB ad xs L) yL_rules (.codeWith yL_rules cL_rules 4 (some .int) [(0, 9, 12, 13), (0, 9, 15, 17), (0, 9, 18, 15)] :: Om) ({ frames := 17, cells := 2, slots := 12, locals := 468 } : Room) 1 2 12 [] (fun post _ av M => WL_rules ad post av M) := by
  refine jHN_of (y := yL_rules) (cc := cL_rules) (nL := 4) (rm := ({ frames := 17, cells := 2, slots := 12, locals := 468 } : Room)) (own := RL) (hh := [(0, 9, 12, 13), (0, 9, 15, 17), (0, 9, 18, 15)]) (mc := 2) (ms := 12) (fun A U h => h.2.1) (fun A U h => XtC_z ad A U h.1) (tyC_ok cy) hin (XtB_ok ad xs L) Om_good (by decide) rfl ⟨rfl, rfl⟩ ?_
  intro post av M hF
  obtain ⟨p1, rfl, g1, hF⟩ := hF
  refine ⟨Nat.le_of_ble_eq_true rfl, fun J0 J1 h0 h1 tv ti tl tz => ?_⟩
  show J0 0 [(0, .ref (ad 0)), (1, .int (Ii p1)), (2, .ref (ad 389))] [] M
  refine j_aload_n h0 dL_rules_0 rfl 2 rfl ?_
  refine j_iconst h0 dL_rules_1 ?_
  refine j_aload_n h0 dL_rules_2 rfl 0 rfl ?_
  refine j_iload_n h0 dL_rules_3 rfl 1 rfl ?_
  obtain ⟨C, Q0, X0, hC, hRC, hw, hQ, hX⟩ := hF
  refine ti _ _ _ _ _ _ 0 _ _ _ _ _ _ _ (fun r M1 => post 0 (ux_ M1 389 0 r)) (fun E M1 => (E = "java/lang/IndexOutOfBoundsException" ∧ post 1 M1) ∨ (E = "java/lang/IllegalStateException" ∧ post 2 M1) ∨ (E = "java/lang/IllegalArgumentException" ∧ post 3 M1)) [.int (Ii p1)] [.int (Ii 0), .ref (ad 389)] _ _ (lfX hin (c_X11_rules (l := l) (D := D) (cy := cy) (ad := ad) hst (jIn_w hin))) rfl om_2074 ⟨rfl, rfl, Nat.le_of_ble_eq_true rfl, Nat.le_of_ble_eq_true rfl⟩ ⟨om_2075, om_2076, om_2077, om_854⟩ hd_X11_rulesv kK_0 rfl rfl rfl (Nat.le_of_ble_eq_true rfl) dL_rules_4 ⟨C, Q0, X0, hC, hRC, ⟨p1, rfl, g1, hw⟩, hQ, hX⟩ (fun E M1 h8 h9 => ?_) (fun r M1 gr h9 => ?_)
  · rcases h9 with ⟨rfl, h9⟩ | ⟨rfl, h9⟩ | ⟨rfl, h9⟩
    · refine ⟨[], ⟨0, 9, 12, 13⟩, [⟨0, 9, 15, 17⟩, ⟨0, 9, 18, 15⟩], rfl, (fun _ h => nomatch h), by decide, by decide, om_1982, by decide, fun q => ?_⟩
      refine j_astore_n (lv' := [(3, .ref q), (0, .ref (ad 0)), (1, .int (Ii p1)), (2, .ref (ad 389))]) h1 dL_rules_12 rfl (by decide) rfl ?_
      refine j_iconst h1 dL_rules_13 ?_
      exact j_iret h1 rfl rk_1 dL_rules_14 h9
    · refine ⟨[⟨0, 9, 12, 13⟩], ⟨0, 9, 15, 17⟩, [⟨0, 9, 18, 15⟩], rfl, (List.forall_mem_cons.mpr ⟨⟨by decide, "java/lang/IndexOutOfBoundsException", om_1982, by decide, by decide⟩, (fun _ h => nomatch h)⟩), by decide, by decide, om_1984, by decide, fun q => ?_⟩
      refine j_astore_n (lv' := [(3, .ref q), (0, .ref (ad 0)), (1, .int (Ii p1)), (2, .ref (ad 389))]) h1 dL_rules_15 rfl (by decide) rfl ?_
      refine j_iconst h1 dL_rules_16 ?_
      exact j_iret h1 rfl rk_2 dL_rules_17 h9
    · refine ⟨[⟨0, 9, 12, 13⟩, ⟨0, 9, 15, 17⟩], ⟨0, 9, 18, 15⟩, [], rfl, (List.forall_mem_cons.mpr ⟨⟨by decide, "java/lang/IndexOutOfBoundsException", om_1982, by decide, by decide⟩, (List.forall_mem_cons.mpr ⟨⟨by decide, "java/lang/IllegalStateException", om_1984, by decide, by decide⟩, (fun _ h => nomatch h)⟩)⟩), by decide, by decide, om_1983, by decide, fun q => ?_⟩
      refine j_astore_n (lv' := [(3, .ref q), (0, .ref (ad 0)), (1, .int (Ii p1)), (2, .ref (ad 389))]) h1 dL_rules_18 rfl (by decide) rfl ?_
      refine j_iconst h1 dL_rules_19 ?_
      exact j_iret h1 rfl rk_3 dL_rules_20 h9
  · skip
    refine j_i2l h1 gr dL_rules_7 ?_
    refine j_last h1 rk_0 (rl_ri gr) kK_389 (by decide) (by decide) dL_rules_8 (fun M2 e2 => ?_)
    subst e2
    refine j_goto h1 21 dL_rules_9 (by decide) ?_
    refine j_iconst h1 dL_rules_21 ?_
    exact j_iret h1 rfl rk_0 dL_rules_22 h9
set_option maxHeartbeats 4000000 in
set_option maxRecDepth 100000 in
theorem cl_isFact {l : Launch} {D : va_G} {cy : Nat → ClassId} {ad : Nat → Nat} {xs : Nat → Int} {L : Nat} (hst : l.stackTraces = false) (hin : jIn ad ksK.length) : jXN l D vwCl (tyC cy) cy ad ftJ ksK (XtB ad xs L) yL_isFact (.codeWith yL_isFact cL_isFact 6 (some .int) [(0, 19, 22, 30)] :: Om) ({ frames := 10, cells := 1, slots := 6, locals := 163 } : Room) 1 1 6 [] (fun post _ av M => WL_isFact ad post av M) := by
  refine jHN_of (y := yL_isFact) (cc := cL_isFact) (nL := 6) (rm := ({ frames := 10, cells := 1, slots := 6, locals := 163 } : Room)) (own := RL) (hh := [(0, 19, 22, 30)]) (mc := 1) (ms := 6) (fun A U h => h.2.1) (fun A U h => XtC_z ad A U h.1) (tyC_ok cy) hin (XtB_ok ad xs L) Om_good (by decide) rfl ⟨rfl, rfl⟩ ?_
  intro post av M hF
  obtain ⟨p1, p2, p3, rfl, g1, g2, g3, hF⟩ := hF
  refine ⟨Nat.le_of_ble_eq_true rfl, fun J0 J1 h0 h1 tv ti tl tz => ?_⟩
  show J0 0 [(0, .ref (ad 0)), (1, .int (Ii p1)), (2, .int (Ii p2)), (3, .int (Ii p3)), (4, .ref (ad 389))] [] M
  refine j_aload h0 dL_isFact_0 4 rfl ?_
  refine j_iconst h0 dL_isFact_2 ?_
  refine j_aload_n h0 dL_isFact_3 rfl 0 rfl ?_
  refine j_iload_n h0 dL_isFact_4 rfl 1 rfl ?_
  refine j_iload_n h0 dL_isFact_5 rfl 2 rfl ?_
  refine j_iload_n h0 dL_isFact_6 rfl 3 rfl ?_
  obtain ⟨C, Q0, X0, hC, hRC, hw, hQ, hX⟩ := hF
  refine tz _ _ _ _ _ _ 0 _ _ _ _ _ _ _ (fun r M1 => post 0 (ux_ M1 389 0 r)) (fun E M1 => (E = "java/util/NoSuchElementException" ∧ post 1 M1)) [.int (Ii p1), .int (Ii p2), .int (Ii p3)] [.int (Ii 0), .ref (ad 389)] _ _ (lfX hin (c_X11_isFact (l := l) (D := D) (cy := cy) (ad := ad) hst (jIn_w hin))) rfl om_2078 ⟨rfl, rfl, Nat.le_of_ble_eq_true rfl, Nat.le_of_ble_eq_true rfl⟩ ⟨om_2079, om_2080, om_2081, om_854⟩ hd_X11_isFactv kK_0 rfl rfl rfl (Nat.le_of_ble_eq_true rfl) dL_isFact_7 ⟨C, Q0, X0, hC, hRC, ⟨p1, p2, p3, rfl, g1, g2, g3, hw⟩, hQ, hX⟩ (fun E M1 h8 h9 => ?_) (fun r M1 gr h9 => ?_)
  · rcases h9 with ⟨rfl, h9⟩
    · refine ⟨[], ⟨0, 19, 22, 30⟩, [], rfl, (fun _ h => nomatch h), by decide, by decide, om_1997, by decide, fun q => ?_⟩
      refine j_astore (lv' := [(5, .ref q), (0, .ref (ad 0)), (1, .int (Ii p1)), (2, .int (Ii p2)), (3, .int (Ii p3)), (4, .ref (ad 389))]) h1 dL_isFact_22 (by decide) rfl ?_
      refine j_iconst h1 dL_isFact_24 ?_
      exact j_iret h1 rfl rk_1 dL_isFact_25 h9
  · skip
    rcases gr with rfl | rfl
    · refine j_if_eq h1 17 rk_0 dL_isFact_10 (by decide) (fun _ => ?_) (fun z => absurd rfl z)
      refine j_lconst (x := 0) h1 dL_isFact_17 rfl ?_
      refine j_last h1 rk_0 lkm_0 kK_389 (by decide) (by decide) dL_isFact_18 (fun M2 e2 => ?_)
      subst e2
      refine j_goto h1 26 dL_isFact_19 (by decide) ?_
      refine j_iconst h1 dL_isFact_26 ?_
      exact j_iret h1 rfl rk_0 dL_isFact_27 h9
    · refine j_if_eq h1 17 rk_1 dL_isFact_10 (by decide) (fun z => absurd z (by decide)) (fun _ => ?_)
      refine j_lconst (x := 1) h1 dL_isFact_13 rfl ?_
      refine j_goto h1 18 dL_isFact_14 (by decide) ?_
      refine j_last h1 rk_0 lk_1 kK_389 (by decide) (by decide) dL_isFact_18 (fun M2 e2 => ?_)
      subst e2
      refine j_goto h1 26 dL_isFact_19 (by decide) ?_
      refine j_iconst h1 dL_isFact_26 ?_
      exact j_iret h1 rfl rk_0 dL_isFact_27 h9
set_option maxHeartbeats 4000000 in
set_option maxRecDepth 100000 in
theorem cl_bytes {l : Launch} {D : va_G} {cy : Nat → ClassId} {ad : Nat → Nat} {xs : Nat → Int} {L : Nat} (hst : l.stackTraces = false) (hin : jIn ad ksK.length) : jXN l D vwCl (tyC cy) cy ad ftJ ksK (XtB ad xs L) yL_bytes (.codeWith yL_bytes cL_bytes 4 (some .int) [(0, 9, 12, 13), (0, 9, 15, 17)] :: Om) ({ frames := 11, cells := 2, slots := 12, locals := 182 } : Room) 1 2 12 [] (fun post _ av M => WL_bytes ad post av M) := by
  refine jHN_of (y := yL_bytes) (cc := cL_bytes) (nL := 4) (rm := ({ frames := 11, cells := 2, slots := 12, locals := 182 } : Room)) (own := RL) (hh := [(0, 9, 12, 13), (0, 9, 15, 17)]) (mc := 2) (ms := 12) (fun A U h => h.2.1) (fun A U h => XtC_z ad A U h.1) (tyC_ok cy) hin (XtB_ok ad xs L) Om_good (by decide) rfl ⟨rfl, rfl⟩ ?_
  intro post av M hF
  obtain ⟨p1, rfl, g1, hF⟩ := hF
  refine ⟨Nat.le_of_ble_eq_true rfl, fun J0 J1 h0 h1 tv ti tl tz => ?_⟩
  show J0 0 [(0, .ref (ad 0)), (1, .int (Ii p1)), (2, .ref (ad 389))] [] M
  refine j_aload_n h0 dL_bytes_0 rfl 2 rfl ?_
  refine j_iconst h0 dL_bytes_1 ?_
  refine j_aload_n h0 dL_bytes_2 rfl 0 rfl ?_
  refine j_iload_n h0 dL_bytes_3 rfl 1 rfl ?_
  obtain ⟨C, Q0, X0, hC, hRC, hw, hQ, hX⟩ := hF
  refine ti _ _ _ _ _ _ 0 _ _ _ _ _ _ _ (fun r M1 => post 0 (ux_ M1 389 0 r)) (fun E M1 => (E = "java/lang/IndexOutOfBoundsException" ∧ post 1 M1) ∨ (E = "java/lang/IllegalStateException" ∧ post 2 M1)) [.int (Ii p1)] [.int (Ii 0), .ref (ad 389)] _ _ (lfX hin (c_X11_bytes (l := l) (D := D) (cy := cy) (ad := ad) hst (jIn_w hin))) rfl om_2082 ⟨rfl, rfl, Nat.le_of_ble_eq_true rfl, Nat.le_of_ble_eq_true rfl⟩ ⟨om_2083, om_2084, om_2085, om_854⟩ hd_X11_bytesv kK_0 rfl rfl rfl (Nat.le_of_ble_eq_true rfl) dL_bytes_4 ⟨C, Q0, X0, hC, hRC, ⟨p1, rfl, g1, hw⟩, hQ, hX⟩ (fun E M1 h8 h9 => ?_) (fun r M1 gr h9 => ?_)
  · rcases h9 with ⟨rfl, h9⟩ | ⟨rfl, h9⟩
    · refine ⟨[], ⟨0, 9, 12, 13⟩, [⟨0, 9, 15, 17⟩], rfl, (fun _ h => nomatch h), by decide, by decide, om_1982, by decide, fun q => ?_⟩
      refine j_astore_n (lv' := [(3, .ref q), (0, .ref (ad 0)), (1, .int (Ii p1)), (2, .ref (ad 389))]) h1 dL_bytes_12 rfl (by decide) rfl ?_
      refine j_iconst h1 dL_bytes_13 ?_
      exact j_iret h1 rfl rk_1 dL_bytes_14 h9
    · refine ⟨[⟨0, 9, 12, 13⟩], ⟨0, 9, 15, 17⟩, [], rfl, (List.forall_mem_cons.mpr ⟨⟨by decide, "java/lang/IndexOutOfBoundsException", om_1982, by decide, by decide⟩, (fun _ h => nomatch h)⟩), by decide, by decide, om_1984, by decide, fun q => ?_⟩
      refine j_astore_n (lv' := [(3, .ref q), (0, .ref (ad 0)), (1, .int (Ii p1)), (2, .ref (ad 389))]) h1 dL_bytes_15 rfl (by decide) rfl ?_
      refine j_iconst h1 dL_bytes_16 ?_
      exact j_iret h1 rfl rk_2 dL_bytes_17 h9
  · skip
    refine j_i2l h1 gr dL_bytes_7 ?_
    refine j_last h1 rk_0 (rl_ri gr) kK_389 (by decide) (by decide) dL_bytes_8 (fun M2 e2 => ?_)
    subst e2
    refine j_goto h1 18 dL_bytes_9 (by decide) ?_
    refine j_iconst h1 dL_bytes_18 ?_
    exact j_iret h1 rfl rk_0 dL_bytes_19 h9
set_option maxHeartbeats 4000000 in
set_option maxRecDepth 100000 in
theorem cl_load {l : Launch} {D : va_G} {cy : Nat → ClassId} {ad : Nat → Nat} {xs : Nat → Int} {L : Nat} (hst : l.stackTraces = false) (hin : jIn ad ksK.length) : jXN l D vwCl (tyC cy) cy ad ftJ ksK (XtB ad xs L) yL_load (.codeWith yL_load cL_load 4 (some .int) [(0, 9, 12, 13), (0, 9, 15, 15)] :: Om) ({ frames := 11, cells := 2, slots := 12, locals := 183 } : Room) 1 2 12 [] (fun post _ av M => WL_load ad post av M) := by
  refine jHN_of (y := yL_load) (cc := cL_load) (nL := 4) (rm := ({ frames := 11, cells := 2, slots := 12, locals := 183 } : Room)) (own := RL) (hh := [(0, 9, 12, 13), (0, 9, 15, 15)]) (mc := 2) (ms := 12) (fun A U h => h.2.1) (fun A U h => XtC_z ad A U h.1) (tyC_ok cy) hin (XtB_ok ad xs L) Om_good (by decide) rfl ⟨rfl, rfl⟩ ?_
  intro post av M hF
  obtain ⟨p1, rfl, g1, hF⟩ := hF
  refine ⟨Nat.le_of_ble_eq_true rfl, fun J0 J1 h0 h1 tv ti tl tz => ?_⟩
  show J0 0 [(0, .ref (ad 0)), (1, .int (Ii p1)), (2, .ref (ad 389))] [] M
  refine j_aload_n h0 dL_load_0 rfl 2 rfl ?_
  refine j_iconst h0 dL_load_1 ?_
  refine j_aload_n h0 dL_load_2 rfl 0 rfl ?_
  refine j_iload_n h0 dL_load_3 rfl 1 rfl ?_
  obtain ⟨C, Q0, X0, hC, hRC, hw, hQ, hX⟩ := hF
  refine ti _ _ _ _ _ _ 0 _ _ _ _ _ _ _ (fun r M1 => post 0 (ux_ M1 389 0 r)) (fun E M1 => (E = "java/lang/IndexOutOfBoundsException" ∧ post 1 M1) ∨ (E = "java/lang/IllegalArgumentException" ∧ post 2 M1)) [.int (Ii p1)] [.int (Ii 0), .ref (ad 389)] _ _ (lfX hin (c_X11_load (l := l) (D := D) (cy := cy) (ad := ad) hst (jIn_w hin))) rfl om_2086 ⟨rfl, rfl, Nat.le_of_ble_eq_true rfl, Nat.le_of_ble_eq_true rfl⟩ ⟨om_2087, om_2088, om_2089, om_854⟩ hd_X11_loadv kK_0 rfl rfl rfl (Nat.le_of_ble_eq_true rfl) dL_load_4 ⟨C, Q0, X0, hC, hRC, ⟨p1, rfl, g1, hw⟩, hQ, hX⟩ (fun E M1 h8 h9 => ?_) (fun r M1 gr h9 => ?_)
  · rcases h9 with ⟨rfl, h9⟩ | ⟨rfl, h9⟩
    · refine ⟨[], ⟨0, 9, 12, 13⟩, [⟨0, 9, 15, 15⟩], rfl, (fun _ h => nomatch h), by decide, by decide, om_1982, by decide, fun q => ?_⟩
      refine j_astore_n (lv' := [(3, .ref q), (0, .ref (ad 0)), (1, .int (Ii p1)), (2, .ref (ad 389))]) h1 dL_load_12 rfl (by decide) rfl ?_
      refine j_iconst h1 dL_load_13 ?_
      exact j_iret h1 rfl rk_1 dL_load_14 h9
    · refine ⟨[⟨0, 9, 12, 13⟩], ⟨0, 9, 15, 15⟩, [], rfl, (List.forall_mem_cons.mpr ⟨⟨by decide, "java/lang/IndexOutOfBoundsException", om_1982, by decide, by decide⟩, (fun _ h => nomatch h)⟩), by decide, by decide, om_1983, by decide, fun q => ?_⟩
      refine j_astore_n (lv' := [(3, .ref q), (0, .ref (ad 0)), (1, .int (Ii p1)), (2, .ref (ad 389))]) h1 dL_load_15 rfl (by decide) rfl ?_
      refine j_iconst h1 dL_load_16 ?_
      exact j_iret h1 rfl rk_2 dL_load_17 h9
  · skip
    refine j_i2l h1 gr dL_load_7 ?_
    refine j_last h1 rk_0 (rl_ri gr) kK_389 (by decide) (by decide) dL_load_8 (fun M2 e2 => ?_)
    subst e2
    refine j_goto h1 18 dL_load_9 (by decide) ?_
    refine j_iconst h1 dL_load_18 ?_
    exact j_iret h1 rfl rk_0 dL_load_19 h9
set_option maxHeartbeats 4000000 in
set_option maxRecDepth 100000 in
theorem cl_keep {l : Launch} {D : va_G} {cy : Nat → ClassId} {ad : Nat → Nat} {xs : Nat → Int} {L : Nat} (hst : l.stackTraces = false) (hin : jIn ad ksK.length) : jXN l D vwCl (tyC cy) cy ad ftJ ksK (XtB ad xs L) yL_keep (.codeWith yL_keep cL_keep 4 (some .int) [(0, 9, 12, 13), (0, 9, 15, 17)] :: Om) ({ frames := 11, cells := 2, slots := 12, locals := 182 } : Room) 1 2 12 [] (fun post _ av M => WL_keep ad post av M) := by
  refine jHN_of (y := yL_keep) (cc := cL_keep) (nL := 4) (rm := ({ frames := 11, cells := 2, slots := 12, locals := 182 } : Room)) (own := RL) (hh := [(0, 9, 12, 13), (0, 9, 15, 17)]) (mc := 2) (ms := 12) (fun A U h => h.2.1) (fun A U h => XtC_z ad A U h.1) (tyC_ok cy) hin (XtB_ok ad xs L) Om_good (by decide) rfl ⟨rfl, rfl⟩ ?_
  intro post av M hF
  obtain ⟨p1, rfl, g1, hF⟩ := hF
  refine ⟨Nat.le_of_ble_eq_true rfl, fun J0 J1 h0 h1 tv ti tl tz => ?_⟩
  show J0 0 [(0, .ref (ad 0)), (1, .int (Ii p1)), (2, .ref (ad 389))] [] M
  refine j_aload_n h0 dL_keep_0 rfl 2 rfl ?_
  refine j_iconst h0 dL_keep_1 ?_
  refine j_aload_n h0 dL_keep_2 rfl 0 rfl ?_
  refine j_iload_n h0 dL_keep_3 rfl 1 rfl ?_
  obtain ⟨C, Q0, X0, hC, hRC, hw, hQ, hX⟩ := hF
  refine ti _ _ _ _ _ _ 0 _ _ _ _ _ _ _ (fun r M1 => post 0 (ux_ M1 389 0 r)) (fun E M1 => (E = "java/lang/IndexOutOfBoundsException" ∧ post 1 M1) ∨ (E = "java/lang/IllegalStateException" ∧ post 2 M1)) [.int (Ii p1)] [.int (Ii 0), .ref (ad 389)] _ _ (lfX hin (c_X11_keep (l := l) (D := D) (cy := cy) (ad := ad) hst (jIn_w hin))) rfl om_2090 ⟨rfl, rfl, Nat.le_of_ble_eq_true rfl, Nat.le_of_ble_eq_true rfl⟩ ⟨om_2091, om_2092, om_2093, om_854⟩ hd_X11_keepv kK_0 rfl rfl rfl (Nat.le_of_ble_eq_true rfl) dL_keep_4 ⟨C, Q0, X0, hC, hRC, ⟨p1, rfl, g1, hw⟩, hQ, hX⟩ (fun E M1 h8 h9 => ?_) (fun r M1 gr h9 => ?_)
  · rcases h9 with ⟨rfl, h9⟩ | ⟨rfl, h9⟩
    · refine ⟨[], ⟨0, 9, 12, 13⟩, [⟨0, 9, 15, 17⟩], rfl, (fun _ h => nomatch h), by decide, by decide, om_1982, by decide, fun q => ?_⟩
      refine j_astore_n (lv' := [(3, .ref q), (0, .ref (ad 0)), (1, .int (Ii p1)), (2, .ref (ad 389))]) h1 dL_keep_12 rfl (by decide) rfl ?_
      refine j_iconst h1 dL_keep_13 ?_
      exact j_iret h1 rfl rk_1 dL_keep_14 h9
    · refine ⟨[⟨0, 9, 12, 13⟩], ⟨0, 9, 15, 17⟩, [], rfl, (List.forall_mem_cons.mpr ⟨⟨by decide, "java/lang/IndexOutOfBoundsException", om_1982, by decide, by decide⟩, (fun _ h => nomatch h)⟩), by decide, by decide, om_1984, by decide, fun q => ?_⟩
      refine j_astore_n (lv' := [(3, .ref q), (0, .ref (ad 0)), (1, .int (Ii p1)), (2, .ref (ad 389))]) h1 dL_keep_15 rfl (by decide) rfl ?_
      refine j_iconst h1 dL_keep_16 ?_
      exact j_iret h1 rfl rk_2 dL_keep_17 h9
  · skip
    refine j_i2l h1 gr dL_keep_7 ?_
    refine j_last h1 rk_0 (rl_ri gr) kK_389 (by decide) (by decide) dL_keep_8 (fun M2 e2 => ?_)
    subst e2
    refine j_goto h1 18 dL_keep_9 (by decide) ?_
    refine j_iconst h1 dL_keep_18 ?_
    exact j_iret h1 rfl rk_0 dL_keep_19 h9
set_option maxHeartbeats 4000000 in
set_option maxRecDepth 100000 in
theorem cl_recall {l : Launch} {D : va_G} {cy : Nat → ClassId} {ad : Nat → Nat} {xs : Nat → Int} {L : Nat} (hst : l.stackTraces = false) (hin : jIn ad ksK.length) : jXN l D vwCl (tyC cy) cy ad ftJ ksK (XtB ad xs L) yL_recall (.codeWith yL_recall cL_recall 5 (some .int) [(0, 10, 13, 13), (0, 10, 17, 30)] :: Om) ({ frames := 11, cells := 2, slots := 12, locals := 189 } : Room) 1 2 12 [] (fun post _ av M => WL_recall ad post av M) := by
  refine jHN_of (y := yL_recall) (cc := cL_recall) (nL := 5) (rm := ({ frames := 11, cells := 2, slots := 12, locals := 189 } : Room)) (own := RL) (hh := [(0, 10, 13, 13), (0, 10, 17, 30)]) (mc := 2) (ms := 12) (fun A U h => h.2.1) (fun A U h => XtC_z ad A U h.1) (tyC_ok cy) hin (XtB_ok ad xs L) Om_good (by decide) rfl ⟨rfl, rfl⟩ ?_
  intro post av M hF
  obtain ⟨p1, p2, rfl, g1, g2, hF⟩ := hF
  refine ⟨Nat.le_of_ble_eq_true rfl, fun J0 J1 h0 h1 tv ti tl tz => ?_⟩
  show J0 0 [(0, .ref (ad 0)), (1, .int (Ii p1)), (2, .int (Ii p2)), (3, .ref (ad 389))] [] M
  refine j_aload_n h0 dL_recall_0 rfl 3 rfl ?_
  refine j_iconst h0 dL_recall_1 ?_
  refine j_aload_n h0 dL_recall_2 rfl 0 rfl ?_
  refine j_iload_n h0 dL_recall_3 rfl 1 rfl ?_
  refine j_iload_n h0 dL_recall_4 rfl 2 rfl ?_
  obtain ⟨C, Q0, X0, hC, hRC, hw, hQ, hX⟩ := hF
  refine ti _ _ _ _ _ _ 0 _ _ _ _ _ _ _ (fun r M1 => post 0 (ux_ M1 389 0 r)) (fun E M1 => (E = "java/lang/IndexOutOfBoundsException" ∧ post 1 M1) ∨ (E = "java/util/NoSuchElementException" ∧ post 2 M1)) [.int (Ii p1), .int (Ii p2)] [.int (Ii 0), .ref (ad 389)] _ _ (lfX hin (c_X11_recall (l := l) (D := D) (cy := cy) (ad := ad) hst (jIn_w hin))) rfl om_2094 ⟨rfl, rfl, Nat.le_of_ble_eq_true rfl, Nat.le_of_ble_eq_true rfl⟩ ⟨om_2095, om_2096, om_2097, om_854⟩ hd_X11_recallv kK_0 rfl rfl rfl (Nat.le_of_ble_eq_true rfl) dL_recall_5 ⟨C, Q0, X0, hC, hRC, ⟨p1, p2, rfl, g1, g2, hw⟩, hQ, hX⟩ (fun E M1 h8 h9 => ?_) (fun r M1 gr h9 => ?_)
  · rcases h9 with ⟨rfl, h9⟩ | ⟨rfl, h9⟩
    · refine ⟨[], ⟨0, 10, 13, 13⟩, [⟨0, 10, 17, 30⟩], rfl, (fun _ h => nomatch h), by decide, by decide, om_1982, by decide, fun q => ?_⟩
      refine j_astore (lv' := [(4, .ref q), (0, .ref (ad 0)), (1, .int (Ii p1)), (2, .int (Ii p2)), (3, .ref (ad 389))]) h1 dL_recall_13 (by decide) rfl ?_
      refine j_iconst h1 dL_recall_15 ?_
      exact j_iret h1 rfl rk_1 dL_recall_16 h9
    · refine ⟨[⟨0, 10, 13, 13⟩], ⟨0, 10, 17, 30⟩, [], rfl, (List.forall_mem_cons.mpr ⟨⟨by decide, "java/lang/IndexOutOfBoundsException", om_1982, by decide, by decide⟩, (fun _ h => nomatch h)⟩), by decide, by decide, om_1997, by decide, fun q => ?_⟩
      refine j_astore (lv' := [(4, .ref q), (0, .ref (ad 0)), (1, .int (Ii p1)), (2, .int (Ii p2)), (3, .ref (ad 389))]) h1 dL_recall_17 (by decide) rfl ?_
      refine j_iconst h1 dL_recall_19 ?_
      exact j_iret h1 rfl rk_2 dL_recall_20 h9
  · skip
    refine j_i2l h1 gr dL_recall_8 ?_
    refine j_last h1 rk_0 (rl_ri gr) kK_389 (by decide) (by decide) dL_recall_9 (fun M2 e2 => ?_)
    subst e2
    refine j_goto h1 21 dL_recall_10 (by decide) ?_
    refine j_iconst h1 dL_recall_21 ?_
    exact j_iret h1 rfl rk_0 dL_recall_22 h9
