theorem c_J3_checkIndex_8e157_B0 {l : Launch} {D : va_G} {cy : Nat → ClassId} {ad : Nat → Nat} {ksB : List (Nat × Nat)} {xs : Nat → Int} {L : Nat} (hin : jIn ad ksB.length) : jCN l D vwCl (tyB cy) cy ad ftB ksB (XtB ad xs L) yJ3_checkIndex_8e157 (.code yJ3_checkIndex_8e157 cJ3_checkIndex_8e157 3 (some .int) :: Om) ({ frames := 0, cells := 0, slots := 0, locals := 0 } : Room) 1 (fun Q av M => ∃ p1 p2, av = [.int (Ii p1), .int (Ii p2), .null] ∧ ri_ p1 ∧ ri_ p2 ∧ 0 ≤ p1 ∧ p1 < p2 ∧ Q p1 M) := by
  refine jCN_of (y := yJ3_checkIndex_8e157) (cc := cJ3_checkIndex_8e157) (nL := 3) (rk := 1) (rm := ({ frames := 0, cells := 0, slots := 0, locals := 0 } : Room)) (own := RJ3) (tyB_ok cy) hin (XtB_ok ad xs L) Om_good (by decide) rfl ?_
  intro Q av M hF
  obtain ⟨p1, p2, rfl, g1, g2, h0, h1, hF⟩ := hF
  refine ⟨Nat.le_of_ble_eq_true rfl, fun J hJ => ?_⟩
  show J 0 [(0, .int (Ii p1)), (1, .int (Ii p2)), (2, .null)] [] M
  refine j_iload_n hJ dJ3_checkIndex_8e157_0 rfl 0 rfl ?_
  refine j_if_lt hJ 9 g1 dJ3_checkIndex_8e157_1 (by decide) (fun z => absurd z (by omega)) (fun _ => ?_)
  refine j_iload_n hJ dJ3_checkIndex_8e157_4 rfl 0 rfl ?_
  refine j_iload_n hJ dJ3_checkIndex_8e157_5 rfl 1 rfl ?_
  refine j_icmp_lt hJ 16 g1 g2 dJ3_checkIndex_8e157_6 (by decide) (fun _ => ?_) (fun z => absurd h1 z)
  refine j_iload_n hJ dJ3_checkIndex_8e157_16 rfl 0 rfl ?_
  exact j_iret hJ rfl g1 dJ3_checkIndex_8e157_17 hF
theorem c_J3_checkIndex_8e157_B1 {l : Launch} {D : va_G} {cy : Nat → ClassId} {ad : Nat → Nat} {ksB : List (Nat × Nat)} {xs : Nat → Int} {L : Nat} (hin : jIn ad ksB.length) (t : Nat) : jCN l D vwCl (tyB cy) cy ad ftB ksB (XtB ad xs L) yJ3_checkIndex_8e157 (.code yJ3_checkIndex_8e157 cJ3_checkIndex_8e157 3 (some .int) :: Om) ({ frames := 0, cells := 0, slots := 0, locals := 0 } : Room) 1 (fun Q av M => ∃ p1 p2, av = [.int (Ii p1), .int (Ii p2), .ref t] ∧ ri_ p1 ∧ ri_ p2 ∧ 0 ≤ p1 ∧ p1 < p2 ∧ Q p1 M) := by
  refine jCN_of (y := yJ3_checkIndex_8e157) (cc := cJ3_checkIndex_8e157) (nL := 3) (rk := 1) (rm := ({ frames := 0, cells := 0, slots := 0, locals := 0 } : Room)) (own := RJ3) (tyB_ok cy) hin (XtB_ok ad xs L) Om_good (by decide) rfl ?_
  intro Q av M hF
  obtain ⟨p1, p2, rfl, g1, g2, h0, h1, hF⟩ := hF
  refine ⟨Nat.le_of_ble_eq_true rfl, fun J hJ => ?_⟩
  show J 0 [(0, .int (Ii p1)), (1, .int (Ii p2)), (2, .ref t)] [] M
  refine j_iload_n hJ dJ3_checkIndex_8e157_0 rfl 0 rfl ?_
  refine j_if_lt hJ 9 g1 dJ3_checkIndex_8e157_1 (by decide) (fun z => absurd z (by omega)) (fun _ => ?_)
  refine j_iload_n hJ dJ3_checkIndex_8e157_4 rfl 0 rfl ?_
  refine j_iload_n hJ dJ3_checkIndex_8e157_5 rfl 1 rfl ?_
  refine j_icmp_lt hJ 16 g1 g2 dJ3_checkIndex_8e157_6 (by decide) (fun _ => ?_) (fun z => absurd h1 z)
  refine j_iload_n hJ dJ3_checkIndex_8e157_16 rfl 0 rfl ?_
  exact j_iret hJ rfl g1 dJ3_checkIndex_8e157_17 hF
def W_J0_checkIndex_df160_B (ad : Nat → Nat) (Q : Int → MM → Prop) (av : List Value) (M : MM) : Prop := ∃ (p1 : Int) (p2 : Int), av = [.int (Ii p1), .int (Ii p2)] ∧ ri_ p1 ∧ ri_ p2 ∧ w_J0_checkIndex_df160_B Q p1 p2 M
theorem c_J0_checkIndex_df160_B {l : Launch} {D : va_G} {cy : Nat → ClassId} {ad : Nat → Nat} {ksB : List (Nat × Nat)} {xs : Nat → Int} {L : Nat} (hin : jIn ad ksB.length) : jCN l D vwCl (tyB cy) cy ad ftB ksB (XtB ad xs L) yJ0_checkIndex_df160 (.code yJ0_checkIndex_df160 cJ0_checkIndex_df160 2 none :: Om) ({ frames := 2, cells := 0, slots := 0, locals := 60 } : Room) 0 (W_J0_checkIndex_df160_B ad) := by
  refine jCN_of (y := yJ0_checkIndex_df160) (cc := cJ0_checkIndex_df160) (nL := 2) (rk := 0) (rm := ({ frames := 2, cells := 0, slots := 0, locals := 60 } : Room)) (own := RJ0) (tyB_ok cy) hin (XtB_ok ad xs L) Om_good (by decide) rfl ?_
  intro Q av M hF
  obtain ⟨p1, p2, rfl, g1, g2, h0, h1, hF⟩ := hF
  refine ⟨Nat.le_of_ble_eq_true rfl, fun J hJ => ?_⟩
  show J 0 [(0, .int (Ii p1)), (1, .int (Ii p2))] [] M
  refine j_iload_n hJ dJ0_checkIndex_df160_0 rfl 0 rfl ?_
  refine j_iload_n hJ dJ0_checkIndex_df160_1 rfl 1 rfl ?_
  refine j_gsq hJ XtB_fm om_1610 dJ0_checkIndex_df160_2 ?_ (fun t => ?_)
  · refine j_callSi hJ (c_J3_checkIndex_8e157_B0 hin) rfl om_1606 ⟨rfl, rfl, Nat.le_of_ble_eq_true rfl, Nat.le_of_ble_eq_true rfl⟩ [.int (Ii p1), .int (Ii p2), .null] ⟨om_1607, om_1608, om_1609⟩ hd_J3_checkIndex_8e157 rfl (Nat.le_of_ble_eq_true rfl) dJ0_checkIndex_df160_5 (P := fun r M1 => r = p1 ∧ M1 = M) ⟨p1, p2, rfl, g1, g2, h0, h1, rfl, rfl⟩ (fun r M1 gr q => ?_)
    obtain ⟨rfl, rfl⟩ := q
    refine j_pop hJ dJ0_checkIndex_df160_8 rfl ?_
    exact j_vret hJ rfl dJ0_checkIndex_df160_9 hF
  · refine j_callSi hJ (c_J3_checkIndex_8e157_B1 hin t) rfl om_1606 ⟨rfl, rfl, Nat.le_of_ble_eq_true rfl, Nat.le_of_ble_eq_true rfl⟩ [.int (Ii p1), .int (Ii p2), .ref t] ⟨om_1607, om_1608, om_1609⟩ hd_J3_checkIndex_8e157 rfl (Nat.le_of_ble_eq_true rfl) dJ0_checkIndex_df160_5 (P := fun r M1 => r = p1 ∧ M1 = M) ⟨p1, p2, rfl, g1, g2, h0, h1, rfl, rfl⟩ (fun r M1 gr q => ?_)
    obtain ⟨rfl, rfl⟩ := q
    refine j_pop hJ dJ0_checkIndex_df160_8 rfl ?_
    exact j_vret hJ rfl dJ0_checkIndex_df160_9 hF
def W_J0_coder_7d493_B0 (ad : Nat → Nat) (Q : Int → MM → Prop) (av : List Value) (M : MM) : Prop := av = [.ref (ad 903)] ∧ w_J0_coder_7d493_B0  Q  M
set_option maxHeartbeats 4000000 in
set_option maxRecDepth 100000 in
theorem c_J0_coder_7d493_B0 {l : Launch} {D : va_G} {cy : Nat → ClassId} {ad : Nat → Nat} {ksB : List (Nat × Nat)} {xs : Nat → Int} {L : Nat} (hin : jIn ad ksB.length) : jCN l D vwCl (tyB cy) cy ad ftB ksB (XtB ad xs L) yJ0_coder_7d493 (.code yJ0_coder_7d493 cJ0_coder_7d493 1 (some .byte) :: Om) ({ frames := 0, cells := 0, slots := 0, locals := 0 } : Room) 4 (W_J0_coder_7d493_B0 ad) := by
  refine jCN_of (y := yJ0_coder_7d493) (cc := cJ0_coder_7d493) (nL := 1) (rk := 4) (rm := ({ frames := 0, cells := 0, slots := 0, locals := 0 } : Room)) (own := RJ0) (tyB_ok cy) hin (XtB_ok ad xs L) Om_good (by decide) rfl ?_
  intro Q av M hF
  obtain ⟨rfl, hF⟩ := hF
  refine ⟨Nat.le_of_ble_eq_true rfl, fun J hJ => ?_⟩
  show J 0 [(0, .ref (ad 903))] [] M
  unfold w_J0_coder_7d493_B0 at hF
  refine j_gs hJ XtB_cs om_535 dJ0_coder_7d493_0 ?_
  refine j_if_eq hJ 13 rk_1 dJ0_coder_7d493_3 (by decide) (fun z => absurd z (by decide)) (fun _ => ?_)
  refine j_aload_n hJ dJ0_coder_7d493_6 rfl 0 rfl ?_
  refine j_gsf hJ XtB0_s2 om_536 dJ0_coder_7d493_7 ?_
  refine j_goto hJ 14 dJ0_coder_7d493_10 (by decide) ?_
  exact j_bret hJ rfl (by omega) dJ0_coder_7d493_14 hF
def W_J0_length_8abf5_B0 (ad : Nat → Nat) (Q : Int → MM → Prop) (av : List Value) (M : MM) : Prop := av = [.ref (ad 903)] ∧ w_J0_length_8abf5_B0  Q  M
set_option maxHeartbeats 4000000 in
set_option maxRecDepth 100000 in
theorem c_J0_length_8abf5_B0 {l : Launch} {D : va_G} {cy : Nat → ClassId} {ad : Nat → Nat} {ksB : List (Nat × Nat)} {xs : Nat → Int} {L : Nat} (hin : jIn ad ksB.length) : jCN l D vwCl (tyB cy) cy ad ftB ksB (XtB ad xs L) yJ0_length_8abf5 (.code yJ0_length_8abf5 cJ0_length_8abf5 1 (some .int) :: Om) ({ frames := 1, cells := 0, slots := 0, locals := 20 } : Room) 1 (W_J0_length_8abf5_B0 ad) := by
  refine jCN_of (y := yJ0_length_8abf5) (cc := cJ0_length_8abf5) (nL := 1) (rk := 1) (rm := ({ frames := 1, cells := 0, slots := 0, locals := 20 } : Room)) (own := RJ0) (tyB_ok cy) hin (XtB_ok ad xs L) Om_good (by decide) rfl ?_
  intro Q av M hF
  obtain ⟨rfl, hF⟩ := hF
  refine ⟨Nat.le_of_ble_eq_true rfl, fun J hJ => ?_⟩
  show J 0 [(0, .ref (ad 903))] [] M
  unfold w_J0_length_8abf5_B0 at hF
  refine j_aload_n hJ dJ0_length_8abf5_0 rfl 0 rfl ?_
  refine j_gsf hJ XtB0_s3 om_542 dJ0_length_8abf5_1 ?_
  refine j_tlen hJ XtB0_s4 dJ0_length_8abf5_4 ?_
  refine j_aload_n hJ dJ0_length_8abf5_5 rfl 0 rfl ?_
  refine j_callTb hJ (c_J0_coder_7d493_B0 (l := l) (D := D) (cy := cy) (ad := ad) hin) rfl om_543 ⟨rfl, rfl, Nat.le_of_ble_eq_true rfl, Nat.le_of_ble_eq_true rfl⟩ [] mv_J0_335 hd_J0_coder_7d493v XtB0_s0 rfl (Nat.le_of_ble_eq_true rfl) dJ0_length_8abf5_6 ⟨rfl, hF⟩ (fun r1 M2 gr1 qM2 => ?_)
  have hF := qM2 gr1
  refine j_ishr hJ dJ0_length_8abf5_9 ?_
  exact j_iret hJ rfl (ri_of _) dJ0_length_8abf5_10 hF
def W_J0_isLatin1_aae02_B0 (ad : Nat → Nat) (Q : Int → MM → Prop) (av : List Value) (M : MM) : Prop := av = [.ref (ad 903)] ∧ w_J0_isLatin1_aae02_B0  Q  M
set_option maxHeartbeats 4000000 in
set_option maxRecDepth 100000 in
theorem c_J0_isLatin1_aae02_B0 {l : Launch} {D : va_G} {cy : Nat → ClassId} {ad : Nat → Nat} {ksB : List (Nat × Nat)} {xs : Nat → Int} {L : Nat} (hin : jIn ad ksB.length) : jCN l D vwCl (tyB cy) cy ad ftB ksB (XtB ad xs L) yJ0_isLatin1_aae02 (.code yJ0_isLatin1_aae02 cJ0_isLatin1_aae02 1 (some .boolean) :: Om) ({ frames := 0, cells := 0, slots := 0, locals := 0 } : Room) 3 (W_J0_isLatin1_aae02_B0 ad) := by
  refine jCN_of (y := yJ0_isLatin1_aae02) (cc := cJ0_isLatin1_aae02) (nL := 1) (rk := 3) (rm := ({ frames := 0, cells := 0, slots := 0, locals := 0 } : Room)) (own := RJ0) (tyB_ok cy) hin (XtB_ok ad xs L) Om_good (by decide) rfl ?_
  intro Q av M hF
  obtain ⟨rfl, hF⟩ := hF
  refine ⟨Nat.le_of_ble_eq_true rfl, fun J hJ => ?_⟩
  show J 0 [(0, .ref (ad 903))] [] M
  unfold w_J0_isLatin1_aae02_B0 at hF
  refine j_gs hJ XtB_cs om_535 dJ0_isLatin1_aae02_0 ?_
  refine j_if_eq hJ 17 rk_1 dJ0_isLatin1_aae02_3 (by decide) (fun z => absurd z (by decide)) (fun _ => ?_)
  refine j_aload_n hJ dJ0_isLatin1_aae02_6 rfl 0 rfl ?_
  refine j_gsf hJ XtB0_s2 om_536 dJ0_isLatin1_aae02_7 ?_
  refine j_if_ne hJ 17 rk_0 dJ0_isLatin1_aae02_10 (by decide) (fun z => absurd z (by decide)) (fun _ => ?_)
  refine j_iconst hJ dJ0_isLatin1_aae02_13 ?_
  refine j_goto hJ 18 dJ0_isLatin1_aae02_14 (by decide) ?_
  exact j_zret hJ rfl (by decide) dJ0_isLatin1_aae02_18 hF
def W_J1_charAt_3b067_B0 (ad : Nat → Nat) (Q : Int → MM → Prop) (av : List Value) (M : MM) : Prop := ∃ (p2 : Int), av = [.ref (ad 904), .int (Ii p2)] ∧ ri_ p2 ∧ w_J1_charAt_3b067_B0  Q p2 M
set_option maxHeartbeats 4000000 in
set_option maxRecDepth 100000 in
theorem c_J1_charAt_3b067_B0 {l : Launch} {D : va_G} {cy : Nat → ClassId} {ad : Nat → Nat} {ksB : List (Nat × Nat)} {xs : Nat → Int} {L : Nat} (hin : jIn ad ksB.length) : jCN l D vwCl (tyB cy) cy ad ftB ksB (XtB ad xs L) yJ1_charAt_3b067 (.code yJ1_charAt_3b067 cJ1_charAt_3b067 2 (some .char) :: Om) ({ frames := 3, cells := 0, slots := 0, locals := 81 } : Room) 1 (W_J1_charAt_3b067_B0 ad) := by
  refine jCN_ofC (y := yJ1_charAt_3b067) (cc := cJ1_charAt_3b067) (nL := 2) (rm := ({ frames := 3, cells := 0, slots := 0, locals := 81 } : Room)) (own := RJ1) (tyB_ok cy) hin (XtB_ok ad xs L) Om_good (by decide) rfl ?_
  intro Q av M hF
  obtain ⟨p2, rfl, gp2, hF⟩ := hF
  refine ⟨Nat.le_of_ble_eq_true rfl, fun J hJ => ?_⟩
  show J 0 [(0, .ref (ad 904)), (1, .int (Ii p2))] [] M
  unfold w_J1_charAt_3b067_B0 at hF
  refine j_iload_n hJ dJ1_charAt_3b067_0 rfl 1 rfl ?_
  refine j_aload_n hJ dJ1_charAt_3b067_1 rfl 0 rfl ?_
  refine j_tlen hJ XtB0_s4 dJ1_charAt_3b067_2 ?_
  refine j_callSv hJ (c_J0_checkIndex_df160_B (l := l) (D := D) (cy := cy) (ad := ad) hin) rfl om_1626 ⟨rfl, rfl, Nat.le_of_ble_eq_true rfl, Nat.le_of_ble_eq_true rfl⟩ [.int (Ii p2), .int (Ii ((143 : Nat) : Int))] mv_J1_9 hd_J0_checkIndex_df160 rfl (Nat.le_of_ble_eq_true rfl) dJ1_charAt_3b067_3 ⟨p2, ((143 : Nat) : Int), rfl, gp2, (by unfold ri_; omega), hF⟩ (fun M2 qM2 => ?_)
  have hF := qM2
  refine j_aload_n hJ dJ1_charAt_3b067_6 rfl 0 rfl ?_
  refine j_iload_n hJ dJ1_charAt_3b067_7 rfl 1 rfl ?_
  refine j_tb hJ XtB0_s4 gp2 hF.1 hF.2.1 dJ1_charAt_3b067_8 ?_
  have hF := hF.2.2
  refine j_sipush hJ dJ1_charAt_3b067_9 (by decide) ?_
  refine j_iand hJ dJ1_charAt_3b067_12 ?_
  refine j_i2c hJ dJ1_charAt_3b067_13 ?_
  exact j_iret hJ rfl (ri_of _) dJ1_charAt_3b067_14 hF
def W_J0_charAt_5068e_B0 (ad : Nat → Nat) (Q : Int → MM → Prop) (av : List Value) (M : MM) : Prop := ∃ (p1 : Int), av = [.ref (ad 903), .int (Ii p1)] ∧ ri_ p1 ∧ w_J0_charAt_5068e_B0  Q p1 M
set_option maxHeartbeats 4000000 in
set_option maxRecDepth 100000 in
theorem c_J0_charAt_5068e_B0 {l : Launch} {D : va_G} {cy : Nat → ClassId} {ad : Nat → Nat} {ksB : List (Nat × Nat)} {xs : Nat → Int} {L : Nat} (hin : jIn ad ksB.length) : jCN l D vwCl (tyB cy) cy ad ftB ksB (XtB ad xs L) yJ0_charAt_5068e (.code yJ0_charAt_5068e cJ0_charAt_5068e 2 (some .char) :: Om) ({ frames := 4, cells := 0, slots := 0, locals := 102 } : Room) 1 (W_J0_charAt_5068e_B0 ad) := by
  refine jCN_ofC (y := yJ0_charAt_5068e) (cc := cJ0_charAt_5068e) (nL := 2) (rm := ({ frames := 4, cells := 0, slots := 0, locals := 102 } : Room)) (own := RJ0) (tyB_ok cy) hin (XtB_ok ad xs L) Om_good (by decide) rfl ?_
  intro Q av M hF
  obtain ⟨p1, rfl, gp1, hF⟩ := hF
  refine ⟨Nat.le_of_ble_eq_true rfl, fun J hJ => ?_⟩
  show J 0 [(0, .ref (ad 903)), (1, .int (Ii p1))] [] M
  unfold w_J0_charAt_5068e_B0 at hF
  refine j_aload_n hJ dJ0_charAt_5068e_0 rfl 0 rfl ?_
  refine j_callTz hJ (c_J0_isLatin1_aae02_B0 (l := l) (D := D) (cy := cy) (ad := ad) hin) rfl om_537 ⟨rfl, rfl, Nat.le_of_ble_eq_true rfl, Nat.le_of_ble_eq_true rfl⟩ [] mv_J0_492 hd_J0_isLatin1_aae02v XtB0_s0 rfl (Nat.le_of_ble_eq_true rfl) dJ0_charAt_5068e_1 ⟨rfl, hF⟩ (fun r1 M2 gr1 qM2 => ?_)
  have hF := qM2 gr1
  refine j_if_eq hJ 16 (jz_ri gr1) dJ0_charAt_5068e_4 (by decide) (fun z3 => ?_) (fun z3 => ?_)
  · have hF := hF.1 z3
    refine j_aload_n hJ dJ0_charAt_5068e_16 rfl 0 rfl ?_
    refine j_gsf hJ XtB0_s3 om_542 dJ0_charAt_5068e_17 ?_
    refine j_iload_n hJ dJ0_charAt_5068e_20 rfl 1 rfl ?_
    exact False.elim hF
  · have hF := hF.2 z3
    refine j_aload_n hJ dJ0_charAt_5068e_7 rfl 0 rfl ?_
    refine j_gsf hJ XtB0_s3 om_542 dJ0_charAt_5068e_8 ?_
    refine j_iload_n hJ dJ0_charAt_5068e_11 rfl 1 rfl ?_
    refine j_callSc hJ (c_J1_charAt_3b067_B0 (l := l) (D := D) (cy := cy) (ad := ad) hin) rfl om_1629 ⟨rfl, rfl, Nat.le_of_ble_eq_true rfl, Nat.le_of_ble_eq_true rfl⟩ [.ref (ad 904), .int (Ii p1)] mv_J0_495 hd_J1_charAt_3b067 rfl (Nat.le_of_ble_eq_true rfl) dJ0_charAt_5068e_12 ⟨p1, rfl, gp1, hF⟩ (fun r4 M5 gr4 qM5 => ?_)
    have hF := qM5 gr4
    exact j_iret hJ rfl gr4 dJ0_charAt_5068e_15 hF
def W_X9_isDigit_B (ad : Nat → Nat) (Q : Int → MM → Prop) (av : List Value) (M : MM) : Prop := ∃ (p1 : Int), av = [.int (Ii p1)] ∧ ri_ p1 ∧ w_X9_isDigit  Q p1 M
set_option maxHeartbeats 4000000 in
set_option maxRecDepth 100000 in
theorem c_X9_isDigit_B {l : Launch} {D : va_G} {cy : Nat → ClassId} {ad : Nat → Nat} {ksB : List (Nat × Nat)} {xs : Nat → Int} {L : Nat} (hin : jIn ad ksB.length) : jCN l D vwCl (tyB cy) cy ad ftB ksB (XtB ad xs L) yX9_isDigit (.code yX9_isDigit cX9_isDigit 1 (some .boolean) :: Om) ({ frames := 0, cells := 0, slots := 0, locals := 0 } : Room) 3 (W_X9_isDigit_B ad) := by
  refine jCN_of (y := yX9_isDigit) (cc := cX9_isDigit) (nL := 1) (rk := 3) (rm := ({ frames := 0, cells := 0, slots := 0, locals := 0 } : Room)) (own := RX9) (tyB_ok cy) hin (XtB_ok ad xs L) Om_good (by decide) rfl ?_
  intro Q av M hF
  obtain ⟨p1, rfl, gp1, hF⟩ := hF
  refine ⟨Nat.le_of_ble_eq_true rfl, fun J hJ => ?_⟩
  show J 0 [(0, .int (Ii p1))] [] M
  unfold w_X9_isDigit at hF
  refine j_iload_n hJ dX9_isDigit_0 rfl 0 rfl ?_
  refine j_bipush hJ dX9_isDigit_1 (by decide) ?_
  refine j_icmp_lt hJ 16 gp1 rk_48 dX9_isDigit_3 (by decide) (fun z1 => ?_) (fun z1 => ?_)
  · have hF := hF.1 z1
    refine j_iconst hJ dX9_isDigit_16 ?_
    exact j_zret hJ rfl (by decide) dX9_isDigit_17 hF
  · have hF := hF.2 z1
    refine j_iload_n hJ dX9_isDigit_6 rfl 0 rfl ?_
    refine j_bipush hJ dX9_isDigit_7 (by decide) ?_
    refine j_icmp_gt hJ 16 gp1 rk_57 dX9_isDigit_9 (by decide) (fun z2 => ?_) (fun z2 => ?_)
    · have hF := hF.1 z2
      refine j_iconst hJ dX9_isDigit_16 ?_
      exact j_zret hJ rfl (by decide) dX9_isDigit_17 hF
    · have hF := hF.2 z2
      refine j_iconst hJ dX9_isDigit_12 ?_
      refine j_goto hJ 17 dX9_isDigit_13 (by decide) ?_
      exact j_zret hJ rfl (by decide) dX9_isDigit_17 hF
def W_X9_symbolOf_B (ad : Nat → Nat) (Q : Int → MM → Prop) (av : List Value) (M : MM) : Prop := ∃ (p1 : Int), av = [.int (Ii p1)] ∧ ri_ p1 ∧ w_X9_symbolOf  Q p1 M
set_option maxHeartbeats 4000000 in
set_option maxRecDepth 100000 in
theorem k_X9_symbolOf_B_b39 {l : Launch} {D : va_G} {cy : Nat → ClassId} {ad : Nat → Nat} {ksB : List (Nat × Nat)} {xs : Nat → Int} {L : Nat} {Q : Int → MM → Prop} {J : Nat → List (Nat × Value) → List Value → MM → Prop} (hin : jIn ad ksB.length)   (hJ : jOk l D vwCl (tyB cy) cy ad ftB ksB (XtB ad xs L) Om RX9 cX9_symbolOf 1 1 ({ frames := 1, cells := 0, slots := 0, locals := 20 } : Room) Q J)  : ∀ (x0 : Int) (M : MM), ri_ x0 → w_X9_symbolOf_b39  Q  x0 M → J 39 [(0, .int (Ii x0))] [] M := by
  intro x0 M gx0 hF
  unfold w_X9_symbolOf_b39 at hF
  refine j_iload_n hJ dX9_symbolOf_39 rfl 0 rfl ?_
  refine j_callSz hJ (c_X9_isDigit_B (l := l) (D := D) (cy := cy) (ad := ad) hin) rfl om_528 ⟨rfl, rfl, Nat.le_of_ble_eq_true rfl, Nat.le_of_ble_eq_true rfl⟩ [.int (Ii x0)] mv_X9_65 hd_X9_isDigit rfl (Nat.le_of_ble_eq_true rfl) dX9_symbolOf_40 ⟨x0, rfl, gx0, hF⟩ (fun r1 M2 gr1 qM2 => ?_)
  have hF := qM2 gr1
  refine j_if_eq hJ 56 (jz_ri gr1) dX9_symbolOf_43 (by decide) (fun z3 => ?_) (fun z3 => ?_)
  · have hF := hF.1 z3
    refine j_iconst hJ dX9_symbolOf_56 ?_
    exact j_iret hJ rfl rk_0 dX9_symbolOf_57 hF
  · have hF := hF.2 z3
    refine j_iload_n hJ dX9_symbolOf_46 rfl 0 rfl ?_
    refine j_bipush hJ dX9_symbolOf_47 (by decide) ?_
    refine j_isub hJ dX9_symbolOf_49 ?_
    have g4 := hF.1; have hF := hF.2
    refine j_bipush hJ dX9_symbolOf_50 (by decide) ?_
    refine j_iadd hJ dX9_symbolOf_52 ?_
    have g5 := hF.1; have hF := hF.2
    refine j_goto hJ 57 dX9_symbolOf_53 (by decide) ?_
    exact j_iret hJ rfl g5 dX9_symbolOf_57 hF
set_option maxHeartbeats 4000000 in
set_option maxRecDepth 100000 in
theorem k_X9_symbolOf_B_b19 {l : Launch} {D : va_G} {cy : Nat → ClassId} {ad : Nat → Nat} {ksB : List (Nat × Nat)} {xs : Nat → Int} {L : Nat} {Q : Int → MM → Prop} {J : Nat → List (Nat × Value) → List Value → MM → Prop} (hin : jIn ad ksB.length)   (hJ : jOk l D vwCl (tyB cy) cy ad ftB ksB (XtB ad xs L) Om RX9 cX9_symbolOf 1 1 ({ frames := 1, cells := 0, slots := 0, locals := 20 } : Room) Q J)  : ∀ (x0 : Int) (M : MM), ri_ x0 → w_X9_symbolOf_b19  Q  x0 M → J 19 [(0, .int (Ii x0))] [] M := by
  intro x0 M gx0 hF
  unfold w_X9_symbolOf_b19 at hF
  refine j_iload_n hJ dX9_symbolOf_19 rfl 0 rfl ?_
  refine j_bipush hJ dX9_symbolOf_20 (by decide) ?_
  refine j_icmp_lt hJ 39 gx0 rk_97 dX9_symbolOf_22 (by decide) (fun z1 => ?_) (fun z1 => ?_)
  · have hF := hF.1 z1
    exact j_sub hJ [0] rfl (k_X9_symbolOf_B_b39 hin  hJ  x0 _ gx0 hF)
  · have hF := hF.2 z1
    refine j_iload_n hJ dX9_symbolOf_25 rfl 0 rfl ?_
    refine j_bipush hJ dX9_symbolOf_26 (by decide) ?_
    refine j_icmp_gt hJ 39 gx0 rk_122 dX9_symbolOf_28 (by decide) (fun z2 => ?_) (fun z2 => ?_)
    · have hF := hF.1 z2
      exact j_sub hJ [0] rfl (k_X9_symbolOf_B_b39 hin  hJ  x0 _ gx0 hF)
    · have hF := hF.2 z2
      refine j_iload_n hJ dX9_symbolOf_31 rfl 0 rfl ?_
      refine j_bipush hJ dX9_symbolOf_32 (by decide) ?_
      refine j_isub hJ dX9_symbolOf_34 ?_
      have g3 := hF.1; have hF := hF.2
      refine j_bipush hJ dX9_symbolOf_35 (by decide) ?_
      refine j_iadd hJ dX9_symbolOf_37 ?_
      have g4 := hF.1; have hF := hF.2
      exact j_iret hJ rfl g4 dX9_symbolOf_38 hF
set_option maxHeartbeats 4000000 in
set_option maxRecDepth 100000 in
theorem c_X9_symbolOf_B {l : Launch} {D : va_G} {cy : Nat → ClassId} {ad : Nat → Nat} {ksB : List (Nat × Nat)} {xs : Nat → Int} {L : Nat} (hin : jIn ad ksB.length) : jCN l D vwCl (tyB cy) cy ad ftB ksB (XtB ad xs L) yX9_symbolOf (.code yX9_symbolOf cX9_symbolOf 1 (some .int) :: Om) ({ frames := 1, cells := 0, slots := 0, locals := 20 } : Room) 1 (W_X9_symbolOf_B ad) := by
  refine jCN_of (y := yX9_symbolOf) (cc := cX9_symbolOf) (nL := 1) (rk := 1) (rm := ({ frames := 1, cells := 0, slots := 0, locals := 20 } : Room)) (own := RX9) (tyB_ok cy) hin (XtB_ok ad xs L) Om_good (by decide) rfl ?_
  intro Q av M hF
  obtain ⟨p1, rfl, gp1, hF⟩ := hF
  refine ⟨Nat.le_of_ble_eq_true rfl, fun J hJ => ?_⟩
  show J 0 [(0, .int (Ii p1))] [] M
  unfold w_X9_symbolOf at hF
  refine j_iload_n hJ dX9_symbolOf_0 rfl 0 rfl ?_
  refine j_bipush hJ dX9_symbolOf_1 (by decide) ?_
  refine j_icmp_lt hJ 19 gp1 rk_65 dX9_symbolOf_3 (by decide) (fun z1 => ?_) (fun z1 => ?_)
  · have hF := hF.1 z1
    exact j_sub hJ [0] rfl (k_X9_symbolOf_B_b19 hin  hJ  p1 _ gp1 hF)
  · have hF := hF.2 z1
    refine j_iload_n hJ dX9_symbolOf_6 rfl 0 rfl ?_
    refine j_bipush hJ dX9_symbolOf_7 (by decide) ?_
    refine j_icmp_gt hJ 19 gp1 rk_90 dX9_symbolOf_9 (by decide) (fun z2 => ?_) (fun z2 => ?_)
    · have hF := hF.1 z2
      exact j_sub hJ [0] rfl (k_X9_symbolOf_B_b19 hin  hJ  p1 _ gp1 hF)
    · have hF := hF.2 z2
      refine j_iload_n hJ dX9_symbolOf_12 rfl 0 rfl ?_
      refine j_bipush hJ dX9_symbolOf_13 (by decide) ?_
      refine j_isub hJ dX9_symbolOf_15 ?_
      have g3 := hF.1; have hF := hF.2
      refine j_iconst hJ dX9_symbolOf_16 ?_
      refine j_iadd hJ dX9_symbolOf_17 ?_
      have g4 := hF.1; have hF := hF.2
      exact j_iret hJ rfl g4 dX9_symbolOf_18 hF
def W_J7_fill_53178_B (ksB : List (Nat × Nat)) (ad : Nat → Nat) (Q : Int → MM → Prop) (av : List Value) (M : MM) : Prop := ∃ (p1 : Nat) (np1 : Nat) (p2 : Int), av = [.ref (ad p1), .int (Ii p2)] ∧ ksB[p1]? = some (0, np1) ∧ np1 < 2147483648 ∧ ri_ p2 ∧ w_J7_fill_53178_C p1 np1 Q p2 M
set_option maxHeartbeats 4000000 in
set_option maxRecDepth 100000 in
theorem k_J7_fill_53178_B_b5 {l : Launch} {D : va_G} {cy : Nat → ClassId} {ad : Nat → Nat} {ksB : List (Nat × Nat)} {xs : Nat → Int} {L : Nat} {Q : Int → MM → Prop} {J : Nat → List (Nat × Value) → List Value → MM → Prop} (hin : jIn ad ksB.length) {p1 np1 : Nat} (hp1 : ksB[p1]? = some (0, np1)) (lp1 : np1 < 2147483648) (hJ : jOk l D vwCl (tyB cy) cy ad ftB ksB (XtB ad xs L) Om RJ7 cJ7_fill_53178 4 0 ({ frames := 0, cells := 0, slots := 0, locals := 0 } : Room) Q J)  : ∀ (x1 x2 x3 : Int) (M : MM), ri_ x1 → ri_ x2 → ri_ x3 → w_J7_fill_53178_C_b5 p1 np1 Q  x1 x2 x3 M → J 5 [(0, .ref (ad p1)), (1, .int (Ii x1)), (2, .int (Ii x2)), (3, .int (Ii x3))] [] M := by
  have H9 : ∀ (n : Nat) (x1 x2 x3 : Int) (M : MM), ri_ x1 → ri_ x2 → ri_ x3 → jit (fun _ _ _ _ => False) (wb_J7_fill_53178_C_b5 p1 np1 Q ) n x1 x2 x3 M → J 5 [(0, .ref (ad p1)), (1, .int (Ii x1)), (2, .int (Ii x2)), (3, .int (Ii x3))] [] M := by
    intro n
    induction n with
    | zero => intro x1 x2 x3 M gx1 gx2 gx3 hF; exact False.elim hF
    | succ n ih =>
    intro x1 x2 x3 M gx1 gx2 gx3 hF
    have hF : wb_J7_fill_53178_C_b5 p1 np1 Q  (jit (fun _ _ _ _ => False) (wb_J7_fill_53178_C_b5 p1 np1 Q ) n) x1 x2 x3 M := hF
    unfold wb_J7_fill_53178_C_b5 at hF
    refine j_iload_n hJ dJ7_fill_53178_5 rfl 2 rfl ?_
    refine j_iload_n hJ dJ7_fill_53178_6 rfl 3 rfl ?_
    refine j_icmp_ge hJ 20 gx2 gx3 dJ7_fill_53178_7 (by decide) (fun z1 => ?_) (fun z1 => ?_)
    · have hF := hF.1 z1
      exact j_vret hJ rfl dJ7_fill_53178_20 hF
    · have hF := hF.2 z1
      refine j_aload_n hJ dJ7_fill_53178_10 rfl 0 rfl ?_
      refine j_iload_n hJ dJ7_fill_53178_11 rfl 2 rfl ?_
      refine j_iload_n hJ dJ7_fill_53178_12 rfl 1 rfl ?_
      refine j_iast hJ gx2 gx1 hp1 hF.1 hF.2.1 dJ7_fill_53178_13 (fun M2 eM2 => ?_)
      have hF := hF.2.2 M2 eM2
      refine j_iinc (lv' := [(2, .int (Ii (x2 + 1))), (0, .ref (ad p1)), (1, .int (Ii x1)), (3, .int (Ii x3))]) (k := 2) hJ dJ7_fill_53178_14 rfl (by decide) rfl ?_
      have g3 := hF.1; have hF := hF.2
      refine j_goto hJ 5 dJ7_fill_53178_17 (by decide) ?_
      exact j_sub hJ [1, 2, 0, 3] rfl (ih x1 (x2 + 1) x3 _ gx1 g3 gx3 hF)
  intro x1 x2 x3 M gx1 gx2 gx3 hF
  obtain ⟨n, hF⟩ := hF
  exact H9 n x1 x2 x3 M gx1 gx2 gx3 hF
set_option maxHeartbeats 4000000 in
set_option maxRecDepth 100000 in
theorem c_J7_fill_53178_B {l : Launch} {D : va_G} {cy : Nat → ClassId} {ad : Nat → Nat} {ksB : List (Nat × Nat)} {xs : Nat → Int} {L : Nat} (hin : jIn ad ksB.length) : jCN l D vwCl (tyB cy) cy ad ftB ksB (XtB ad xs L) yJ7_fill_53178 (.code yJ7_fill_53178 cJ7_fill_53178 4 none :: Om) ({ frames := 0, cells := 0, slots := 0, locals := 0 } : Room) 0 (W_J7_fill_53178_B ksB ad) := by
  refine jCN_of (y := yJ7_fill_53178) (cc := cJ7_fill_53178) (nL := 4) (rk := 0) (rm := ({ frames := 0, cells := 0, slots := 0, locals := 0 } : Room)) (own := RJ7) (tyB_ok cy) hin (XtB_ok ad xs L) Om_good (by decide) rfl ?_
  intro Q av M hF
  obtain ⟨p1, np1, p2, rfl, hp1, lp1, gp2, hF⟩ := hF
  refine ⟨Nat.le_of_ble_eq_true rfl, fun J hJ => ?_⟩
  show J 0 [(0, .ref (ad p1)), (1, .int (Ii p2))] [] M
  unfold w_J7_fill_53178_C at hF
  refine j_iconst hJ dJ7_fill_53178_0 ?_
  refine j_istore_n (lv' := [(2, .int (Ii 0)), (0, .ref (ad p1)), (1, .int (Ii p2))]) hJ dJ7_fill_53178_1 rfl (by decide) rfl ?_
  refine j_aload_n hJ dJ7_fill_53178_2 rfl 1 rfl ?_
  refine j_alen0 hJ hp1 dJ7_fill_53178_3 ?_
  refine j_istore_n (lv' := [(3, .int (Ii (np1 : Int))), (2, .int (Ii 0)), (0, .ref (ad p1)), (1, .int (Ii p2))]) hJ dJ7_fill_53178_4 rfl (by decide) rfl ?_
  exact j_sub hJ [2, 3, 1, 0] rfl (k_J7_fill_53178_B_b5 hin hp1 lp1 hJ  p2 0 (np1 : Int) _ gp2 rk_0 (by unfold ri_; omega) hF)
def W_J0_coder_7d493_B1 (ad : Nat → Nat) (Q : Int → MM → Prop) (av : List Value) (M : MM) : Prop := av = [.ref (ad 905)] ∧ w_J0_coder_7d493_B1  Q  M
set_option maxHeartbeats 4000000 in
set_option maxRecDepth 100000 in
theorem c_J0_coder_7d493_B1 {l : Launch} {D : va_G} {cy : Nat → ClassId} {ad : Nat → Nat} {ksB : List (Nat × Nat)} {xs : Nat → Int} {L : Nat} (hin : jIn ad ksB.length) : jCN l D vwCl (tyB cy) cy ad ftB ksB (XtB ad xs L) yJ0_coder_7d493 (.code yJ0_coder_7d493 cJ0_coder_7d493 1 (some .byte) :: Om) ({ frames := 0, cells := 0, slots := 0, locals := 0 } : Room) 4 (W_J0_coder_7d493_B1 ad) := by
  refine jCN_of (y := yJ0_coder_7d493) (cc := cJ0_coder_7d493) (nL := 1) (rk := 4) (rm := ({ frames := 0, cells := 0, slots := 0, locals := 0 } : Room)) (own := RJ0) (tyB_ok cy) hin (XtB_ok ad xs L) Om_good (by decide) rfl ?_
  intro Q av M hF
  obtain ⟨rfl, hF⟩ := hF
  refine ⟨Nat.le_of_ble_eq_true rfl, fun J hJ => ?_⟩
  show J 0 [(0, .ref (ad 905))] [] M
  unfold w_J0_coder_7d493_B1 at hF
  refine j_gs hJ XtB_cs om_535 dJ0_coder_7d493_0 ?_
  refine j_if_eq hJ 13 rk_1 dJ0_coder_7d493_3 (by decide) (fun z => absurd z (by decide)) (fun _ => ?_)
  refine j_aload_n hJ dJ0_coder_7d493_6 rfl 0 rfl ?_
  refine j_gsf hJ XtB1_s2 om_536 dJ0_coder_7d493_7 ?_
  refine j_goto hJ 14 dJ0_coder_7d493_10 (by decide) ?_
  exact j_bret hJ rfl (by omega) dJ0_coder_7d493_14 hF
def W_J0_length_8abf5_B1 (ad : Nat → Nat) (Q : Int → MM → Prop) (av : List Value) (M : MM) : Prop := av = [.ref (ad 905)] ∧ w_J0_length_8abf5_B1  Q  M
set_option maxHeartbeats 4000000 in
set_option maxRecDepth 100000 in
theorem c_J0_length_8abf5_B1 {l : Launch} {D : va_G} {cy : Nat → ClassId} {ad : Nat → Nat} {ksB : List (Nat × Nat)} {xs : Nat → Int} {L : Nat} (hin : jIn ad ksB.length) : jCN l D vwCl (tyB cy) cy ad ftB ksB (XtB ad xs L) yJ0_length_8abf5 (.code yJ0_length_8abf5 cJ0_length_8abf5 1 (some .int) :: Om) ({ frames := 1, cells := 0, slots := 0, locals := 20 } : Room) 1 (W_J0_length_8abf5_B1 ad) := by
  refine jCN_of (y := yJ0_length_8abf5) (cc := cJ0_length_8abf5) (nL := 1) (rk := 1) (rm := ({ frames := 1, cells := 0, slots := 0, locals := 20 } : Room)) (own := RJ0) (tyB_ok cy) hin (XtB_ok ad xs L) Om_good (by decide) rfl ?_
  intro Q av M hF
  obtain ⟨rfl, hF⟩ := hF
  refine ⟨Nat.le_of_ble_eq_true rfl, fun J hJ => ?_⟩
  show J 0 [(0, .ref (ad 905))] [] M
  unfold w_J0_length_8abf5_B1 at hF
  refine j_aload_n hJ dJ0_length_8abf5_0 rfl 0 rfl ?_
  refine j_gsf hJ XtB1_s3 om_542 dJ0_length_8abf5_1 ?_
  refine j_tlen hJ XtB1_s4 dJ0_length_8abf5_4 ?_
  refine j_aload_n hJ dJ0_length_8abf5_5 rfl 0 rfl ?_
  refine j_callTb hJ (c_J0_coder_7d493_B1 (l := l) (D := D) (cy := cy) (ad := ad) hin) rfl om_543 ⟨rfl, rfl, Nat.le_of_ble_eq_true rfl, Nat.le_of_ble_eq_true rfl⟩ [] mv_J0_335 hd_J0_coder_7d493v XtB1_s0 rfl (Nat.le_of_ble_eq_true rfl) dJ0_length_8abf5_6 ⟨rfl, hF⟩ (fun r1 M2 gr1 qM2 => ?_)
  have hF := qM2 gr1
  refine j_ishr hJ dJ0_length_8abf5_9 ?_
  exact j_iret hJ rfl (ri_of _) dJ0_length_8abf5_10 hF
def W_J0_isLatin1_aae02_B1 (ad : Nat → Nat) (Q : Int → MM → Prop) (av : List Value) (M : MM) : Prop := av = [.ref (ad 905)] ∧ w_J0_isLatin1_aae02_B1  Q  M
set_option maxHeartbeats 4000000 in
set_option maxRecDepth 100000 in
theorem c_J0_isLatin1_aae02_B1 {l : Launch} {D : va_G} {cy : Nat → ClassId} {ad : Nat → Nat} {ksB : List (Nat × Nat)} {xs : Nat → Int} {L : Nat} (hin : jIn ad ksB.length) : jCN l D vwCl (tyB cy) cy ad ftB ksB (XtB ad xs L) yJ0_isLatin1_aae02 (.code yJ0_isLatin1_aae02 cJ0_isLatin1_aae02 1 (some .boolean) :: Om) ({ frames := 0, cells := 0, slots := 0, locals := 0 } : Room) 3 (W_J0_isLatin1_aae02_B1 ad) := by
  refine jCN_of (y := yJ0_isLatin1_aae02) (cc := cJ0_isLatin1_aae02) (nL := 1) (rk := 3) (rm := ({ frames := 0, cells := 0, slots := 0, locals := 0 } : Room)) (own := RJ0) (tyB_ok cy) hin (XtB_ok ad xs L) Om_good (by decide) rfl ?_
  intro Q av M hF
  obtain ⟨rfl, hF⟩ := hF
  refine ⟨Nat.le_of_ble_eq_true rfl, fun J hJ => ?_⟩
  show J 0 [(0, .ref (ad 905))] [] M
  unfold w_J0_isLatin1_aae02_B1 at hF
  refine j_gs hJ XtB_cs om_535 dJ0_isLatin1_aae02_0 ?_
  refine j_if_eq hJ 17 rk_1 dJ0_isLatin1_aae02_3 (by decide) (fun z => absurd z (by decide)) (fun _ => ?_)
  refine j_aload_n hJ dJ0_isLatin1_aae02_6 rfl 0 rfl ?_
  refine j_gsf hJ XtB1_s2 om_536 dJ0_isLatin1_aae02_7 ?_
  refine j_if_ne hJ 17 rk_0 dJ0_isLatin1_aae02_10 (by decide) (fun z => absurd z (by decide)) (fun _ => ?_)
  refine j_iconst hJ dJ0_isLatin1_aae02_13 ?_
  refine j_goto hJ 18 dJ0_isLatin1_aae02_14 (by decide) ?_
  exact j_zret hJ rfl (by decide) dJ0_isLatin1_aae02_18 hF
def W_J1_charAt_3b067_B1 (ad : Nat → Nat) (Q : Int → MM → Prop) (av : List Value) (M : MM) : Prop := ∃ (p2 : Int), av = [.ref (ad 906), .int (Ii p2)] ∧ ri_ p2 ∧ w_J1_charAt_3b067_B1  Q p2 M
set_option maxHeartbeats 4000000 in
set_option maxRecDepth 100000 in
theorem c_J1_charAt_3b067_B1 {l : Launch} {D : va_G} {cy : Nat → ClassId} {ad : Nat → Nat} {ksB : List (Nat × Nat)} {xs : Nat → Int} {L : Nat} (hin : jIn ad ksB.length) : jCN l D vwCl (tyB cy) cy ad ftB ksB (XtB ad xs L) yJ1_charAt_3b067 (.code yJ1_charAt_3b067 cJ1_charAt_3b067 2 (some .char) :: Om) ({ frames := 3, cells := 0, slots := 0, locals := 81 } : Room) 1 (W_J1_charAt_3b067_B1 ad) := by
  refine jCN_ofC (y := yJ1_charAt_3b067) (cc := cJ1_charAt_3b067) (nL := 2) (rm := ({ frames := 3, cells := 0, slots := 0, locals := 81 } : Room)) (own := RJ1) (tyB_ok cy) hin (XtB_ok ad xs L) Om_good (by decide) rfl ?_
  intro Q av M hF
  obtain ⟨p2, rfl, gp2, hF⟩ := hF
  refine ⟨Nat.le_of_ble_eq_true rfl, fun J hJ => ?_⟩
  show J 0 [(0, .ref (ad 906)), (1, .int (Ii p2))] [] M
  unfold w_J1_charAt_3b067_B1 at hF
  refine j_iload_n hJ dJ1_charAt_3b067_0 rfl 1 rfl ?_
  refine j_aload_n hJ dJ1_charAt_3b067_1 rfl 0 rfl ?_
  refine j_tlen hJ XtB1_s4 dJ1_charAt_3b067_2 ?_
  refine j_callSv hJ (c_J0_checkIndex_df160_B (l := l) (D := D) (cy := cy) (ad := ad) hin) rfl om_1626 ⟨rfl, rfl, Nat.le_of_ble_eq_true rfl, Nat.le_of_ble_eq_true rfl⟩ [.int (Ii p2), .int (Ii ((2 : Nat) : Int))] mv_J1_9 hd_J0_checkIndex_df160 rfl (Nat.le_of_ble_eq_true rfl) dJ1_charAt_3b067_3 ⟨p2, ((2 : Nat) : Int), rfl, gp2, (by unfold ri_; omega), hF⟩ (fun M2 qM2 => ?_)
  have hF := qM2
  refine j_aload_n hJ dJ1_charAt_3b067_6 rfl 0 rfl ?_
  refine j_iload_n hJ dJ1_charAt_3b067_7 rfl 1 rfl ?_
  refine j_tb hJ XtB1_s4 gp2 hF.1 hF.2.1 dJ1_charAt_3b067_8 ?_
  have hF := hF.2.2
  refine j_sipush hJ dJ1_charAt_3b067_9 (by decide) ?_
  refine j_iand hJ dJ1_charAt_3b067_12 ?_
  refine j_i2c hJ dJ1_charAt_3b067_13 ?_
  exact j_iret hJ rfl (ri_of _) dJ1_charAt_3b067_14 hF
def W_J0_charAt_5068e_B1 (ad : Nat → Nat) (Q : Int → MM → Prop) (av : List Value) (M : MM) : Prop := ∃ (p1 : Int), av = [.ref (ad 905), .int (Ii p1)] ∧ ri_ p1 ∧ w_J0_charAt_5068e_B1  Q p1 M
set_option maxHeartbeats 4000000 in
set_option maxRecDepth 100000 in
theorem c_J0_charAt_5068e_B1 {l : Launch} {D : va_G} {cy : Nat → ClassId} {ad : Nat → Nat} {ksB : List (Nat × Nat)} {xs : Nat → Int} {L : Nat} (hin : jIn ad ksB.length) : jCN l D vwCl (tyB cy) cy ad ftB ksB (XtB ad xs L) yJ0_charAt_5068e (.code yJ0_charAt_5068e cJ0_charAt_5068e 2 (some .char) :: Om) ({ frames := 4, cells := 0, slots := 0, locals := 102 } : Room) 1 (W_J0_charAt_5068e_B1 ad) := by
  refine jCN_ofC (y := yJ0_charAt_5068e) (cc := cJ0_charAt_5068e) (nL := 2) (rm := ({ frames := 4, cells := 0, slots := 0, locals := 102 } : Room)) (own := RJ0) (tyB_ok cy) hin (XtB_ok ad xs L) Om_good (by decide) rfl ?_
  intro Q av M hF
  obtain ⟨p1, rfl, gp1, hF⟩ := hF
  refine ⟨Nat.le_of_ble_eq_true rfl, fun J hJ => ?_⟩
  show J 0 [(0, .ref (ad 905)), (1, .int (Ii p1))] [] M
  unfold w_J0_charAt_5068e_B1 at hF
  refine j_aload_n hJ dJ0_charAt_5068e_0 rfl 0 rfl ?_
  refine j_callTz hJ (c_J0_isLatin1_aae02_B1 (l := l) (D := D) (cy := cy) (ad := ad) hin) rfl om_537 ⟨rfl, rfl, Nat.le_of_ble_eq_true rfl, Nat.le_of_ble_eq_true rfl⟩ [] mv_J0_492 hd_J0_isLatin1_aae02v XtB1_s0 rfl (Nat.le_of_ble_eq_true rfl) dJ0_charAt_5068e_1 ⟨rfl, hF⟩ (fun r1 M2 gr1 qM2 => ?_)
  have hF := qM2 gr1
  refine j_if_eq hJ 16 (jz_ri gr1) dJ0_charAt_5068e_4 (by decide) (fun z3 => ?_) (fun z3 => ?_)
  · have hF := hF.1 z3
    refine j_aload_n hJ dJ0_charAt_5068e_16 rfl 0 rfl ?_
    refine j_gsf hJ XtB1_s3 om_542 dJ0_charAt_5068e_17 ?_
    refine j_iload_n hJ dJ0_charAt_5068e_20 rfl 1 rfl ?_
    exact False.elim hF
  · have hF := hF.2 z3
    refine j_aload_n hJ dJ0_charAt_5068e_7 rfl 0 rfl ?_
    refine j_gsf hJ XtB1_s3 om_542 dJ0_charAt_5068e_8 ?_
    refine j_iload_n hJ dJ0_charAt_5068e_11 rfl 1 rfl ?_
    refine j_callSc hJ (c_J1_charAt_3b067_B1 (l := l) (D := D) (cy := cy) (ad := ad) hin) rfl om_1629 ⟨rfl, rfl, Nat.le_of_ble_eq_true rfl, Nat.le_of_ble_eq_true rfl⟩ [.ref (ad 906), .int (Ii p1)] mv_J0_495 hd_J1_charAt_3b067 rfl (Nat.le_of_ble_eq_true rfl) dJ0_charAt_5068e_12 ⟨p1, rfl, gp1, hF⟩ (fun r4 M5 gr4 qM5 => ?_)
    have hF := qM5 gr4
    exact j_iret hJ rfl gr4 dJ0_charAt_5068e_15 hF
def W_X9_codeOf_B1 (ad : Nat → Nat) (Q : Int → MM → Prop) (av : List Value) (M : MM) : Prop := av = [.ref (ad 905)] ∧ w_X9_codeOf_B1  Q  M
set_option maxHeartbeats 4000000 in
set_option maxRecDepth 100000 in
theorem k_X9_codeOf_B1_b4 {l : Launch} {D : va_G} {cy : Nat → ClassId} {ad : Nat → Nat} {ksB : List (Nat × Nat)} {xs : Nat → Int} {L : Nat} {Q : Int → MM → Prop} {J : Nat → List (Nat × Value) → List Value → MM → Prop} (hin : jIn ad ksB.length)   (hJ : jOk l D vwCl (tyB cy) cy ad ftB ksB (XtB ad xs L) Om RX9 cX9_codeOf 4 2 ({ frames := 5, cells := 0, slots := 0, locals := 123 } : Room) Q J)  : ∀ (x1 x3 : Int) (M : MM), rl_ x1 → ri_ x3 → w_X9_codeOf_B1_b4  Q  x1 x3 M → J 4 [(0, .ref (ad 905)), (1, .long (Ll x1)), (3, .int (Ii x3))] [] M := by
  have H9 : ∀ (n : Nat) (x1 x3 : Int) (M : MM), rl_ x1 → ri_ x3 → jit (fun _ _ _ => False) (wb_X9_codeOf_B1_b4  Q ) n x1 x3 M → J 4 [(0, .ref (ad 905)), (1, .long (Ll x1)), (3, .int (Ii x3))] [] M := by
    intro n
    induction n with
    | zero => intro x1 x3 M gx1 gx3 hF; exact False.elim hF
    | succ n ih =>
    intro x1 x3 M gx1 gx3 hF
    have hF : wb_X9_codeOf_B1_b4  Q  (jit (fun _ _ _ => False) (wb_X9_codeOf_B1_b4  Q ) n) x1 x3 M := hF
    unfold wb_X9_codeOf_B1_b4 at hF
    refine j_iload_n hJ dX9_codeOf_4 rfl 2 rfl ?_
    refine j_aload_n hJ dX9_codeOf_5 rfl 0 rfl ?_
    refine j_callTi hJ (c_J0_length_8abf5_B1 (l := l) (D := D) (cy := cy) (ad := ad) hin) rfl om_547 ⟨rfl, rfl, Nat.le_of_ble_eq_true rfl, Nat.le_of_ble_eq_true rfl⟩ [] mv_X9_33 hd_J0_length_8abf5v XtB1_s0 rfl (Nat.le_of_ble_eq_true rfl) dX9_codeOf_6 ⟨rfl, hF⟩ (fun r1 M2 gr1 qM2 => ?_)
    have hF := qM2 gr1
    refine j_icmp_ge hJ 34 gx3 gr1 dX9_codeOf_9 (by decide) (fun z3 => ?_) (fun z3 => ?_)
    · have hF := hF.1 z3
      refine j_lload_n hJ dX9_codeOf_34 rfl 1 rfl ?_
      exact j_lret hJ rfl gx1 dX9_codeOf_35 hF
    · have hF := hF.2 z3
      refine j_lload_n hJ dX9_codeOf_12 rfl 1 rfl ?_
      refine j_ldc2 hJ 64 om_579 (by decide) dX9_codeOf_13 ?_
      refine j_lmulw hJ dX9_codeOf_16 ?_
      refine j_aload_n hJ dX9_codeOf_17 rfl 0 rfl ?_
      refine j_iload_n hJ dX9_codeOf_18 rfl 2 rfl ?_
      refine j_callTc hJ (c_J0_charAt_5068e_B1 (l := l) (D := D) (cy := cy) (ad := ad) hin) rfl om_1632 ⟨rfl, rfl, Nat.le_of_ble_eq_true rfl, Nat.le_of_ble_eq_true rfl⟩ [.int (Ii x3)] mv_X9_39 hd_J0_charAt_5068ev XtB1_s0 rfl (Nat.le_of_ble_eq_true rfl) dX9_codeOf_19 ⟨x3, rfl, gx3, hF⟩ (fun r4 M5 gr4 qM5 => ?_)
      have hF := qM5 gr4
      refine j_callSi hJ (c_X9_symbolOf_B (l := l) (D := D) (cy := cy) (ad := ad) hin) rfl om_532 ⟨rfl, rfl, Nat.le_of_ble_eq_true rfl, Nat.le_of_ble_eq_true rfl⟩ [.int (Ii r4)] mv_X9_45 hd_X9_symbolOf rfl (Nat.le_of_ble_eq_true rfl) dX9_codeOf_22 ⟨r4, rfl, gr4, hF⟩ (fun r6 M7 gr6 qM7 => ?_)
      have hF := qM7 gr6
      refine j_i2l hJ gr6 dX9_codeOf_25 ?_
      refine j_laddw hJ dX9_codeOf_26 ?_
      refine j_lstore_n (lv' := [(1, .long (Ll (w64 ((w64 (x1 * 64)) + r6)))), (0, .ref (ad 905)), (3, .int (Ii x3))]) hJ dX9_codeOf_27 rfl (by decide) rfl ?_
      refine j_iinc (lv' := [(3, .int (Ii (x3 + 1))), (1, .long (Ll (w64 ((w64 (x1 * 64)) + r6)))), (0, .ref (ad 905))]) (k := 2) hJ dX9_codeOf_28 rfl (by decide) rfl ?_
      have g8 := hF.1; have hF := hF.2
      refine j_goto hJ 4 dX9_codeOf_31 (by decide) ?_
      exact j_sub hJ [2, 1, 0] rfl (ih (w64 ((w64 (x1 * 64)) + r6)) (x3 + 1) _ (rl_w _) g8 hF)
  intro x1 x3 M gx1 gx3 hF
  obtain ⟨n, hF⟩ := hF
  exact H9 n x1 x3 M gx1 gx3 hF
set_option maxHeartbeats 4000000 in
set_option maxRecDepth 100000 in
theorem c_X9_codeOf_B1 {l : Launch} {D : va_G} {cy : Nat → ClassId} {ad : Nat → Nat} {ksB : List (Nat × Nat)} {xs : Nat → Int} {L : Nat} (hin : jIn ad ksB.length) : jCN l D vwCl (tyB cy) cy ad ftB ksB (XtB ad xs L) yX9_codeOf (.code yX9_codeOf cX9_codeOf 4 (some .long) :: Om) ({ frames := 5, cells := 0, slots := 0, locals := 123 } : Room) 2 (W_X9_codeOf_B1 ad) := by
  refine jCN_of (y := yX9_codeOf) (cc := cX9_codeOf) (nL := 4) (rk := 2) (rm := ({ frames := 5, cells := 0, slots := 0, locals := 123 } : Room)) (own := RX9) (tyB_ok cy) hin (XtB_ok ad xs L) Om_good (by decide) rfl ?_
  intro Q av M hF
  obtain ⟨rfl, hF⟩ := hF
  refine ⟨Nat.le_of_ble_eq_true rfl, fun J hJ => ?_⟩
  show J 0 [(0, .ref (ad 905))] [] M
  unfold w_X9_codeOf_B1 at hF
  refine j_lconst (x := 0) hJ dX9_codeOf_0 rfl ?_
  refine j_lstore_n (lv' := [(1, .long (Ll 0)), (0, .ref (ad 905))]) hJ dX9_codeOf_1 rfl (by decide) rfl ?_
  refine j_iconst hJ dX9_codeOf_2 ?_
  refine j_istore_n (lv' := [(3, .int (Ii 0)), (1, .long (Ll 0)), (0, .ref (ad 905))]) hJ dX9_codeOf_3 rfl (by decide) rfl ?_
  exact j_sub hJ [2, 1, 0] rfl (k_X9_codeOf_B1_b4 hin  hJ  0 0 _ lkm_0 rk_0 hF)
def W_J0_coder_7d493_B2 (ad : Nat → Nat) (Q : Int → MM → Prop) (av : List Value) (M : MM) : Prop := av = [.ref (ad 907)] ∧ w_J0_coder_7d493_B2  Q  M
set_option maxHeartbeats 4000000 in
set_option maxRecDepth 100000 in
theorem c_J0_coder_7d493_B2 {l : Launch} {D : va_G} {cy : Nat → ClassId} {ad : Nat → Nat} {ksB : List (Nat × Nat)} {xs : Nat → Int} {L : Nat} (hin : jIn ad ksB.length) : jCN l D vwCl (tyB cy) cy ad ftB ksB (XtB ad xs L) yJ0_coder_7d493 (.code yJ0_coder_7d493 cJ0_coder_7d493 1 (some .byte) :: Om) ({ frames := 0, cells := 0, slots := 0, locals := 0 } : Room) 4 (W_J0_coder_7d493_B2 ad) := by
  refine jCN_of (y := yJ0_coder_7d493) (cc := cJ0_coder_7d493) (nL := 1) (rk := 4) (rm := ({ frames := 0, cells := 0, slots := 0, locals := 0 } : Room)) (own := RJ0) (tyB_ok cy) hin (XtB_ok ad xs L) Om_good (by decide) rfl ?_
  intro Q av M hF
  obtain ⟨rfl, hF⟩ := hF
  refine ⟨Nat.le_of_ble_eq_true rfl, fun J hJ => ?_⟩
  show J 0 [(0, .ref (ad 907))] [] M
  unfold w_J0_coder_7d493_B2 at hF
  refine j_gs hJ XtB_cs om_535 dJ0_coder_7d493_0 ?_
  refine j_if_eq hJ 13 rk_1 dJ0_coder_7d493_3 (by decide) (fun z => absurd z (by decide)) (fun _ => ?_)
  refine j_aload_n hJ dJ0_coder_7d493_6 rfl 0 rfl ?_
  refine j_gsf hJ XtB2_s2 om_536 dJ0_coder_7d493_7 ?_
  refine j_goto hJ 14 dJ0_coder_7d493_10 (by decide) ?_
  exact j_bret hJ rfl (by omega) dJ0_coder_7d493_14 hF
def W_J0_length_8abf5_B2 (ad : Nat → Nat) (Q : Int → MM → Prop) (av : List Value) (M : MM) : Prop := av = [.ref (ad 907)] ∧ w_J0_length_8abf5_B2  Q  M
set_option maxHeartbeats 4000000 in
set_option maxRecDepth 100000 in
theorem c_J0_length_8abf5_B2 {l : Launch} {D : va_G} {cy : Nat → ClassId} {ad : Nat → Nat} {ksB : List (Nat × Nat)} {xs : Nat → Int} {L : Nat} (hin : jIn ad ksB.length) : jCN l D vwCl (tyB cy) cy ad ftB ksB (XtB ad xs L) yJ0_length_8abf5 (.code yJ0_length_8abf5 cJ0_length_8abf5 1 (some .int) :: Om) ({ frames := 1, cells := 0, slots := 0, locals := 20 } : Room) 1 (W_J0_length_8abf5_B2 ad) := by
  refine jCN_of (y := yJ0_length_8abf5) (cc := cJ0_length_8abf5) (nL := 1) (rk := 1) (rm := ({ frames := 1, cells := 0, slots := 0, locals := 20 } : Room)) (own := RJ0) (tyB_ok cy) hin (XtB_ok ad xs L) Om_good (by decide) rfl ?_
  intro Q av M hF
  obtain ⟨rfl, hF⟩ := hF
  refine ⟨Nat.le_of_ble_eq_true rfl, fun J hJ => ?_⟩
  show J 0 [(0, .ref (ad 907))] [] M
  unfold w_J0_length_8abf5_B2 at hF
  refine j_aload_n hJ dJ0_length_8abf5_0 rfl 0 rfl ?_
  refine j_gsf hJ XtB2_s3 om_542 dJ0_length_8abf5_1 ?_
  refine j_tlen hJ XtB2_s4 dJ0_length_8abf5_4 ?_
  refine j_aload_n hJ dJ0_length_8abf5_5 rfl 0 rfl ?_
  refine j_callTb hJ (c_J0_coder_7d493_B2 (l := l) (D := D) (cy := cy) (ad := ad) hin) rfl om_543 ⟨rfl, rfl, Nat.le_of_ble_eq_true rfl, Nat.le_of_ble_eq_true rfl⟩ [] mv_J0_335 hd_J0_coder_7d493v XtB2_s0 rfl (Nat.le_of_ble_eq_true rfl) dJ0_length_8abf5_6 ⟨rfl, hF⟩ (fun r1 M2 gr1 qM2 => ?_)
  have hF := qM2 gr1
  refine j_ishr hJ dJ0_length_8abf5_9 ?_
  exact j_iret hJ rfl (ri_of _) dJ0_length_8abf5_10 hF
def W_J0_isLatin1_aae02_B2 (ad : Nat → Nat) (Q : Int → MM → Prop) (av : List Value) (M : MM) : Prop := av = [.ref (ad 907)] ∧ w_J0_isLatin1_aae02_B2  Q  M
set_option maxHeartbeats 4000000 in
set_option maxRecDepth 100000 in
theorem c_J0_isLatin1_aae02_B2 {l : Launch} {D : va_G} {cy : Nat → ClassId} {ad : Nat → Nat} {ksB : List (Nat × Nat)} {xs : Nat → Int} {L : Nat} (hin : jIn ad ksB.length) : jCN l D vwCl (tyB cy) cy ad ftB ksB (XtB ad xs L) yJ0_isLatin1_aae02 (.code yJ0_isLatin1_aae02 cJ0_isLatin1_aae02 1 (some .boolean) :: Om) ({ frames := 0, cells := 0, slots := 0, locals := 0 } : Room) 3 (W_J0_isLatin1_aae02_B2 ad) := by
  refine jCN_of (y := yJ0_isLatin1_aae02) (cc := cJ0_isLatin1_aae02) (nL := 1) (rk := 3) (rm := ({ frames := 0, cells := 0, slots := 0, locals := 0 } : Room)) (own := RJ0) (tyB_ok cy) hin (XtB_ok ad xs L) Om_good (by decide) rfl ?_
  intro Q av M hF
  obtain ⟨rfl, hF⟩ := hF
  refine ⟨Nat.le_of_ble_eq_true rfl, fun J hJ => ?_⟩
  show J 0 [(0, .ref (ad 907))] [] M
  unfold w_J0_isLatin1_aae02_B2 at hF
  refine j_gs hJ XtB_cs om_535 dJ0_isLatin1_aae02_0 ?_
  refine j_if_eq hJ 17 rk_1 dJ0_isLatin1_aae02_3 (by decide) (fun z => absurd z (by decide)) (fun _ => ?_)
  refine j_aload_n hJ dJ0_isLatin1_aae02_6 rfl 0 rfl ?_
  refine j_gsf hJ XtB2_s2 om_536 dJ0_isLatin1_aae02_7 ?_
  refine j_if_ne hJ 17 rk_0 dJ0_isLatin1_aae02_10 (by decide) (fun z => absurd z (by decide)) (fun _ => ?_)
  refine j_iconst hJ dJ0_isLatin1_aae02_13 ?_
  refine j_goto hJ 18 dJ0_isLatin1_aae02_14 (by decide) ?_
  exact j_zret hJ rfl (by decide) dJ0_isLatin1_aae02_18 hF
def W_J1_charAt_3b067_B2 (ad : Nat → Nat) (Q : Int → MM → Prop) (av : List Value) (M : MM) : Prop := ∃ (p2 : Int), av = [.ref (ad 908), .int (Ii p2)] ∧ ri_ p2 ∧ w_J1_charAt_3b067_B2  Q p2 M
set_option maxHeartbeats 4000000 in
set_option maxRecDepth 100000 in
theorem c_J1_charAt_3b067_B2 {l : Launch} {D : va_G} {cy : Nat → ClassId} {ad : Nat → Nat} {ksB : List (Nat × Nat)} {xs : Nat → Int} {L : Nat} (hin : jIn ad ksB.length) : jCN l D vwCl (tyB cy) cy ad ftB ksB (XtB ad xs L) yJ1_charAt_3b067 (.code yJ1_charAt_3b067 cJ1_charAt_3b067 2 (some .char) :: Om) ({ frames := 3, cells := 0, slots := 0, locals := 81 } : Room) 1 (W_J1_charAt_3b067_B2 ad) := by
  refine jCN_ofC (y := yJ1_charAt_3b067) (cc := cJ1_charAt_3b067) (nL := 2) (rm := ({ frames := 3, cells := 0, slots := 0, locals := 81 } : Room)) (own := RJ1) (tyB_ok cy) hin (XtB_ok ad xs L) Om_good (by decide) rfl ?_
  intro Q av M hF
  obtain ⟨p2, rfl, gp2, hF⟩ := hF
  refine ⟨Nat.le_of_ble_eq_true rfl, fun J hJ => ?_⟩
  show J 0 [(0, .ref (ad 908)), (1, .int (Ii p2))] [] M
  unfold w_J1_charAt_3b067_B2 at hF
  refine j_iload_n hJ dJ1_charAt_3b067_0 rfl 1 rfl ?_
  refine j_aload_n hJ dJ1_charAt_3b067_1 rfl 0 rfl ?_
  refine j_tlen hJ XtB2_s4 dJ1_charAt_3b067_2 ?_
  refine j_callSv hJ (c_J0_checkIndex_df160_B (l := l) (D := D) (cy := cy) (ad := ad) hin) rfl om_1626 ⟨rfl, rfl, Nat.le_of_ble_eq_true rfl, Nat.le_of_ble_eq_true rfl⟩ [.int (Ii p2), .int (Ii ((4 : Nat) : Int))] mv_J1_9 hd_J0_checkIndex_df160 rfl (Nat.le_of_ble_eq_true rfl) dJ1_charAt_3b067_3 ⟨p2, ((4 : Nat) : Int), rfl, gp2, (by unfold ri_; omega), hF⟩ (fun M2 qM2 => ?_)
  have hF := qM2
  refine j_aload_n hJ dJ1_charAt_3b067_6 rfl 0 rfl ?_
  refine j_iload_n hJ dJ1_charAt_3b067_7 rfl 1 rfl ?_
  refine j_tb hJ XtB2_s4 gp2 hF.1 hF.2.1 dJ1_charAt_3b067_8 ?_
  have hF := hF.2.2
  refine j_sipush hJ dJ1_charAt_3b067_9 (by decide) ?_
  refine j_iand hJ dJ1_charAt_3b067_12 ?_
  refine j_i2c hJ dJ1_charAt_3b067_13 ?_
  exact j_iret hJ rfl (ri_of _) dJ1_charAt_3b067_14 hF
def W_J0_charAt_5068e_B2 (ad : Nat → Nat) (Q : Int → MM → Prop) (av : List Value) (M : MM) : Prop := ∃ (p1 : Int), av = [.ref (ad 907), .int (Ii p1)] ∧ ri_ p1 ∧ w_J0_charAt_5068e_B2  Q p1 M
set_option maxHeartbeats 4000000 in
set_option maxRecDepth 100000 in
theorem c_J0_charAt_5068e_B2 {l : Launch} {D : va_G} {cy : Nat → ClassId} {ad : Nat → Nat} {ksB : List (Nat × Nat)} {xs : Nat → Int} {L : Nat} (hin : jIn ad ksB.length) : jCN l D vwCl (tyB cy) cy ad ftB ksB (XtB ad xs L) yJ0_charAt_5068e (.code yJ0_charAt_5068e cJ0_charAt_5068e 2 (some .char) :: Om) ({ frames := 4, cells := 0, slots := 0, locals := 102 } : Room) 1 (W_J0_charAt_5068e_B2 ad) := by
  refine jCN_ofC (y := yJ0_charAt_5068e) (cc := cJ0_charAt_5068e) (nL := 2) (rm := ({ frames := 4, cells := 0, slots := 0, locals := 102 } : Room)) (own := RJ0) (tyB_ok cy) hin (XtB_ok ad xs L) Om_good (by decide) rfl ?_
  intro Q av M hF
  obtain ⟨p1, rfl, gp1, hF⟩ := hF
  refine ⟨Nat.le_of_ble_eq_true rfl, fun J hJ => ?_⟩
  show J 0 [(0, .ref (ad 907)), (1, .int (Ii p1))] [] M
  unfold w_J0_charAt_5068e_B2 at hF
  refine j_aload_n hJ dJ0_charAt_5068e_0 rfl 0 rfl ?_
  refine j_callTz hJ (c_J0_isLatin1_aae02_B2 (l := l) (D := D) (cy := cy) (ad := ad) hin) rfl om_537 ⟨rfl, rfl, Nat.le_of_ble_eq_true rfl, Nat.le_of_ble_eq_true rfl⟩ [] mv_J0_492 hd_J0_isLatin1_aae02v XtB2_s0 rfl (Nat.le_of_ble_eq_true rfl) dJ0_charAt_5068e_1 ⟨rfl, hF⟩ (fun r1 M2 gr1 qM2 => ?_)
  have hF := qM2 gr1
  refine j_if_eq hJ 16 (jz_ri gr1) dJ0_charAt_5068e_4 (by decide) (fun z3 => ?_) (fun z3 => ?_)
  · have hF := hF.1 z3
    refine j_aload_n hJ dJ0_charAt_5068e_16 rfl 0 rfl ?_
    refine j_gsf hJ XtB2_s3 om_542 dJ0_charAt_5068e_17 ?_
    refine j_iload_n hJ dJ0_charAt_5068e_20 rfl 1 rfl ?_
    exact False.elim hF
  · have hF := hF.2 z3
    refine j_aload_n hJ dJ0_charAt_5068e_7 rfl 0 rfl ?_
    refine j_gsf hJ XtB2_s3 om_542 dJ0_charAt_5068e_8 ?_
    refine j_iload_n hJ dJ0_charAt_5068e_11 rfl 1 rfl ?_
    refine j_callSc hJ (c_J1_charAt_3b067_B2 (l := l) (D := D) (cy := cy) (ad := ad) hin) rfl om_1629 ⟨rfl, rfl, Nat.le_of_ble_eq_true rfl, Nat.le_of_ble_eq_true rfl⟩ [.ref (ad 908), .int (Ii p1)] mv_J0_495 hd_J1_charAt_3b067 rfl (Nat.le_of_ble_eq_true rfl) dJ0_charAt_5068e_12 ⟨p1, rfl, gp1, hF⟩ (fun r4 M5 gr4 qM5 => ?_)
    have hF := qM5 gr4
    exact j_iret hJ rfl gr4 dJ0_charAt_5068e_15 hF
def W_X9_codeOf_B2 (ad : Nat → Nat) (Q : Int → MM → Prop) (av : List Value) (M : MM) : Prop := av = [.ref (ad 907)] ∧ w_X9_codeOf_B2  Q  M
set_option maxHeartbeats 4000000 in
set_option maxRecDepth 100000 in
theorem k_X9_codeOf_B2_b4 {l : Launch} {D : va_G} {cy : Nat → ClassId} {ad : Nat → Nat} {ksB : List (Nat × Nat)} {xs : Nat → Int} {L : Nat} {Q : Int → MM → Prop} {J : Nat → List (Nat × Value) → List Value → MM → Prop} (hin : jIn ad ksB.length)   (hJ : jOk l D vwCl (tyB cy) cy ad ftB ksB (XtB ad xs L) Om RX9 cX9_codeOf 4 2 ({ frames := 5, cells := 0, slots := 0, locals := 123 } : Room) Q J)  : ∀ (x1 x3 : Int) (M : MM), rl_ x1 → ri_ x3 → w_X9_codeOf_B2_b4  Q  x1 x3 M → J 4 [(0, .ref (ad 907)), (1, .long (Ll x1)), (3, .int (Ii x3))] [] M := by
  have H9 : ∀ (n : Nat) (x1 x3 : Int) (M : MM), rl_ x1 → ri_ x3 → jit (fun _ _ _ => False) (wb_X9_codeOf_B2_b4  Q ) n x1 x3 M → J 4 [(0, .ref (ad 907)), (1, .long (Ll x1)), (3, .int (Ii x3))] [] M := by
    intro n
    induction n with
    | zero => intro x1 x3 M gx1 gx3 hF; exact False.elim hF
    | succ n ih =>
    intro x1 x3 M gx1 gx3 hF
    have hF : wb_X9_codeOf_B2_b4  Q  (jit (fun _ _ _ => False) (wb_X9_codeOf_B2_b4  Q ) n) x1 x3 M := hF
    unfold wb_X9_codeOf_B2_b4 at hF
    refine j_iload_n hJ dX9_codeOf_4 rfl 2 rfl ?_
    refine j_aload_n hJ dX9_codeOf_5 rfl 0 rfl ?_
    refine j_callTi hJ (c_J0_length_8abf5_B2 (l := l) (D := D) (cy := cy) (ad := ad) hin) rfl om_547 ⟨rfl, rfl, Nat.le_of_ble_eq_true rfl, Nat.le_of_ble_eq_true rfl⟩ [] mv_X9_33 hd_J0_length_8abf5v XtB2_s0 rfl (Nat.le_of_ble_eq_true rfl) dX9_codeOf_6 ⟨rfl, hF⟩ (fun r1 M2 gr1 qM2 => ?_)
    have hF := qM2 gr1
    refine j_icmp_ge hJ 34 gx3 gr1 dX9_codeOf_9 (by decide) (fun z3 => ?_) (fun z3 => ?_)
    · have hF := hF.1 z3
      refine j_lload_n hJ dX9_codeOf_34 rfl 1 rfl ?_
      exact j_lret hJ rfl gx1 dX9_codeOf_35 hF
    · have hF := hF.2 z3
      refine j_lload_n hJ dX9_codeOf_12 rfl 1 rfl ?_
      refine j_ldc2 hJ 64 om_579 (by decide) dX9_codeOf_13 ?_
      refine j_lmulw hJ dX9_codeOf_16 ?_
      refine j_aload_n hJ dX9_codeOf_17 rfl 0 rfl ?_
      refine j_iload_n hJ dX9_codeOf_18 rfl 2 rfl ?_
      refine j_callTc hJ (c_J0_charAt_5068e_B2 (l := l) (D := D) (cy := cy) (ad := ad) hin) rfl om_1632 ⟨rfl, rfl, Nat.le_of_ble_eq_true rfl, Nat.le_of_ble_eq_true rfl⟩ [.int (Ii x3)] mv_X9_39 hd_J0_charAt_5068ev XtB2_s0 rfl (Nat.le_of_ble_eq_true rfl) dX9_codeOf_19 ⟨x3, rfl, gx3, hF⟩ (fun r4 M5 gr4 qM5 => ?_)
      have hF := qM5 gr4
      refine j_callSi hJ (c_X9_symbolOf_B (l := l) (D := D) (cy := cy) (ad := ad) hin) rfl om_532 ⟨rfl, rfl, Nat.le_of_ble_eq_true rfl, Nat.le_of_ble_eq_true rfl⟩ [.int (Ii r4)] mv_X9_45 hd_X9_symbolOf rfl (Nat.le_of_ble_eq_true rfl) dX9_codeOf_22 ⟨r4, rfl, gr4, hF⟩ (fun r6 M7 gr6 qM7 => ?_)
      have hF := qM7 gr6
      refine j_i2l hJ gr6 dX9_codeOf_25 ?_
      refine j_laddw hJ dX9_codeOf_26 ?_
      refine j_lstore_n (lv' := [(1, .long (Ll (w64 ((w64 (x1 * 64)) + r6)))), (0, .ref (ad 907)), (3, .int (Ii x3))]) hJ dX9_codeOf_27 rfl (by decide) rfl ?_
      refine j_iinc (lv' := [(3, .int (Ii (x3 + 1))), (1, .long (Ll (w64 ((w64 (x1 * 64)) + r6)))), (0, .ref (ad 907))]) (k := 2) hJ dX9_codeOf_28 rfl (by decide) rfl ?_
      have g8 := hF.1; have hF := hF.2
      refine j_goto hJ 4 dX9_codeOf_31 (by decide) ?_
      exact j_sub hJ [2, 1, 0] rfl (ih (w64 ((w64 (x1 * 64)) + r6)) (x3 + 1) _ (rl_w _) g8 hF)
  intro x1 x3 M gx1 gx3 hF
  obtain ⟨n, hF⟩ := hF
  exact H9 n x1 x3 M gx1 gx3 hF
set_option maxHeartbeats 4000000 in
set_option maxRecDepth 100000 in
theorem c_X9_codeOf_B2 {l : Launch} {D : va_G} {cy : Nat → ClassId} {ad : Nat → Nat} {ksB : List (Nat × Nat)} {xs : Nat → Int} {L : Nat} (hin : jIn ad ksB.length) : jCN l D vwCl (tyB cy) cy ad ftB ksB (XtB ad xs L) yX9_codeOf (.code yX9_codeOf cX9_codeOf 4 (some .long) :: Om) ({ frames := 5, cells := 0, slots := 0, locals := 123 } : Room) 2 (W_X9_codeOf_B2 ad) := by
  refine jCN_of (y := yX9_codeOf) (cc := cX9_codeOf) (nL := 4) (rk := 2) (rm := ({ frames := 5, cells := 0, slots := 0, locals := 123 } : Room)) (own := RX9) (tyB_ok cy) hin (XtB_ok ad xs L) Om_good (by decide) rfl ?_
  intro Q av M hF
  obtain ⟨rfl, hF⟩ := hF
  refine ⟨Nat.le_of_ble_eq_true rfl, fun J hJ => ?_⟩
  show J 0 [(0, .ref (ad 907))] [] M
  unfold w_X9_codeOf_B2 at hF
  refine j_lconst (x := 0) hJ dX9_codeOf_0 rfl ?_
  refine j_lstore_n (lv' := [(1, .long (Ll 0)), (0, .ref (ad 907))]) hJ dX9_codeOf_1 rfl (by decide) rfl ?_
  refine j_iconst hJ dX9_codeOf_2 ?_
  refine j_istore_n (lv' := [(3, .int (Ii 0)), (1, .long (Ll 0)), (0, .ref (ad 907))]) hJ dX9_codeOf_3 rfl (by decide) rfl ?_
  exact j_sub hJ [2, 1, 0] rfl (k_X9_codeOf_B2_b4 hin  hJ  0 0 _ lkm_0 rk_0 hF)
def W_X12_isDigit_B (ad : Nat → Nat) (Q : Int → MM → Prop) (av : List Value) (M : MM) : Prop := ∃ (p1 : Int), av = [.int (Ii p1)] ∧ ri_ p1 ∧ w_X12_isDigit  Q p1 M
set_option maxHeartbeats 4000000 in
set_option maxRecDepth 100000 in
theorem c_X12_isDigit_B {l : Launch} {D : va_G} {cy : Nat → ClassId} {ad : Nat → Nat} {ksB : List (Nat × Nat)} {xs : Nat → Int} {L : Nat} (hin : jIn ad ksB.length) : jCN l D vwCl (tyB cy) cy ad ftB ksB (XtB ad xs L) yX12_isDigit (.code yX12_isDigit cX12_isDigit 1 (some .boolean) :: Om) ({ frames := 0, cells := 0, slots := 0, locals := 0 } : Room) 3 (W_X12_isDigit_B ad) := by
  refine jCN_of (y := yX12_isDigit) (cc := cX12_isDigit) (nL := 1) (rk := 3) (rm := ({ frames := 0, cells := 0, slots := 0, locals := 0 } : Room)) (own := RX12) (tyB_ok cy) hin (XtB_ok ad xs L) Om_good (by decide) rfl ?_
  intro Q av M hF
  obtain ⟨p1, rfl, gp1, hF⟩ := hF
  refine ⟨Nat.le_of_ble_eq_true rfl, fun J hJ => ?_⟩
  show J 0 [(0, .int (Ii p1))] [] M
  unfold w_X12_isDigit at hF
  refine j_iload_n hJ dX12_isDigit_0 rfl 0 rfl ?_
  refine j_bipush hJ dX12_isDigit_1 (by decide) ?_
  refine j_icmp_lt hJ 16 gp1 rk_48 dX12_isDigit_3 (by decide) (fun z1 => ?_) (fun z1 => ?_)
  · have hF := hF.1 z1
    refine j_iconst hJ dX12_isDigit_16 ?_
    exact j_zret hJ rfl (by decide) dX12_isDigit_17 hF
  · have hF := hF.2 z1
    refine j_iload_n hJ dX12_isDigit_6 rfl 0 rfl ?_
    refine j_bipush hJ dX12_isDigit_7 (by decide) ?_
    refine j_icmp_gt hJ 16 gp1 rk_57 dX12_isDigit_9 (by decide) (fun z2 => ?_) (fun z2 => ?_)
    · have hF := hF.1 z2
      refine j_iconst hJ dX12_isDigit_16 ?_
      exact j_zret hJ rfl (by decide) dX12_isDigit_17 hF
    · have hF := hF.2 z2
      refine j_iconst hJ dX12_isDigit_12 ?_
      refine j_goto hJ 17 dX12_isDigit_13 (by decide) ?_
      exact j_zret hJ rfl (by decide) dX12_isDigit_17 hF
def W_X12_code_B (ad : Nat → Nat) (Q : Int → MM → Prop) (av : List Value) (M : MM) : Prop := ∃ (p1 : Int), av = [.int (Ii p1)] ∧ ri_ p1 ∧ w_X12_code  Q p1 M
set_option maxHeartbeats 4000000 in
set_option maxRecDepth 100000 in
theorem c_X12_code_B {l : Launch} {D : va_G} {cy : Nat → ClassId} {ad : Nat → Nat} {ksB : List (Nat × Nat)} {xs : Nat → Int} {L : Nat} (hin : jIn ad ksB.length) : jCN l D vwCl (tyB cy) cy ad ftB ksB (XtB ad xs L) yX12_code (.code yX12_code cX12_code 1 (some .int) :: Om) ({ frames := 1, cells := 0, slots := 0, locals := 20 } : Room) 1 (W_X12_code_B ad) := by
  refine jCN_of (y := yX12_code) (cc := cX12_code) (nL := 1) (rk := 1) (rm := ({ frames := 1, cells := 0, slots := 0, locals := 20 } : Room)) (own := RX12) (tyB_ok cy) hin (XtB_ok ad xs L) Om_good (by decide) rfl ?_
  intro Q av M hF
  obtain ⟨p1, rfl, gp1, hF⟩ := hF
  refine ⟨Nat.le_of_ble_eq_true rfl, fun J hJ => ?_⟩
  show J 0 [(0, .int (Ii p1))] [] M
  unfold w_X12_code at hF
  refine j_iload_n hJ dX12_code_0 rfl 0 rfl ?_
  refine j_callSz hJ (c_X12_isDigit_B (l := l) (D := D) (cy := cy) (ad := ad) hin) rfl om_1037 ⟨rfl, rfl, Nat.le_of_ble_eq_true rfl, Nat.le_of_ble_eq_true rfl⟩ [.int (Ii p1)] mv_X12_394 hd_X12_isDigit rfl (Nat.le_of_ble_eq_true rfl) dX12_code_1 ⟨p1, rfl, gp1, hF⟩ (fun r1 M2 gr1 qM2 => ?_)
  have hF := qM2 gr1
  refine j_if_eq hJ 16 (jz_ri gr1) dX12_code_4 (by decide) (fun z3 => ?_) (fun z3 => ?_)
  · have hF := hF.1 z3
    refine j_iload_n hJ dX12_code_16 rfl 0 rfl ?_
    refine j_bipush hJ dX12_code_17 (by decide) ?_
    refine j_icmp_gt hJ 32 gp1 rk_90 dX12_code_19 (by decide) (fun z4 => ?_) (fun z4 => ?_)
    · have hF := hF.1 z4
      refine j_iload_n hJ dX12_code_32 rfl 0 rfl ?_
      refine j_bipush hJ dX12_code_33 (by decide) ?_
      refine j_isub hJ dX12_code_35 ?_
      have g5 := hF.1; have hF := hF.2
      refine j_bipush hJ dX12_code_36 (by decide) ?_
      refine j_iadd hJ dX12_code_38 ?_
      have g6 := hF.1; have hF := hF.2
      exact j_iret hJ rfl g6 dX12_code_39 hF
    · have hF := hF.2 z4
      refine j_iload_n hJ dX12_code_22 rfl 0 rfl ?_
      refine j_bipush hJ dX12_code_23 (by decide) ?_
      refine j_isub hJ dX12_code_25 ?_
      have g7 := hF.1; have hF := hF.2
      refine j_bipush hJ dX12_code_26 (by decide) ?_
      refine j_iadd hJ dX12_code_28 ?_
      have g8 := hF.1; have hF := hF.2
      refine j_goto hJ 39 dX12_code_29 (by decide) ?_
      exact j_iret hJ rfl g8 dX12_code_39 hF
  · have hF := hF.2 z3
    refine j_iload_n hJ dX12_code_7 rfl 0 rfl ?_
    refine j_bipush hJ dX12_code_8 (by decide) ?_
    refine j_isub hJ dX12_code_10 ?_
    have g9 := hF.1; have hF := hF.2
    refine j_iconst hJ dX12_code_11 ?_
    refine j_iadd hJ dX12_code_12 ?_
    have g10 := hF.1; have hF := hF.2
    refine j_goto hJ 39 dX12_code_13 (by decide) ?_
    exact j_iret hJ rfl g10 dX12_code_39 hF
def W_X12_coded_B (ad : Nat → Nat) (Q : Int → MM → Prop) (av : List Value) (M : MM) : Prop := ∃ (p1 : Int), av = [.long (Ll p1)] ∧ rl_ p1 ∧ w_X12_coded  Q p1 M
set_option maxHeartbeats 4000000 in
set_option maxRecDepth 100000 in
theorem k_X12_coded_B_b46 {l : Launch} {D : va_G} {cy : Nat → ClassId} {ad : Nat → Nat} {ksB : List (Nat × Nat)} {xs : Nat → Int} {L : Nat} {Q : Int → MM → Prop} {J : Nat → List (Nat × Value) → List Value → MM → Prop} (hin : jIn ad ksB.length)   (hJ : jOk l D vwCl (tyB cy) cy ad ftB ksB (XtB ad xs L) Om RX12 cX12_coded 6 2 ({ frames := 2, cells := 0, slots := 0, locals := 40 } : Room) Q J) {K6 : Int → Int → Int → MM → Prop} (hK6 : ∀ (x0 x2 x4 : Int) (M : MM), rl_ x0 → rl_ x2 → ri_ x4 → K6 x0 x2 x4 M → J 6 [(0, .long (Ll x0)), (2, .long (Ll x2)), (4, .int (Ii x4))] [] M) : ∀ (x0 x4 s0 : Int) (M : MM), rl_ x0 → ri_ x4 → rl_ s0 → w_X12_coded_b46  Q K6 x0 x4 s0 M → J 46 [(0, .long (Ll x0)), (4, .int (Ii x4))] [.long (Ll s0)] M := by
  intro x0 x4 s0 M gx0 gx4 gs0 hF
  unfold w_X12_coded_b46 at hF
  refine j_lstore_n (lv' := [(2, .long (Ll s0)), (0, .long (Ll x0)), (4, .int (Ii x4))]) hJ dX12_coded_46 rfl (by decide) rfl ?_
  refine j_iinc (lv' := [(4, .int (Ii (x4 + (-1)))), (2, .long (Ll s0)), (0, .long (Ll x0))]) (k := 2) hJ dX12_coded_47 rfl (by decide) rfl ?_
  have g1 := hF.1; have hF := hF.2
  refine j_goto hJ 6 dX12_coded_50 (by decide) ?_
  exact j_sub hJ [2, 1, 0] rfl (hK6 x0 s0 (x4 + (-1)) _ gx0 gs0 g1 hF)
set_option maxHeartbeats 4000000 in
set_option maxRecDepth 100000 in
theorem k_X12_coded_B_b6 {l : Launch} {D : va_G} {cy : Nat → ClassId} {ad : Nat → Nat} {ksB : List (Nat × Nat)} {xs : Nat → Int} {L : Nat} {Q : Int → MM → Prop} {J : Nat → List (Nat × Value) → List Value → MM → Prop} (hin : jIn ad ksB.length)   (hJ : jOk l D vwCl (tyB cy) cy ad ftB ksB (XtB ad xs L) Om RX12 cX12_coded 6 2 ({ frames := 2, cells := 0, slots := 0, locals := 40 } : Room) Q J)  : ∀ (x0 x2 x4 : Int) (M : MM), rl_ x0 → rl_ x2 → ri_ x4 → w_X12_coded_b6  Q  x0 x2 x4 M → J 6 [(0, .long (Ll x0)), (2, .long (Ll x2)), (4, .int (Ii x4))] [] M := by
  have H9 : ∀ (n : Nat) (x0 x2 x4 : Int) (M : MM), rl_ x0 → rl_ x2 → ri_ x4 → jit (fun _ _ _ _ => False) (wb_X12_coded_b6  Q ) n x0 x2 x4 M → J 6 [(0, .long (Ll x0)), (2, .long (Ll x2)), (4, .int (Ii x4))] [] M := by
    intro n
    induction n with
    | zero => intro x0 x2 x4 M gx0 gx2 gx4 hF; exact False.elim hF
    | succ n ih =>
    intro x0 x2 x4 M gx0 gx2 gx4 hF
    have hF : wb_X12_coded_b6  Q  (jit (fun _ _ _ _ => False) (wb_X12_coded_b6  Q ) n) x0 x2 x4 M := hF
    unfold wb_X12_coded_b6 at hF
    refine j_iload hJ dX12_coded_6 2 rfl ?_
    refine j_if_lt hJ 53 gx4 dX12_coded_8 (by decide) (fun z1 => ?_) (fun z1 => ?_)
    · have hF := hF.1 z1
      refine j_lload_n hJ dX12_coded_53 rfl 1 rfl ?_
      exact j_lret hJ rfl gx2 dX12_coded_54 hF
    · have hF := hF.2 z1
      refine j_lload_n hJ dX12_coded_11 rfl 0 rfl ?_
      refine j_bipush hJ dX12_coded_12 (by decide) ?_
      refine j_iload hJ dX12_coded_14 2 rfl ?_
      refine j_imul hJ dX12_coded_16 ?_
      have g2 := hF.1; have hF := hF.2
      refine j_lshr hJ dX12_coded_17 ?_
      refine j_ldc2 hJ 255 om_1041 (by decide) dX12_coded_18 ?_
      refine j_land hJ dX12_coded_21 ?_
      refine j_l2i hJ dX12_coded_22 ?_
      have g3 := hF.1; have hF := hF.2
      refine j_istore (lv' := [(5, .int (Ii (jland (jlshr x0 (8 * x4)) 255))), (0, .long (Ll x0)), (2, .long (Ll x2)), (4, .int (Ii x4))]) hJ dX12_coded_23 (by decide) rfl ?_
      refine j_iload hJ dX12_coded_25 0 rfl ?_
      refine j_if_ne hJ 34 g3 dX12_coded_27 (by decide) (fun z4 => ?_) (fun z4 => ?_)
      · have hF := hF.1 z4
        refine j_ldc2 hJ 63 om_1042 (by decide) dX12_coded_34 ?_
        refine j_lload_n hJ dX12_coded_37 rfl 2 rfl ?_
        refine j_lmulw hJ dX12_coded_38 ?_
        refine j_iload hJ dX12_coded_39 0 rfl ?_
        refine j_callSi hJ (c_X12_code_B (l := l) (D := D) (cy := cy) (ad := ad) hin) rfl om_1043 ⟨rfl, rfl, Nat.le_of_ble_eq_true rfl, Nat.le_of_ble_eq_true rfl⟩ [.int (Ii (jland (jlshr x0 (8 * x4)) 255))] mv_X12_402 hd_X12_code rfl (Nat.le_of_ble_eq_true rfl) dX12_coded_41 ⟨(jland (jlshr x0 (8 * x4)) 255), rfl, g3, hF⟩ (fun r5 M6 gr5 qM6 => ?_)
        have hF := qM6 gr5
        refine j_i2l hJ gr5 dX12_coded_44 ?_
        refine j_laddw hJ dX12_coded_45 ?_
        exact j_sub hJ [1, 3] rfl (k_X12_coded_B_b46 hin  hJ ih x0 x4 (w64 ((w64 (63 * x2)) + r5)) _ gx0 gx4 (rl_w _) hF)
      · have hF := hF.2 z4
        refine j_lload_n hJ dX12_coded_30 rfl 2 rfl ?_
        refine j_goto hJ 46 dX12_coded_31 (by decide) ?_
        exact j_sub hJ [1, 3] rfl (k_X12_coded_B_b46 hin  hJ ih x0 x4 x2 _ gx0 gx4 gx2 hF)
  intro x0 x2 x4 M gx0 gx2 gx4 hF
  obtain ⟨n, hF⟩ := hF
  exact H9 n x0 x2 x4 M gx0 gx2 gx4 hF
set_option maxHeartbeats 4000000 in
set_option maxRecDepth 100000 in
theorem c_X12_coded_B {l : Launch} {D : va_G} {cy : Nat → ClassId} {ad : Nat → Nat} {ksB : List (Nat × Nat)} {xs : Nat → Int} {L : Nat} (hin : jIn ad ksB.length) : jCN l D vwCl (tyB cy) cy ad ftB ksB (XtB ad xs L) yX12_coded (.code yX12_coded cX12_coded 6 (some .long) :: Om) ({ frames := 2, cells := 0, slots := 0, locals := 40 } : Room) 2 (W_X12_coded_B ad) := by
  refine jCN_of (y := yX12_coded) (cc := cX12_coded) (nL := 6) (rk := 2) (rm := ({ frames := 2, cells := 0, slots := 0, locals := 40 } : Room)) (own := RX12) (tyB_ok cy) hin (XtB_ok ad xs L) Om_good (by decide) rfl ?_
  intro Q av M hF
  obtain ⟨p1, rfl, gp1, hF⟩ := hF
  refine ⟨Nat.le_of_ble_eq_true rfl, fun J hJ => ?_⟩
  show J 0 [(0, .long (Ll p1))] [] M
  unfold w_X12_coded at hF
  refine j_lconst (x := 0) hJ dX12_coded_0 rfl ?_
  refine j_lstore_n (lv' := [(2, .long (Ll 0)), (0, .long (Ll p1))]) hJ dX12_coded_1 rfl (by decide) rfl ?_
  refine j_bipush hJ dX12_coded_2 (by decide) ?_
  refine j_istore (lv' := [(4, .int (Ii 7)), (2, .long (Ll 0)), (0, .long (Ll p1))]) hJ dX12_coded_4 (by decide) rfl ?_
  exact j_sub hJ [2, 1, 0] rfl (k_X12_coded_B_b6 hin  hJ  p1 0 7 _ gp1 lkm_0 rk_7 hF)
