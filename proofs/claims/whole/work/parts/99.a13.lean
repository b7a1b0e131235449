/-! copy, on both sides -/
theorem p_dup106 {Q : Int → MM → Prop} {C R M A : MM} {L : List Int} (hY : Rty C R) (hH : Rhp C R) (hL : ∀ o ∈ L, hOk C o) (hw : WC C M L) (hB : RB M A) (r1 : C 26 1 + L.length ≤ 400) (r2 : C 26 3 + sL C L L.length ≤ 4000) (h : Q (C 26 1) (csA C L (C 26 1) 30 29 (crN C M L L.length) L.length)) : w_X2_duplicate_b106 Q L.length (C 26 1) 0 (crN C M L L.length) := by
  obtain ⟨i1, i2, i3, i4, i5, i6, i7, i8, i9, -⟩ := cr_I hY hH hL hw.1 hB r1 r2 L.length (Nat.le_refl _)
  have n0 := hH.2.1
  have hS1 : ∀ j : Nat, j < L.length → C 26 3 ≤ crN C M L L.length 29 (C 26 1 + j) := fun j hj => by
    rw [(i8 j hj).2.2]
    have := (sL_mono hY hH hL 0 j (by omega) (by omega)).1
    have z0 : sL C L 0 = 0 := rfl
    omega
  refine loop4 _ (fun (a b k : Int) M1 => (L.length : Int) = a ∧ C 26 1 = b ∧ 0 ≤ k ∧ k ≤ L.length ∧ csA C L (C 26 1) 30 29 (crN C M L L.length) k.toNat = M1) (fun _ _ (k : Int) _ => ((L.length : Int) - k).toNat) ?_ _ _ _ _ ⟨rfl, rfl, by omega, by omega, rfl⟩
  rintro _ _ k _ f ⟨rfl, rfl, k0, k1, rfl⟩ ih
  have kk : ((k.toNat : Nat) : Int) = k := by omega
  obtain ⟨f1, f2⟩ := csA_f C L (C 26 1) 30 29 (crN C M L L.length) (C 26 3) k.toNat (fun j hj => hS1 j (by omega))
  unfold wb_X2_duplicate_b106
  refine ⟨fun z => by rw [show k.toNat = L.length from by omega]; exact h, fun z => ⟨k0, by omega, fun v2 e2 _ => ?_⟩⟩
  have ho := hL _ (gD_mem (L := L) (k := k.toNat) (by omega))
  have e34 : csA C L (C 26 1) 30 29 (crN C M L L.length) k.toNat 34 k = L.getD k.toNat 0 := by
    rw [f1 34 (by decide), i4 34 (by decide)]
    have := hw.2.2.1 k.toNat (by omega)
    rw [kk] at this; exact this
  rw [e34] at e2
  rw [e2]
  obtain ⟨t1, t2, t3⟩ := i8 k.toNat (by omega)
  rw [kk] at t1 t2 t3
  obtain ⟨m1, m2⟩ := sL_mono hY hH hL (k.toNat + 1) L.length (by omega) (Nat.le_refl _)
  have es : sL C L (k.toNat + 1) = sL C L k.toNat + ln C (L.getD k.toNat 0) := rfl
  have hs := hS1 k.toNat (by omega)
  rw [kk] at hs
  obtain ⟨x1, x2, x3⟩ := i6 _ ho.2.1
  refine ⟨by unfold ri_; omega, p_copySlots (L := L) (b := crN C M L L.length 29 (C 26 1 + k)) hY hH ho (fun q hq => by rw [f1 q (by intro e; rw [e] at hq; revert hq; decide), i4 q (by intro e; simp at e hq; omega), hw.1 q (by intro e; rw [e] at hq; revert hq; decide) (by intro e; rw [e] at hq; revert hq; decide)]) (by rw [f1 27 (by decide), x1, hw.1 27 (by decide) (by decide)]) (by rw [f1 28 (by decide), x2, hw.1 28 (by decide) (by decide)]) (by rw [f1 29 (by decide), x3, hw.1 29 (by decide) (by decide)]) (by omega) (by omega) (by rw [f1 29 (by decide)]) hs (by rw [t3]; omega) (fun i hi => ⟨by rw [f2 i hi, (i7 i hi).1, hw.1 30 (by decide) (by decide)], by rw [f1 31 (by decide), (i7 i hi).2, hw.1 31 (by decide) (by decide)]⟩) (fun v v0 v1 => by rw [f1 35 (by decide), i4 35 (by decide)]; exact hw.2.2.2 v v0 v1) n0 (by omega) ⟨by unfold ri_; omega, ih _ _ _ _ ⟨rfl, rfl, by omega, by omega, ?_⟩ (by omega)⟩⟩
  rw [show (k + 1).toNat = k.toNat + 1 from by omega]
  show cs1 C L (C 26 1) (L.getD k.toNat 0) (crN C M L L.length 29 (C 26 1 + (k.toNat : Nat))) 30 _ _ = _
  rw [kk]
set_option maxHeartbeats 800000 in
theorem p_R_dup242 {Q : Int → MM → Prop} {C R M A : MM} {L : List Int} (hY : Rty C R) (hH : Rhp C R) (hL : ∀ o ∈ L, hOk C o) (hm : ∀ q, q ≠ 34 → q ≠ 35 → M q = C q) (hB : RB M A) (a47 : A 0 47 = L.length) (a36 : ∀ k : Nat, k < L.length → A 36 k = L.getD k 0) (a37 : ∀ o, 0 ≤ o → o < 400 → A 37 o = ix L o) (aR : ∀ q, q ∈ [19, 20, 21, 23] → A q = R q) (a27 : A 0 27 = R 0 27) (r1 : C 26 1 + L.length ≤ 400) (r2 : C 26 3 + sL C L L.length ≤ 4000) (h : Q (C 26 1) (csA C L (C 26 1) 23 21 (rdN C M A L L.length) L.length)) : w_X12_copy_b242 Q (C 26 1) 0 (rdN C M A L L.length) := by
  obtain ⟨i1, i2, i3, i4, i5, i6, i7, i8, i9, i10, i11, i12, i13, i14, i15⟩ := cr_I hY hH hL hm hB r1 r2 L.length (Nat.le_refl _)
  have n0 := hH.2.1
  have n4 := hH.2.2.1
  have hS2 : ∀ j : Nat, j < L.length → A 0 27 ≤ rdN C M A L L.length 21 (C 26 1 + j) := fun j hj => by
    rw [i15 j hj]
    have := (sL_mono hY hH hL 0 j (by omega) (by omega)).1
    have z0 : sL C L 0 = 0 := rfl
    omega
  have hu := i1.2.2.2.2.2.2.2.2.2.2.1
  have hu2 := i1.2.2.2.2.2.2.2.2.2.1
  rw [i10, i2] at hu
  rw [i10] at hu2
  have e8 : crN C M L L.length 8 = C 8 := by rw [i4 8 (by decide), hm 8 (by decide) (by decide)]
  refine loop3 _ (fun (b k : Int) M1 => C 26 1 = b ∧ 0 ≤ k ∧ k ≤ L.length ∧ csA C L (C 26 1) 23 21 (rdN C M A L L.length) k.toNat = M1) (fun _ (k : Int) _ => ((L.length : Int) - k).toNat) ?_ _ _ _ ⟨rfl, by omega, by omega, rfl⟩
  rintro _ k _ f ⟨rfl, k0, k1, rfl⟩ ih
  have kk : ((k.toNat : Nat) : Int) = k := by omega
  obtain ⟨f1, f2⟩ := csA_f C L (C 26 1) 23 21 (rdN C M A L L.length) (A 0 27) k.toNat (fun j hj => hS2 j (by omega))
  unfold wb_X12_copy_b242
  intro v1 e1 _
  rw [f1 0 (by decide), i12 47 (by decide), a47] at e1
  subst e1
  refine ⟨fun z => by rw [show k.toNat = L.length from by omega]; exact h, fun z => ⟨k0, by omega, fun v3 e3 _ => ?_⟩⟩
  have ho := hL _ (gD_mem (L := L) (k := k.toNat) (by omega))
  have e36 : csA C L (C 26 1) 23 21 (rdN C M A L L.length) k.toNat 36 k = L.getD k.toNat 0 := by
    rw [f1 36 (by decide), i11 36 (by decide)]
    have := a36 k.toNat (by omega)
    rw [kk] at this; exact this
  rw [e36] at e3
  rw [e3]
  obtain ⟨o, eo⟩ : ∃ o, o = L.getD k.toNat 0 := ⟨_, rfl⟩
  rw [← eo] at ho ⊢
  have hat := hp_at hY hH ho
  have ho0 := ho.1
  have t3 := i15 k.toNat (by omega)
  rw [kk] at t3
  obtain ⟨m1, m2⟩ := sL_mono hY hH hL (k.toNat + 1) L.length (by omega) (Nat.le_refl _)
  obtain ⟨z1, z2⟩ := sL_mono hY hH hL 0 k.toNat (by omega) (by omega)
  have z0 : sL C L 0 = 0 := rfl
  have es : sL C L (k.toNat + 1) = sL C L k.toNat + ln C o := by rw [eo]; rfl
  obtain ⟨x1, x2, x3⟩ := i13 o ho.2.1
  rw [aR 19 (by decide)] at x1
  rw [aR 20 (by decide)] at x2
  rw [aR 21 (by decide)] at x3
  obtain ⟨ty, hv, -, tl, -, -, -, tb1, tb2, tb⟩ := (hH.2.2.2.2.2.2.2.2.2.1 o ho.1 ho.2.1).2 ho.2.2
  refine loop5 _ (fun (a b c j : Int) M2 => C 26 1 = a ∧ k = b ∧ o = c ∧ 0 ≤ j ∧ j ≤ ln C o ∧ cs1 C L (C 26 1) o (rdN C M A L L.length 21 (C 26 1 + k)) 23 (csA C L (C 26 1) 23 21 (rdN C M A L L.length) k.toNat) j.toNat = M2) (fun _ _ _ j _ => (ln C o - j).toNat) ?_ _ _ _ _ _ ⟨rfl, rfl, rfl, by omega, hat.1, rfl⟩
  rintro _ _ _ j _ g ⟨rfl, rfl, rfl, j0, j1, rfl⟩ ih2
  obtain ⟨g1, g2⟩ := cs1_f C L (C 26 1) o (rdN C M A L L.length 21 (C 26 1 + k)) 23 (csA C L (C 26 1) 23 21 (rdN C M A L L.length) k.toNat) j.toNat
  have jj : ((j.toNat : Nat) : Int) = j := by omega
  have q : ∀ c, c ≠ 23 → cs1 C L (C 26 1) o (rdN C M A L L.length 21 (C 26 1 + k)) 23 (csA C L (C 26 1) 23 21 (rdN C M A L L.length) k.toNat) j.toNat c = rdN C M A L L.length c := fun c hc => by rw [g1 c hc, f1 c hc]
  have hY2 : Rty (crN C M L L.length) (cs1 C L (C 26 1) o (rdN C M A L L.length 21 (C 26 1 + k)) 23 (csA C L (C 26 1) 23 21 (rdN C M A L L.length) k.toNat) j.toNat) := Rty_R i1.1.2.2.2.2 (fun c a b _ => q c (by omega)) (by rw [q 0 (by decide)])
  have e16 : crN C M L L.length 16 = C 16 := by rw [i4 16 (by decide), hm 16 (by decide) (by decide)]
  have e24 : crN C M L L.length 24 = C 24 := by rw [i4 24 (by decide), hm 24 (by decide) (by decide)]
  unfold wb_X12_copy_b263
  refine ⟨ho0, by omega, fun v1 h1 _ => ⟨ho0, by omega, fun v2 h2 _ => ?_⟩⟩
  rw [q 19 (by decide), x1, ← ty] at h1
  rw [q 20 (by decide), x2, ← tl] at h2
  subst h1 h2
  refine p_R_so hY2 (by rw [e8]; exact hv) fun _ => ?_
  rw [so_eq e16, show so C (C 27 o) (C 28 o) = ln C o from rfl]
  refine ⟨fun z => ⟨by unfold ri_; omega, ih _ _ _ ⟨rfl, by omega, by omega, ?_⟩ (by omega)⟩, fun z => ⟨ho0, by omega, fun v7 h7 _ => ?_⟩⟩
  · rw [show (k + 1).toNat = k.toNat + 1 from by omega]
    show cs1 C L (C 26 1) (L.getD k.toNat 0) (rdN C M A L L.length 21 (C 26 1 + (k.toNat : Nat))) 23 _ _ = _
    rw [kk, ← eo, show j.toNat = lnN C o from by unfold lnN; omega]
  · rw [q 21 (by decide), x3] at h7
    subst h7
    refine ⟨by unfold ri_; omega, by omega, by omega, fun v9 h9 _ => ?_⟩
    rw [g2 _ (by omega), f2 _ (by omega), i14 _ (by omega), aR 23 (by decide), ← (tb j j0 (by omega)).1] at h9
    have put : ∀ s, s = cv C L (C 26 1) o j.toNat → w_X12_copy_b381 Q f g (C 26 1) k o j s (rdN C M A L L.length 21 (C 26 1 + k) + j) (cs1 C L (C 26 1) o (rdN C M A L L.length 21 (C 26 1 + k)) 23 (csA C L (C 26 1) 23 21 (rdN C M A L L.length) k.toNat) j.toNat) := by
      intro s hs
      unfold w_X12_copy_b381
      refine ⟨by omega, by omega, fun M3 h3 => ⟨by unfold ri_; omega, ih2 _ _ _ _ _ ⟨rfl, rfl, rfl, by omega, by omega, ?_⟩ (by omega)⟩⟩
      rw [show (j + 1).toNat = j.toNat + 1 from by omega, h3, hs]
      show ux_ _ 23 (_ + (j.toNat : Nat)) _ = _
      rw [jj]
    have plain : cv C L (C 26 1) o j.toNat = v9 → w_X12_copy_b339 Q f g (C 26 1) k o j v9 (cs1 C L (C 26 1) o (rdN C M A L L.length 21 (C 26 1 + k)) 23 (csA C L (C 26 1) 23 21 (rdN C M A L L.length) k.toNat) j.toNat) := by
      intro hs
      unfold w_X12_copy_b339 w_X12_copy_b340
      refine ⟨by unfold ri_; omega, by omega, by omega, fun v2 h2 _ => ?_⟩
      rw [q 21 (by decide)] at h2
      subst h2
      exact ⟨by unfold ri_; omega, fun _ => put v9 hs.symm, fun q => absurd rfl q⟩
    have cvd : cv C L (C 26 1) o j.toNat = if kA C (C 27 o) j = 5 ∧ v9 ≠ -1 ∧ v9 ∈ L then C 26 1 + ix L v9 else v9 := by unfold cv; rw [jj, ← h9]
    unfold w_X12_isLinkSlot
    refine ⟨ho0, by omega, fun v1 h1 _ => ?_⟩
    rw [q 19 (by decide), x1, ← ty] at h1
    subst h1
    refine p_R_kA hY2 (by rw [e8]; exact hv) j0 (fun y => by rw [e16]; exact ln_c (by omega) y) fun _ => ?_
    rw [kA_eq e24]
    refine ⟨fun zk _ => ⟨fun _ => plain (by rw [cvd, if_neg (fun y => zk y.1)]), fun y => absurd rfl y⟩, fun zk _ => ⟨fun y => by omega, fun _ => ⟨fun z4 => plain (by rw [cvd, if_neg (fun y => y.2.1 z4)]), fun z4 => ?_⟩⟩⟩
    have hv : hOk C v9 := by
      rcases (tb j j0 (by omega)).2.2 with ⟨-, y | y⟩ | ⟨y, -⟩
      · rw [← h9] at y; exact absurd y z4
      · rw [← h9] at y; exact y.1
      · exact absurd zk y
    have hv0 := hv.1
    have hv1 := hv.2.1
    refine ⟨by unfold ri_; omega, hv0, by omega, fun v15 h15 _ => ?_⟩
    rw [q 37 (by decide), i11 37 (by decide), a37 v9 hv0 (by omega)] at h15
    refine ⟨fun z15 => plain (by rw [cvd, if_neg (fun y => (ix_m.mp (h15.symm.trans z15)) y.2.2)]), fun z15 => ?_⟩
    have hin : v9 ∈ L := by
      by_cases y : v9 ∈ L
      · exact y
      · exact absurd (h15.trans (ix_out y)) z15
    unfold w_X12_copy_b340
    refine ⟨by unfold ri_; omega, by omega, by omega, fun v2 h2 _ => ?_⟩
    rw [q 21 (by decide)] at h2
    subst h2
    refine ⟨by unfold ri_; omega, fun y => by omega, fun _ => ⟨by unfold ri_; omega, hv0, by omega, fun v6 h6 _ => ?_⟩⟩
    rw [q 37 (by decide), i11 37 (by decide), a37 v9 hv0 (by omega)] at h6
    have l1 := (ix_lt (L := L) (o := v9)).1
    have l2 := (ix_lt (L := L) (o := v9)).2
    exact ⟨by unfold ri_; omega, put _ (by rw [cvd, if_pos ⟨zk, z4, hin⟩, h6])⟩
