/-! copy: the slots -/
def cv (C : MM) (L : List Int) (N o : Int) (j : Nat) : Int := if kA C (C 27 o) j = 5 ∧ C 30 (C 29 o + j) ≠ -1 ∧ C 30 (C 29 o + j) ∈ L then N + ix L (C 30 (C 29 o + j)) else C 30 (C 29 o + j)
def cs1 (C : MM) (L : List Int) (N o b : Int) (q : Nat) (M : MM) : Nat → MM
  | 0 => M
  | j + 1 => ux_ (cs1 C L N o b q M j) q (b + j) (cv C L N o j)
theorem cs1_f (C : MM) (L : List Int) (N o b : Int) (q : Nat) (M : MM) (j : Nat) : (∀ k, k ≠ q → cs1 C L N o b q M j k = M k) ∧ ∀ i, ¬ (b ≤ i ∧ i < b + j) → cs1 C L N o b q M j q i = M q i := by
  induction j with
  | zero => exact ⟨fun _ _ => rfl, fun _ _ => rfl⟩
  | succ j ih =>
    refine ⟨fun k hk => funext fun i => ?_, fun i hi => ?_⟩
    · show ux_ _ q _ _ k i = _
      rw [ux_c _ _ _ _ hk, ih.1 k hk]
    · show ux_ _ q _ _ q i = _
      rw [ux_i _ _ _ (by omega), ih.2 i (by omega)]
theorem cs_I {C M A : MM} {L : List Int} {N o t : Int} (hB : RB M A) (ht : hOk M t) (e27 : M 27 t = C 27 o) (eln : ln M t = ln C o) (e24 : M 24 = C 24) (e25 : M 25 = C 25) (hv : ∀ j : Nat, j < lnN C o → vK M (kA C (C 27 o) j) (lA C (C 27 o) j) (cv C L N o j)) (j : Nat) (hj : j ≤ lnN C o) : RB (cs1 C L N o (M 29 t) 30 M j) (cs1 C L N o (A 21 t) 23 A j) := by
  induction j with
  | zero => exact hB
  | succ j ih =>
    have ih' := ih (by omega)
    obtain ⟨f1, f2⟩ := cs1_f C L N o (M 29 t) 30 M j
    obtain ⟨g1, g2⟩ := cs1_f C L N o (A 21 t) 23 A j
    obtain ⟨F1, F2⟩ := cs1_f C L N o (M 29 t) 30 M (j + 1)
    obtain ⟨G1, G2⟩ := cs1_f C L N o (A 21 t) 23 A (j + 1)
    have hln := hp_at hB.1.2.2.2.2 hB.2.2 ht
    have jl : (j : Int) < ln C o := by unfold lnN at hj; omega
    have ok : hOk (cs1 C L N o (M 29 t) 30 M j) = hOk M := hOk_eq (by rw [f1 26 (by decide)]) (f1 27 (by decide))
    have lq : ln (cs1 C L N o (M 29 t) 30 M j) = ln M := ln_eq (f1 16 (by decide)) (f1 27 (by decide)) (f1 28 (by decide))
    have vq : vK (cs1 C L N o (M 29 t) 30 M j) = vK M := vK_eq (f1 11 (by decide)) (by rw [f1 26 (by decide)]) (f1 27 (by decide))
    have hH := hp_set (C' := cs1 C L N o (M 29 t) 30 M (j + 1)) (R' := cs1 C L N o (A 21 t) 23 A (j + 1)) (o := t) (s := j) (v := cv C L N o j) ih'.1.2.2.2.2 ih'.2.2 (by rw [ok]; exact ht) (by omega) (by rw [lq, eln]; exact jl) (by
        rw [vq, kA_fe (f1 24 (by decide)), lA_fe (f1 25 (by decide)), f1 27 (by decide), kA_fe e24, lA_fe e25, e27]
        exact hv j (by omega)) (fun k hk => by rw [F1 k (by intro q; rw [q] at hk; revert hk; decide), f1 k (by intro q; rw [q] at hk; revert hk; decide)]) (by rw [F1 8 (by decide), f1 8 (by decide)]) (fun i _ => by rw [F1 26 (by decide), f1 26 (by decide)]) (fun i => by
        rw [f1 29 (by decide)]
        show ux_ _ 30 _ _ 30 i = _
        by_cases z : i = M 29 t + j
        · rw [if_pos z, z, ux_s]
        · rw [if_neg z, ux_i _ _ _ z]) (fun k hk => by rw [G1 k (by intro q; rw [q] at hk; revert hk; decide), g1 k (by intro q; rw [q] at hk; revert hk; decide)]) (fun i _ => by rw [G1 0 (by decide), g1 0 (by decide)]) (fun i => by
        rw [g1 21 (by decide)]
        show ux_ _ 23 _ _ 23 i = _
        by_cases z : i = A 21 t + j
        · rw [if_pos z, z, ux_s]
        · rw [if_neg z, ux_i _ _ _ z])
    exact RB_of hB hH (fun k a b => F1 k (by omega)) (fun k a b _ => G1 k (by omega)) (fun i _ => by rw [G1 0 (by decide)])
def csA (C : MM) (L : List Int) (N : Int) (q p : Nat) (M : MM) : Nat → MM
  | 0 => M
  | k + 1 => cs1 C L N (L.getD k 0) (M p (N + k)) q (csA C L N q p M k) (lnN C (L.getD k 0))
theorem csA_f (C : MM) (L : List Int) (N : Int) (q p : Nat) (M : MM) (S : Int) (k : Nat) (hS : ∀ j : Nat, j < k → S ≤ M p (N + j)) : (∀ c, c ≠ q → csA C L N q p M k c = M c) ∧ ∀ i, i < S → csA C L N q p M k q i = M q i := by
  induction k with
  | zero => exact ⟨fun _ _ => rfl, fun _ _ => rfl⟩
  | succ k ih =>
    obtain ⟨i1, i2⟩ := ih fun j hj => hS j (by omega)
    obtain ⟨f1, f2⟩ := cs1_f C L N (L.getD k 0) (M p (N + k)) q (csA C L N q p M k) (lnN C (L.getD k 0))
    have := hS k (by omega)
    refine ⟨fun c hc => ?_, fun i hi => ?_⟩
    · show cs1 _ _ _ _ _ _ _ _ c = _
      rw [f1 c hc, i1 c hc]
    · show cs1 _ _ _ _ _ _ _ _ q i = _
      rw [f2 i (by omega), i2 i hi]
/-- the relation after the slots of the first k copies -/
theorem cA_I {C R M A : MM} {L : List Int} (hY : Rty C R) (hH : Rhp C R) (hL : ∀ o ∈ L, hOk C o) (hm : ∀ q, q ≠ 34 → q ≠ 35 → M q = C q) (hB : RB M A) (r1 : C 26 1 + L.length ≤ 400) (r2 : C 26 3 + sL C L L.length ≤ 4000) (k : Nat) (hk : k ≤ L.length) : RB (csA C L (C 26 1) 30 29 (crN C M L L.length) k) (csA C L (C 26 1) 23 21 (rdN C M A L L.length) k) := by
  obtain ⟨i1, i2, i3, i4, i5, i6, i7, i8, i9, i10, i11, i12, i13, i14, i15⟩ := cr_I hY hH hL hm hB r1 r2 L.length (Nat.le_refl _)
  have n0 := hH.2.1
  have hS1 : ∀ j : Nat, j < L.length → C 26 3 ≤ crN C M L L.length 29 (C 26 1 + j) := fun j hj => by
    rw [(i8 j hj).2.2]
    have := (sL_mono hY hH hL 0 j (by omega) (by omega)).1
    have z0 : sL C L 0 = 0 := rfl
    omega
  have hS2 : ∀ j : Nat, j < L.length → A 0 27 ≤ rdN C M A L L.length 21 (C 26 1 + j) := fun j hj => by
    rw [i15 j hj]
    have := (sL_mono hY hH hL 0 j (by omega) (by omega)).1
    have z0 : sL C L 0 = 0 := rfl
    omega
  have hle : hpLe C (crN C M L L.length) := by
    refine ⟨⟨by rw [i4 8 (by decide), hm 8 (by decide) (by decide)]; omega, fun c c0 c1 => ⟨by rw [i4 9 (by decide), hm 9 (by decide) (by decide)], by rw [i4 11 (by decide), hm 11 (by decide) (by decide)], fun u => ⟨i9 c c0 c1 u, by rw [i4 16 (by decide), hm 16 (by decide) (by decide)], by rw [i4 17 (by decide), hm 17 (by decide) (by decide)], fun k j hk _ _ => by rw [i4 k (by simp; omega), hm k (by omega) (by omega)]⟩, fun k k0 k1 => ⟨by rw [i4 14 (by decide), hm 14 (by decide) (by decide)]; exact k1, fun q q0 q1 => by rw [i4 q (by simp; omega), hm q (by omega) (by omega)]⟩⟩⟩, fun o ho => ?_⟩
    obtain ⟨x1, x2, x3⟩ := i6 o ho.2.1
    rw [hm 27 (by decide) (by decide)] at x1
    rw [hm 28 (by decide) (by decide)] at x2
    rw [hm 29 (by decide) (by decide)] at x3
    exact ⟨⟨ho.1, by rw [i2]; have := ho.2.1; omega, by rw [x1]; exact ho.2.2⟩, x1, x2, x3⟩
  induction k with
  | zero => exact i1
  | succ k ih =>
    have ih' := ih (by omega)
    obtain ⟨f1, f2⟩ := csA_f C L (C 26 1) 30 29 (crN C M L L.length) (C 26 3) k (fun j hj => hS1 j (by omega))
    obtain ⟨g1, g2⟩ := csA_f C L (C 26 1) 23 21 (rdN C M A L L.length) (A 0 27) k (fun j hj => hS2 j (by omega))
    have ho := hL _ (gD_mem (L := L) (k := k) (by omega))
    have hat := hp_at hY hH ho
    obtain ⟨t1, t2, t3⟩ := i8 k (by omega)
    have e16 : crN C M L L.length 16 = C 16 := by rw [i4 16 (by decide), hm 16 (by decide) (by decide)]
    have e24 : crN C M L L.length 24 = C 24 := by rw [i4 24 (by decide), hm 24 (by decide) (by decide)]
    have e25 : crN C M L L.length 25 = C 25 := by rw [i4 25 (by decide), hm 25 (by decide) (by decide)]
    have e11 : crN C M L L.length 11 = C 11 := by rw [i4 11 (by decide), hm 11 (by decide) (by decide)]
    have tok : hOk (crN C M L L.length) (C 26 1 + k) := ⟨by omega, by rw [i2]; omega, by rw [t1]; exact ho.2.2⟩
    have ok : hOk (csA C L (C 26 1) 30 29 (crN C M L L.length) k) = hOk (crN C M L L.length) := hOk_eq (by rw [f1 26 (by decide)]) (f1 27 (by decide))
    have lq : ln (csA C L (C 26 1) 30 29 (crN C M L L.length) k) = ln (crN C M L L.length) := ln_eq (f1 16 (by decide)) (f1 27 (by decide)) (f1 28 (by decide))
    have vq : vK (csA C L (C 26 1) 30 29 (crN C M L L.length) k) = vK (crN C M L L.length) := vK_eq (f1 11 (by decide)) (by rw [f1 26 (by decide)]) (f1 27 (by decide))
    have tln : ln (crN C M L L.length) (C 26 1 + k) = ln C (L.getD k 0) := by
      unfold ln
      rw [t1, t2, so_eq e16]
    have := cs_I (C := C) (L := L) (N := C 26 1) (o := L.getD k 0) (t := C 26 1 + k) ih' (by rw [ok]; exact tok) (by rw [f1 27 (by decide)]; exact t1) (by rw [lq]; exact tln) (by rw [f1 24 (by decide)]; exact e24) (by rw [f1 25 (by decide)]; exact e25) (fun j hj => by
      rw [vq]
      have hjl : (j : Int) < ln C (L.getD k 0) := by unfold lnN at hj; omega
      obtain ⟨-, -, b3⟩ := ((hH.2.2.2.2.2.2.2.2.2.1 _ ho.1 ho.2.1).2 ho.2.2).2.2.2.2.2.2.2.2.2 j (by omega) hjl
      unfold cv
      by_cases z : kA C (C 27 (L.getD k 0)) j = 5 ∧ C 30 (C 29 (L.getD k 0) + j) ≠ -1 ∧ C 30 (C 29 (L.getD k 0) + j) ∈ L
      · rw [if_pos z]
        obtain ⟨y1, y2, y3⟩ := z
        rcases b3 with ⟨-, b4 | ⟨b4, b5⟩⟩ | ⟨b4, -⟩
        · exact absurd b4 y2
        · refine Or.inl ⟨y1, Or.inr ?_⟩
          have hx := gD_ix y3
          have l1 := (ix_lt (L := L) (o := C 30 (C 29 (L.getD k 0) + j))).1
          have l2 := (ix_lt (L := L) (o := C 30 (C 29 (L.getD k 0) + j))).2
          have l3 : ix L (C 30 (C 29 (L.getD k 0) + j)) ≠ -1 := fun q => (ix_m.mp q) y3
          have eN : (((ix L (C 30 (C 29 (L.getD k 0) + j))).toNat : Nat) : Int) = ix L (C 30 (C 29 (L.getD k 0) + j)) := by omega
          have t9 := (i8 (ix L (C 30 (C 29 (L.getD k 0) + j))).toNat (by omega)).1
          rw [eN, hx] at t9
          refine ⟨⟨by omega, by rw [i2]; omega, by rw [t9]; exact b4.2.2⟩, ?_⟩
          rw [t9, ft_eq e11]; exact b5
        · exact absurd y1 b4
      · rw [if_neg z]
        exact vK_mono (le_mono hY hH hle) b3) (lnN C (L.getD k 0)) (Nat.le_refl _)
    rw [f1 29 (by decide), g1 21 (by decide)] at this
    exact this
theorem p_copySlots {Q : Int → MM → Prop} {C R M1 : MM} {L : List Int} {o t b : Int} (hY : Rty C R) (hH : Rhp C R) (ho : hOk C o) (e : ∀ q, q ∈ [8, 16] → M1 q = C q) (e27 : M1 27 o = C 27 o) (e28 : M1 28 o = C 28 o) (e29 : M1 29 o = C 29 o) (t0 : 0 ≤ t) (t1 : t < 400) (eb : M1 29 t = b) (b0 : C 26 3 ≤ b) (b1 : b + ln C o ≤ 4000) (e30 : ∀ i, i < C 26 3 → M1 30 i = C 30 i ∧ M1 31 i = C 31 i) (e35 : ∀ v, 0 ≤ v → v < C 26 1 → M1 35 v = ix L v) (N0 : 0 ≤ C 26 1) (hl : (L.length : Int) ≤ 400) (hq : Q 0 (cs1 C L (C 26 1) o b 30 M1 (lnN C o))) : w_X2_copySlots Q o t (C 26 1) M1 := by
  have hat := hp_at hY hH ho
  have ho0 := ho.1
  have n4 := hH.2.2.1
  have h16 := hY.2.2.1
  unfold w_X2_copySlots w_X2_slotsOf
  refine ⟨ho0, by omega, fun v1 f1 _ => ⟨ho0, by omega, fun v2 f2 _ => ?_⟩⟩
  rw [e27] at f1
  rw [e28] at f2
  subst f1 f2
  refine p_so (by rw [e 8 (by decide)]; exact h16) (by rw [e 8 (by decide)]; exact (ob_ty hH ho).1) fun _ _ => ?_
  rw [so_eq (e 16 (by decide)), show so C (C 27 o) (C 28 o) = ln C o from rfl]
  refine loop6 _ (fun x y z u j M2 => o = x ∧ t = y ∧ C 26 1 = z ∧ ln C o = u ∧ 0 ≤ j ∧ j ≤ ln C o ∧ cs1 C L (C 26 1) o b 30 M1 j.toNat = M2) (fun _ _ _ _ j _ => (ln C o - j).toNat) ?_ _ _ _ _ _ _ ⟨rfl, rfl, rfl, rfl, by omega, hat.1, rfl⟩
  rintro _ _ _ _ j _ f ⟨rfl, rfl, rfl, rfl, j0, j1, rfl⟩ ih
  obtain ⟨g1, g2⟩ := cs1_f C L (C 26 1) o b 30 M1 j.toNat
  have jj : ((j.toNat : Nat) : Int) = j := by omega
  unfold wb_X2_copySlots_b10
  refine ⟨fun z => by rw [show j.toNat = lnN C o from by unfold lnN; omega]; exact hq, fun z => ⟨ho0, by omega, fun v2 f2 _ => ?_⟩⟩
  rw [g1 29 (by decide), e29] at f2
  subst f2
  refine ⟨by unfold ri_; omega, by omega, by omega, fun v4 f4 _ => ⟨ho0, by omega, fun v5 f5 _ => ?_⟩⟩
  rw [g2 _ (by omega), (e30 _ (by omega)).1] at f4
  rw [g1 29 (by decide), e29] at f5
  subst f5
  refine ⟨by unfold ri_; omega, by omega, by omega, fun v7 f7 _ => ?_⟩
  obtain ⟨-, c2, c3⟩ := ((hH.2.2.2.2.2.2.2.2.2.1 o ho.1 ho.2.1).2 ho.2.2).2.2.2.2.2.2.2.2.2 j j0 (by omega)
  rw [g1 31 (by decide), (e30 _ (by omega)).2, c2] at f7
  have put : ∀ s, s = cv C L (C 26 1) o j.toNat → w_X2_copySlots_b112 Q f o t (C 26 1) (ln C o) j s (b + j) (cs1 C L (C 26 1) o b 30 M1 j.toNat) := by
    intro s hs
    unfold w_X2_copySlots_b112
    refine ⟨by omega, by omega, fun M3 h3 => ⟨by unfold ri_; omega, ih _ _ _ _ _ _ ⟨rfl, rfl, rfl, rfl, by omega, by omega, ?_⟩ (by omega)⟩⟩
    rw [show (j + 1).toNat = j.toNat + 1 from by omega, h3, hs]
    show ux_ _ 30 (b + (j.toNat : Nat)) _ = _
    rw [jj]
  have plain : cv C L (C 26 1) o j.toNat = v4 → w_X2_copySlots_b75 Q f o t (C 26 1) (ln C o) j v4 (cs1 C L (C 26 1) o b 30 M1 j.toNat) := by
    intro hs
    unfold w_X2_copySlots_b75 w_X2_copySlots_b76
    refine ⟨t0, t1, fun v1 h1 _ => ?_⟩
    rw [g1 29 (by decide), eb] at h1
    subst h1
    exact ⟨by unfold ri_; omega, fun _ => put v4 hs.symm, fun q => absurd rfl q⟩
  have cvd : cv C L (C 26 1) o j.toNat = if kA C (C 27 o) j = 5 ∧ v4 ≠ -1 ∧ v4 ∈ L then C 26 1 + ix L v4 else v4 := by unfold cv; rw [jj, ← f4]
  refine ⟨fun z7 => plain ?_, fun z7 => ?_⟩
  · rw [cvd, if_neg (fun q => by rw [if_pos q.1] at f7; omega)]
  · have zk : kA C (C 27 o) j = 5 := by
      by_cases q : kA C (C 27 o) j = 5
      · exact q
      · rw [if_neg q] at f7; exact absurd f7 z7
    refine ⟨fun z4 => plain (by rw [cvd, if_neg (fun q => q.2.1 z4)]), fun z4 => ?_⟩
    have hv : hOk C v4 := by
      rcases c3 with ⟨-, q | q⟩ | ⟨q, -⟩
      · rw [← f4] at q; exact absurd q z4
      · rw [← f4] at q; exact q.1
      · exact absurd zk q
    have hv0 := hv.1
    have hv1 := hv.2.1
    refine ⟨by unfold ri_; omega, hv0, by omega, fun v11 h11 _ => ?_⟩
    rw [g1 35 (by decide), e35 v4 hv0 hv1] at h11
    refine ⟨fun z11 => plain (by rw [cvd, if_neg (fun q => (ix_m.mp (h11.symm.trans z11)) q.2.2)]), fun z11 => ?_⟩
    have hin : v4 ∈ L := by
      by_cases q : v4 ∈ L
      · exact q
      · exact absurd (h11.trans (ix_out q)) z11
    unfold w_X2_copySlots_b76
    refine ⟨t0, t1, fun v1 h1 _ => ?_⟩
    rw [g1 29 (by decide), eb] at h1
    subst h1
    refine ⟨by unfold ri_; omega, fun q => by omega, fun _ => ⟨by unfold ri_; omega, hv0, by omega, fun v6 h6 _ => ?_⟩⟩
    rw [g1 35 (by decide), e35 v4 hv0 hv1] at h6
    have l1 := (ix_lt (L := L) (o := v4)).1
    have l2 := (ix_lt (L := L) (o := v4)).2
    exact ⟨by unfold ri_; omega, put _ (by rw [cvd, if_pos ⟨zk, z4, hin⟩, h6])⟩
