/-! copy: new things for all that is copied -/
def sL (C : MM) (L : List Int) : Nat → Int
  | 0 => 0
  | k + 1 => sL C L k + ln C (L.getD k 0)
def crN (C M : MM) (L : List Int) : Nat → MM
  | 0 => M
  | k + 1 => crt (crN C M L k) (C 27 (L.getD k 0)) (C 28 (L.getD k 0))
def rdN (C M A : MM) (L : List Int) : Nat → MM
  | 0 => A
  | k + 1 => rdd (crN C M L k) (rdN C M A L k) (C 27 (L.getD k 0)) (C 28 (L.getD k 0))
theorem sL_mono {C R R0 : MM} (hY : Rty C R0) (hH : Rhp C R) {L : List Int} (hL : ∀ o ∈ L, hOk C o) (i j : Nat) (hi : i ≤ j) (hj : j ≤ L.length) : sL C L i ≤ sL C L j ∧ sL C L j ≤ sL C L i + 96 * (j - i) := by
  induction j with
  | zero => rw [show i = 0 from by omega]; omega
  | succ j ih =>
    by_cases e : i = j + 1
    · rw [e]; omega
    · have := ih (by omega) (by omega)
      have hat := hp_at hY hH (hL _ (gD_mem (L := L) (k := j) (by omega)))
      show _ ≤ sL C L j + ln C (L.getD j 0) ∧ sL C L j + ln C (L.getD j 0) ≤ _
      omega
/-- what stands after k new things -/
def crI (C M A : MM) (L : List Int) (k : Nat) : Prop := RB (crN C M L k) (rdN C M A L k) ∧ crN C M L k 26 1 = C 26 1 + k ∧ crN C M L k 26 3 = C 26 3 + sL C L k ∧ (∀ q, q ∉ [12, 26, 27, 28, 29, 30, 31] → crN C M L k q = M q) ∧ (∀ i, i ∉ ([1, 2, 3] : List Int) → crN C M L k 26 i = M 26 i) ∧ (∀ o, o < C 26 1 → crN C M L k 27 o = M 27 o ∧ crN C M L k 28 o = M 28 o ∧ crN C M L k 29 o = M 29 o) ∧ (∀ i, i < C 26 3 → crN C M L k 30 i = M 30 i ∧ crN C M L k 31 i = M 31 i) ∧ (∀ j : Nat, j < k → crN C M L k 27 (C 26 1 + j) = C 27 (L.getD j 0) ∧ crN C M L k 28 (C 26 1 + j) = C 28 (L.getD j 0) ∧ crN C M L k 29 (C 26 1 + j) = C 26 3 + sL C L j) ∧ (∀ i, 0 ≤ i → i < C 8 0 → C 12 i = 1 → crN C M L k 12 i = 1) ∧ rdN C M A L k 0 27 = A 0 27 + sL C L k ∧ (∀ q, q ∉ [0, 19, 20, 21, 22, 23] → rdN C M A L k q = A q) ∧ (∀ i, i ∉ ([26, 27, 28] : List Int) → rdN C M A L k 0 i = A 0 i) ∧ (∀ o, o < C 26 1 → rdN C M A L k 19 o = A 19 o ∧ rdN C M A L k 20 o = A 20 o ∧ rdN C M A L k 21 o = A 21 o) ∧ (∀ i, i < A 0 27 → rdN C M A L k 23 i = A 23 i) ∧ (∀ j : Nat, j < k → rdN C M A L k 21 (C 26 1 + j) = A 0 27 + sL C L j)
set_option maxHeartbeats 800000 in
theorem cr_I {C R M A : MM} {L : List Int} (hY : Rty C R) (hH : Rhp C R) (hL : ∀ o ∈ L, hOk C o) (hm : ∀ q, q ≠ 34 → q ≠ 35 → M q = C q) (hB : RB M A) (r1 : C 26 1 + L.length ≤ 400) (r2 : C 26 3 + sL C L L.length ≤ 4000) (k : Nat) (hk : k ≤ L.length) : crI C M A L k := by
  have n0 := hH.2.1
  have hA26 : A 0 26 = C 26 1 := by rw [← hm 26 (by decide) (by decide)]; exact hB.2.2.1.symm
  induction k with
  | zero =>
    refine ⟨hB, ?_, ?_, fun _ _ => rfl, fun _ _ => rfl, fun _ _ => ⟨rfl, rfl, rfl⟩, fun _ _ => ⟨rfl, rfl⟩, fun j hj => by omega, ?_, ?_, fun _ _ => rfl, fun _ _ => rfl, fun _ _ => ⟨rfl, rfl, rfl⟩, fun _ _ => rfl, fun j hj => by omega⟩
    · show M 26 1 = _; rw [hm 26 (by decide) (by decide)]; simp
    · show M 26 3 = C 26 3 + 0; rw [hm 26 (by decide) (by decide)]; omega
    · intro i a b c; show M 12 i = 1; rw [hm 12 (by decide) (by decide)]; exact c
    · show A 0 27 = A 0 27 + 0; omega
  | succ k ih =>
    obtain ⟨i1, i2, i3, i4, i5, i6, i7, i8, i9, i10, i11, i12, i13, i14, i15⟩ := ih (by omega)
    have ho := hL _ (gD_mem (L := L) (k := k) (by omega))
    obtain ⟨a1, a2, a3, a4⟩ := ob_ty hH ho
    have hat := hp_at hY hH ho
    obtain ⟨m1, m2⟩ := sL_mono hY hH hL (k + 1) L.length (by omega) (Nat.le_refl _)
    obtain ⟨z1, z2⟩ := sL_mono hY hH hL 0 k (by omega) (by omega)
    have z0 : sL C L 0 = 0 := rfl
    have es : sL C L (k + 1) = sL C L k + ln C (L.getD k 0) := rfl
    have ec : crN C M L (k + 1) = crt (crN C M L k) (C 27 (L.getD k 0)) (C 28 (L.getD k 0)) := rfl
    have er : rdN C M A L (k + 1) = rdd (crN C M L k) (rdN C M A L k) (C 27 (L.getD k 0)) (C 28 (L.getD k 0)) := rfl
    have e8 : crN C M L k 8 = C 8 := by rw [i4 8 (by decide), hm 8 (by decide) (by decide)]
    have e16 : crN C M L k 16 = C 16 := by rw [i4 16 (by decide), hm 16 (by decide) (by decide)]
    have eso : so (crN C M L k) (C 27 (L.getD k 0)) (C 28 (L.getD k 0)) = ln C (L.getD k 0) := by rw [so_eq e16]; rfl
    have r26 : rdN C M A L k 0 26 = C 26 1 + k := by rw [← i1.2.2.1]; exact i2
    have hYk := i1.1.2.2.2.2
    have q16 : ∀ i, 0 ≤ i → i < crN C M L k 8 0 → rdN C M A L k 16 i = if i = C 27 (L.getD k 0) then 1 else rdN C M A L k 16 i := by
      intro i x0 x1
      by_cases z : i = C 27 (L.getD k 0)
      · rw [if_pos z]
        have h1 := (hYk.2.2.2.1 i x0 x1).1.2.2.2.2.2.1
        rw [← h1]
        rw [e8] at x1
        exact i9 i x0 x1 (by rw [z]; exact (a2 (by have := hY.2.2.1; omega)).1)
      · rw [if_neg z]
    refine ⟨?_, ?_, ?_, ?_, ?_, ?_, ?_, ?_, ?_, ?_, ?_, ?_, ?_, ?_, ?_⟩
    · rw [ec, er]
      exact RB_new i1 (by rw [e8]; exact a1) a3 a4 (fun q => (a2 q).2) (fun _ => rfl) (by rw [i2]; omega) (by rw [i3, eso]; omega) (fun _ _ => rfl) (fun _ _ _ => rfl) q16
    · rw [ec]
      have : crt (crN C M L k) (C 27 (L.getD k 0)) (C 28 (L.getD k 0)) 26 1 = crN C M L k 26 1 + 1 := by simp [crt]
      rw [this, i2]; omega
    · rw [ec]
      have : crt (crN C M L k) (C 27 (L.getD k 0)) (C 28 (L.getD k 0)) 26 3 = crN C M L k 26 3 + so (crN C M L k) (C 27 (L.getD k 0)) (C 28 (L.getD k 0)) := by simp [crt]
      rw [this, i3, eso, es]; omega
    · intro q hq
      rw [ec, crt_o _ _ _ hq, i4 q hq]
    · intro i hi
      rw [ec, crt_26 _ _ _ _ (fun q => hi (by rw [q]; decide)) (fun q => hi (by rw [q]; decide)) (fun q => hi (by rw [q]; decide)), i5 i hi]
    · intro o h1
      rw [ec, crt_27, crt_28, crt_29, i2, if_neg (by omega), if_neg (by omega), if_neg (by omega)]
      exact i6 o h1
    · intro i hi
      rw [ec, crt_30, crt_31, i3, if_neg (by omega), if_neg (by omega)]
      exact i7 i hi
    · intro j hj
      rw [ec, crt_27, crt_28, crt_29, i2, i3]
      by_cases z : j = k
      · rw [z, if_pos rfl, if_pos rfl, if_pos rfl]; exact ⟨rfl, rfl, rfl⟩
      · rw [if_neg (by omega), if_neg (by omega), if_neg (by omega)]
        exact i8 j (by omega)
    · intro i x0 x1 x2
      rw [ec, crt_12]
      by_cases z : i = C 27 (L.getD k 0) ∧ 0 ≤ C 27 (L.getD k 0) ∧ C 27 (L.getD k 0) < crN C M L k 8 0
      · rw [if_pos z]
      · rw [if_neg z]; exact i9 i x0 x1 x2
    · rw [er]
      have : rdd (crN C M L k) (rdN C M A L k) (C 27 (L.getD k 0)) (C 28 (L.getD k 0)) 0 27 = rdN C M A L k 0 27 + so (crN C M L k) (C 27 (L.getD k 0)) (C 28 (L.getD k 0)) := by unfold rdd; rw [ux_i _ _ _ (by decide), ux_s]
      rw [this, i10, eso, es]; omega
    · intro q hq
      rw [er, rdd_o _ _ _ _ hq, i11 q hq]
    · intro i hi
      rw [er, rdd_0 _ _ _ _ _ (fun q => hi (by rw [q]; decide)) (fun q => hi (by rw [q]; decide)) (fun q => hi (by rw [q]; decide)), i12 i hi]
    · intro o h1
      rw [er, rdd_19, rdd_20, rdd_21, r26, if_neg (by omega), if_neg (by omega), if_neg (by omega)]
      exact i13 o h1
    · intro i hi
      rw [er, rdd_23, i10, if_neg (by omega)]
      exact i14 i hi
    · intro j hj
      rw [er, rdd_21, r26, i10]
      by_cases z : j = k
      · rw [z, if_pos rfl]
      · rw [if_neg (by omega)]; exact i15 j (by omega)
/-- the class makes them -/
theorem p_dup62 {Q : Int → MM → Prop} {C R M A : MM} {L : List Int} (hY : Rty C R) (hH : Rhp C R) (hL : ∀ o ∈ L, hOk C o) (hw : WC C M L) (hB : RB M A) (r1 : C 26 1 + L.length ≤ 400) (r2 : C 26 3 + sL C L L.length ≤ 4000) (h : w_X2_duplicate_b106 Q L.length (C 26 1) 0 (crN C M L L.length)) : w_X2_duplicate_b62 Q L.length (C 26 1) 0 M := by
  have n0 := hH.2.1
  have n3 := sm_nn hY hH
  refine loop4 _ (fun (a b k : Int) M1 => (L.length : Int) = a ∧ C 26 1 = b ∧ 0 ≤ k ∧ k ≤ L.length ∧ crN C M L k.toNat = M1) (fun _ _ (k : Int) _ => ((L.length : Int) - k).toNat) ?_ _ _ _ _ ⟨rfl, rfl, by omega, by omega, rfl⟩
  rintro _ _ k _ f ⟨rfl, rfl, k0, k1, rfl⟩ ih
  have kk : ((k.toNat : Nat) : Int) = k := by omega
  obtain ⟨i1, i2, i3, i4, i5, i6, i7, i8, i9, -⟩ := cr_I hY hH hL hw.1 hB r1 r2 k.toNat (by omega)
  unfold wb_X2_duplicate_b62
  refine ⟨fun z => by rw [show k.toNat = L.length from by omega]; exact h, fun z => ?_⟩
  have ho := hL _ (gD_mem (L := L) (k := k.toNat) (by omega))
  have hat := hp_at hY hH ho
  have ho0 := ho.1
  obtain ⟨a1, a2, a3, a4⟩ := ob_ty hH ho
  have e34 : crN C M L k.toNat 34 k = L.getD k.toNat 0 := by
    rw [i4 34 (by decide)]
    have := hw.2.2.1 k.toNat (by omega)
    rw [kk] at this; exact this
  refine ⟨k0, by omega, fun v2 e2 _ => ?_⟩
  rw [e34] at e2
  rw [e2]
  refine ⟨ho0, by omega, fun v3 e3 _ => ⟨k0, by omega, fun v4 e4 _ => ?_⟩⟩
  rw [e34] at e4
  rw [e4]
  refine ⟨ho0, by omega, fun v5 e5 _ => ?_⟩
  rw [(i6 _ ho.2.1).1, hw.1 27 (by decide) (by decide)] at e3
  rw [(i6 _ ho.2.1).2.1, hw.1 28 (by decide) (by decide)] at e5
  rw [e3, e5]
  have e8 : crN C M L k.toNat 8 = C 8 := by rw [i4 8 (by decide), hw.1 8 (by decide) (by decide)]
  have e16 : crN C M L k.toNat 16 = C 16 := by rw [i4 16 (by decide), hw.1 16 (by decide) (by decide)]
  have eso : so (crN C M L k.toNat) (C 27 (L.getD k.toNat 0)) (C 28 (L.getD k.toNat 0)) = ln C (L.getD k.toNat 0) := by rw [so_eq e16]; rfl
  obtain ⟨m1, m2⟩ := sL_mono hY hH hL (k.toNat + 1) L.length (by omega) (Nat.le_refl _)
  obtain ⟨z1, z2⟩ := sL_mono hY hH hL 0 k.toNat (by omega) (by omega)
  have z0 : sL C L 0 = 0 := rfl
  have es : sL C L (k.toNat + 1) = sL C L k.toNat + ln C (L.getD k.toNat 0) := rfl
  have hc := ct_bd (crN C M L k.toNat) (crN C M L k.toNat 26 1).toNat
  have h2 := i1.2.2.2.2.2.1
  refine p_create i1.1.2.2.2.2 (by rw [e8]; exact a1) a3 a4 (by rw [i2]; omega) (by rw [i2]; omega) (by omega) (by omega) (by rw [i3]; omega) (by rw [i3, eso]; omega) (fun _ => ⟨by unfold ri_; omega, ih _ _ _ _ ⟨rfl, rfl, by omega, by omega, ?_⟩ (by omega)⟩)
  rw [show (k + 1).toNat = k.toNat + 1 from by omega]; rfl
/-- and the reference -/
theorem p_R_dup194 {Q : Int → MM → Prop} {C R M A : MM} {L : List Int} (hY : Rty C R) (hH : Rhp C R) (hL : ∀ o ∈ L, hOk C o) (hm : ∀ q, q ≠ 34 → q ≠ 35 → M q = C q) (hB : RB M A) (a47 : A 0 47 = L.length) (a36 : ∀ k : Nat, k < L.length → A 36 k = L.getD k 0) (a19 : A 19 = R 19) (a20 : A 20 = R 20) (r1 : C 26 1 + L.length ≤ 400) (r2 : C 26 3 + sL C L L.length ≤ 4000) (h : w_X12_copy_b242 Q (C 26 1) 0 (rdN C M A L L.length)) : w_X12_copy_b194 Q (C 26 1) 0 A := by
  have n0 := hH.2.1
  have n3 := sm_nn hY hH
  refine loop3 _ (fun (b k : Int) M1 => C 26 1 = b ∧ 0 ≤ k ∧ k ≤ L.length ∧ rdN C M A L k.toNat = M1) (fun _ (k : Int) _ => ((L.length : Int) - k).toNat) ?_ _ _ _ ⟨rfl, by omega, by omega, rfl⟩
  rintro _ k _ f ⟨rfl, k0, k1, rfl⟩ ih
  have kk : ((k.toNat : Nat) : Int) = k := by omega
  obtain ⟨i1, i2, i3, i4, i5, i6, i7, i8, i9, i10, i11, i12, i13, -⟩ := cr_I hY hH hL hm hB r1 r2 k.toNat (by omega)
  unfold wb_X12_copy_b194
  intro v1 e1 _
  rw [i12 47 (by decide), a47] at e1
  subst e1
  refine ⟨fun z => by rw [show k.toNat = L.length from by omega]; exact h, fun z => ?_⟩
  have ho := hL _ (gD_mem (L := L) (k := k.toNat) (by omega))
  have hat := hp_at hY hH ho
  have ho0 := ho.1
  obtain ⟨a1, a2, a3, a4⟩ := ob_ty hH ho
  obtain ⟨ty, -, -, tl, -⟩ := (hH.2.2.2.2.2.2.2.2.2.1 _ ho.1 ho.2.1).2 ho.2.2
  have e34 : rdN C M A L k.toNat 36 k = L.getD k.toNat 0 := by
    rw [i11 36 (by decide)]
    have := a36 k.toNat (by omega)
    rw [kk] at this; exact this
  refine ⟨k0, by omega, fun v2 e2 _ => ?_⟩
  rw [e34] at e2
  rw [e2]
  refine ⟨ho0, by omega, fun v3 e3 _ => ⟨k0, by omega, fun v4 e4 _ => ?_⟩⟩
  rw [e34] at e4
  rw [e4]
  refine ⟨ho0, by omega, fun v5 e5 _ => ?_⟩
  rw [(i13 _ ho.2.1).1, a19, ← ty] at e3
  rw [(i13 _ ho.2.1).2.1, a20, ← tl] at e5
  rw [e3, e5]
  have e8 : crN C M L k.toNat 8 = C 8 := by rw [i4 8 (by decide), hm 8 (by decide) (by decide)]
  have e16 : crN C M L k.toNat 16 = C 16 := by rw [i4 16 (by decide), hm 16 (by decide) (by decide)]
  have eso : so (crN C M L k.toNat) (C 27 (L.getD k.toNat 0)) (C 28 (L.getD k.toNat 0)) = ln C (L.getD k.toNat 0) := by rw [so_eq e16]; rfl
  obtain ⟨m1, m2⟩ := sL_mono hY hH hL (k.toNat + 1) L.length (by omega) (Nat.le_refl _)
  obtain ⟨z1, z2⟩ := sL_mono hY hH hL 0 k.toNat (by omega) (by omega)
  have z0 : sL C L 0 = 0 := rfl
  have es : sL C L (k.toNat + 1) = sL C L k.toNat + ln C (L.getD k.toNat 0) := rfl
  have hHk := i1.2.2
  have g1 := hHk.1
  have g5 := hHk.2.2.2.2.1
  have g8 := hHk.2.2.2.2.2.2.2.1
  have g9 := hHk.2.2.2.2.2.2.2.2.1
  refine p_R_add i1.1.2.2.2.2 (by rw [e8]; exact a1) (fun _ => a3) (fun _ => a4) (by omega) (by omega) g8 (by rw [eso]; omega) (by omega) (by rw [eso]; omega) (fun _ => ⟨by unfold ri_; omega, ih _ _ _ ⟨rfl, by omega, by omega, ?_⟩ (by omega)⟩)
  rw [show (k + 1).toNat = k.toNat + 1 from by omega]; rfl
