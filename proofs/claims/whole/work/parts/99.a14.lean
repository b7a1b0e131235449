/-! copy, whole -/
theorem RB_w {C R M A : MM} {L : List Int} (hB : RB C R) (hm : ∀ q, q ≠ 34 → q ≠ 35 → M q = C q) (h1 : ∀ k, k ∉ [0, 36, 37] → A k = R k) (h2 : ∀ i, i ∉ ([0, 47] : List Int) → A 0 i = R 0 i) : RB M A := by
  have hH := hB.2.2
  have q := hH.2.2.2.2.2.2.2.2.2.2.2.1
  refine RB_of hB (Rhp_C hH (fun k hk => hm k (by intro q; rw [q] at hk; revert hk; decide) (by intro q; rw [q] at hk; revert hk; decide)) (by rw [hm 8 (by decide) (by decide)]) (fun i _ => by rw [hm 26 (by decide) (by decide)]) (fun k hk => h1 k (by intro q; simp at q; rcases q with rfl | rfl | rfl <;> simp at hk)) (fun i hi => h2 i (by revert hi; simp; omega)) ?_) (fun k a b => hm k (by omega) (by omega)) (fun k a b _ => h1 k (by simp; omega)) (fun i hi => h2 i (by revert hi; simp; omega))
  unfold Rrt at q ⊢
  rw [hm 26 (by decide) (by decide), hm 33 (by decide) (by decide), h1 24 (by decide), h2 31 (by decide), hOk_eq (by rw [hm 26 (by decide) (by decide)]) (hm 27 (by decide) (by decide))]
  exact q
theorem p_R_dup94 {Q : Int → MM → Prop} {C R A : MM} {L : List Int} (hY : Rty C R) (hH : Rhp C R) (hL : ∀ o ∈ L, hOk C o) (hll : (L.length : Int) ≤ 400) (h : WR R A L) (h3 : ¬ (C 26 1 + L.length ≤ 400 ∧ C 26 3 + sL C L L.length ≤ 4000) → Q 0 (ux_ A 0 0 3)) (h1 : C 26 1 + L.length ≤ 400 → C 26 3 + sL C L L.length ≤ 4000 → w_X12_copy_b194 Q (C 26 1) 0 (ux_ A 0 0 0)) : w_X12_copy_b89 Q A := by
  have n0 := hH.2.1
  have n4 := hH.2.2.1
  have m1 := hH.1
  have n3 := sm_nn hY hH
  have n28 := hH.2.2.2.2.1
  have n40 := hH.2.2.2.2.2.2.1
  unfold w_X12_copy_b89
  refine loop3 _ (fun (y k : Int) M1 => A = M1 ∧ 0 ≤ k ∧ k ≤ L.length ∧ y = sL C L k.toNat) (fun _ (k : Int) _ => ((L.length : Int) - k).toNat) ?_ _ _ _ ⟨rfl, by omega, by omega, rfl⟩
  rintro y k _ f ⟨rfl, k0, k1, rfl⟩ ih
  have kk : ((k.toNat : Nat) : Int) = k := by omega
  obtain ⟨z1, z2⟩ := sL_mono hY hH hL 0 k.toNat (by omega) (by omega)
  have z0 : sL C L 0 = 0 := rfl
  unfold wb_X12_copy_b94
  intro v1 e1 _
  rw [h.2.2.1] at e1
  subst e1
  refine ⟨fun z v3 e3 _ v4 e4 _ => ?_, fun z => ⟨k0, by omega, fun v10 e10 _ => ?_⟩⟩
  · rw [h.2.1 26 (by decide), ← m1] at e3
    rw [h.2.2.1] at e4
    subst e3 e4
    have ek : k.toNat = L.length := by omega
    have bad : ¬ (C 26 1 + L.length ≤ 400 ∧ C 26 3 + sL C L L.length ≤ 4000) → w_X12_copy_b168 Q A := by
      intro q
      unfold w_X12_copy_b168 w_X12_copy_b173
      intro M1 f1 v2 f2 _
      have : v2 = 3 := by rw [f2, f1, ux_s]
      exact ⟨fun q2 => by omega, fun _ => by rw [f1]; exact h3 q⟩
    refine ⟨by unfold ri_; omega, fun q => bad (fun q2 => by omega), fun q v7 e7 _ => ?_⟩
    rw [h.2.1 28 (by decide), ← n28] at e7
    subst e7
    rw [ek] at z1 z2 ⊢
    refine ⟨by unfold ri_; omega, fun q2 => ?_, fun q2 => bad (fun q3 => by omega)⟩
    unfold w_X12_copy_b173
    intro M1 f1 v2 f2 _
    have : v2 = 0 := by rw [f2, f1, ux_s]
    refine ⟨fun _ v4 f4 _ => ?_, fun q => by omega⟩
    rw [f1, ux_i _ _ _ (by decide), h.2.1 26 (by decide), ← m1] at f4
    rw [f4, f1]
    exact h1 (by omega) q2
  · have ho := hL _ (gD_mem (L := L) (k := k.toNat) (by omega))
    have hat := hp_at hY hH ho
    have ho0 := ho.1
    obtain ⟨ty, hv, -, tl, -⟩ := (hH.2.2.2.2.2.2.2.2.2.1 _ ho.1 ho.2.1).2 ho.2.2
    have e36 := h.2.2.2.1 k.toNat (by omega)
    rw [kk] at e36
    rw [e36] at e10
    rw [e10]
    refine ⟨ho0, by omega, fun v11 e11 _ => ⟨k0, by omega, fun v12 e12 _ => ?_⟩⟩
    rw [e36] at e12
    rw [e12]
    refine ⟨ho0, by omega, fun v13 e13 _ => ?_⟩
    rw [h.1 19 (by decide), ← ty] at e11
    rw [h.1 20 (by decide), ← tl] at e13
    rw [e11, e13]
    refine p_R_so (WR_Y hY h) hv fun _ => ?_
    rw [show so C (C 27 (L.getD k.toNat 0)) (C 28 (L.getD k.toNat 0)) = ln C (L.getD k.toNat 0) from rfl]
    refine ⟨by unfold ri_; omega, by unfold ri_; omega, ih _ _ _ ⟨rfl, by omega, by omega, ?_⟩ (by omega)⟩
    rw [show (k + 1).toNat = k.toNat + 1 from by omega]; rfl
theorem p_dup13 {Q : Int → MM → Prop} {C R M : MM} {L : List Int} (hY : Rty C R) (hH : Rhp C R) (hL : ∀ o ∈ L, hOk C o) (hll : (L.length : Int) ≤ 400) (h : WC C M L) (h0 : ¬ (C 26 1 + L.length ≤ 400 ∧ C 26 3 + sL C L L.length ≤ 4000) → Q (-1) M) (h1 : C 26 1 + L.length ≤ 400 → C 26 3 + sL C L L.length ≤ 4000 → w_X2_duplicate_b62 Q L.length (C 26 1) 0 M) : w_X2_duplicate_b13 Q L.length 0 0 M := by
  have n0 := hH.2.1
  have n4 := hH.2.2.1
  have n3 := sm_nn hY hH
  have n40 := hH.2.2.2.2.2.2.1
  refine loop4 _ (fun (a y k : Int) M1 => (L.length : Int) = a ∧ M = M1 ∧ 0 ≤ k ∧ k ≤ L.length ∧ y = sL C L k.toNat) (fun _ _ (k : Int) _ => ((L.length : Int) - k).toNat) ?_ _ _ _ _ ⟨rfl, rfl, by omega, by omega, rfl⟩
  rintro _ y k _ f ⟨rfl, rfl, k0, k1, rfl⟩ ih
  have kk : ((k.toNat : Nat) : Int) = k := by omega
  obtain ⟨z1, z2⟩ := sL_mono hY hH hL 0 k.toNat (by omega) (by omega)
  have z0 : sL C L 0 = 0 := rfl
  have e26 : M 26 = C 26 := h.1 26 (by decide) (by decide)
  unfold wb_X2_duplicate_b13
  refine ⟨fun z => ?_, fun z => ⟨k0, by omega, fun v6 e6 _ => ?_⟩⟩
  · have ek : k.toNat = L.length := by omega
    rw [ek] at z2 z1 ⊢
    refine p_hasRoom (by rw [e26]; exact n0) (by rw [e26]; exact n4) (by rw [e26]; exact n3) (by rw [e26]; exact n40) (by omega) (by omega) (by omega) (by omega) (fun q1 q2 _ => ⟨fun _ v5 e5 _ => ?_, fun q => by omega⟩) (fun q _ => ⟨fun q2 => absurd rfl q2, fun _ => h0 (by rw [e26] at q; exact q)⟩)
    rw [e26] at e5 q1 q2
    rw [e5]
    exact h1 q1 q2
  · have ho := hL _ (gD_mem (L := L) (k := k.toNat) (by omega))
    have hat := hp_at hY hH ho
    have e34 := h.2.2.1 k.toNat (by omega)
    rw [kk] at e34
    rw [e34] at e6
    rw [e6]
    refine p_slotsOf hY hH ho (fun q hq => h.1 q (by intro e; rw [e] at hq; revert hq; decide) (by intro e; rw [e] at hq; revert hq; decide)) fun _ _ => ⟨by unfold ri_; omega, by unfold ri_; omega, ih _ _ _ _ ⟨rfl, rfl, by omega, by omega, ?_⟩ (by omega)⟩
    rw [show (k + 1).toNat = k.toNat + 1 from by omega]; rfl
/-- there is a memory that holds a walk -/
def exA (R : MM) (L : List Int) : MM := fun k i => if k = 0 ∧ i = 47 then (L.length : Int) else if k = 36 then L.getD i.toNat 0 else if k = 37 then ix L i else R k i
theorem WR_ex {R : MM} {L : List Int} : WR R (exA R L) L := by
  refine ⟨fun k hk => funext fun i => ?_, fun i hi => ?_, ?_, fun k hk => ?_, fun o o0 o1 => ?_⟩
  · simp at hk
    unfold exA
    rw [if_neg (by omega), if_neg (by omega), if_neg (by omega)]
  · unfold exA
    rw [if_neg (by omega), if_neg (by omega), if_neg (by omega)]
  · simp [exA]
  · unfold exA
    rw [if_neg (by omega), if_pos rfl]; rfl
  · unfold exA
    rw [if_neg (by omega), if_neg (by omega), if_pos rfl]
def FCc (C C' : MM) : Prop := (∀ q, q ∉ [12, 26, 27, 28, 29, 30, 31, 34, 35] → C' q = C q) ∧ ∀ i, i ∉ ([1, 2, 3] : List Int) → C' 26 i = C 26 i
def FCr (R R' : MM) : Prop := (∀ q, q ∉ [0, 19, 20, 21, 22, 23, 36, 37] → R' q = R q) ∧ ∀ i, i ∉ ([0, 26, 27, 28, 47] : List Int) → R' 0 i = R 0 i
set_option maxHeartbeats 800000 in
theorem t_copy {C R : MM} {o w : Int} (hB : RB C R) (hJ : Rjn C R) : w_X11_copy (fun r C' => w_X12_copy (fun r' R' => r = r' ∧ R' 0 0 = 0 ∧ RB C' R' ∧ Rjn C' R' ∧ hpLe C C' ∧ FCc C C' ∧ FCr R R') o w R) (fun E C' => w_X12_copy (fun r' R' => R' 0 0 = xW E ∧ RB C' R' ∧ Rjn C' R' ∧ hpLe C C' ∧ FCc C C' ∧ FCr R R') o w R) o w C := by
  have hH := hB.2.2
  have hY := hB.1.2.2.2.2
  have n0 := hH.2.1
  have n4 := hH.2.2.1
  have fr0 : ∀ x, FCr R (ux_ R 0 0 x) := fun x => ⟨fun q hq => funext fun i => ux_c _ _ _ _ (fun e => hq (by rw [e]; decide)), fun i hi => ux_i _ _ _ (fun e => hi (by rw [e]; decide))⟩
  have fc0 : FCc C C := ⟨fun _ _ => rfl, fun _ _ => rfl⟩
  have b27 : ∀ (Q : Int → MM → Prop) x, 0 < x → Q 0 (ux_ R 0 0 x) → w_X12_copy_b27 Q o w x R := by
    intro Q x hx hq
    unfold w_X12_copy_b27
    intro M1 e1 v2 e2 _
    have : v2 = x := by rw [e2, e1, ux_s]
    exact ⟨fun q => by omega, fun _ => by rw [e1]; exact hq⟩
  unfold w_X11_copy
  refine p_isThere n4 (fun ho _ => ⟨fun _ => ?_, fun q => by omega⟩) (fun ho _ => ⟨fun q => absurd rfl q, fun _ => ?_⟩)
  · have go : ∀ Q : Int → MM → Prop, ((w < 0 → w_X12_copy_b22 Q o w R) ∧ (¬ w < 0 → (w ≤ 2 → w_X12_copy_b27 Q o w 0 R) ∧ (¬ w ≤ 2 → w_X12_copy_b22 Q o w R))) → w_X12_copy Q o w R := by
      intro Q hq
      unfold w_X12_copy
      exact p_R_isObject hH (fun _ _ => ⟨fun _ => hq, fun q => by omega⟩) (fun q => absurd ho q)
    have bad : w < 0 ∨ 2 < w → w_X12_copy (fun r' R' => R' 0 0 = xW "java/lang/IllegalArgumentException" ∧ RB C R' ∧ Rjn C R' ∧ hpLe C C ∧ FCc C C ∧ FCr R R') o w R := by
      intro hw
      have b22 : w_X12_copy_b22 (fun r' R' => R' 0 0 = xW "java/lang/IllegalArgumentException" ∧ RB C R' ∧ Rjn C R' ∧ hpLe C C ∧ FCc C C ∧ FCr R R') o w R := b27 _ 2 (by omega) ⟨ux_s _ _ _ _, RB_00 hB 2, Rjn_00 hJ 2, hpLe_r C, fc0, fr0 2⟩
      exact go _ ⟨fun _ => b22, fun q => ⟨fun q2 => by omega, fun _ => b22⟩⟩
    unfold w_X11_copy_b28
    refine ⟨fun z => bad (Or.inl z), fun z => ⟨fun z2 => ?_, fun z2 => bad (Or.inr (by omega))⟩⟩
    obtain ⟨wl1, wl2, wl3⟩ := cpL_ok hY hH (w := w) ho
    have hlen := wl_len wl1 n0
    have R00 := RB_00 hB 0
    have hY0 := R00.1.2.2.2.2
    have hH0 := R00.2.2
    unfold w_X2_duplicate
    refine p_walkToCopy hY hH ho (by omega) z2 fun M hM _ _ => ?_
    have refR : ∀ Q : Int → MM → Prop, (∀ A, WR (ux_ R 0 0 0) A (cpL C w o) → w_X12_copy_b89 Q A) → w_X12_copy Q o w R := by
      intro Q hq
      refine go Q ⟨fun q => absurd q z, fun _ => ⟨fun _ => ?_, fun q => absurd z2 q⟩⟩
      unfold w_X12_copy_b27
      intro M1 e1 v2 e2 _
      have : v2 = 0 := by rw [e2, e1, ux_s]
      refine ⟨fun _ => ?_, fun q => by omega⟩
      subst e1
      exact p_R_walkToCopy hY0 hH0 ho (by omega) z2 hq
    have hA : ∀ A x, WR (ux_ R 0 0 0) A (cpL C w o) → (∀ k, k ∉ [0, 36, 37] → ux_ A 0 0 x k = R k) ∧ (∀ i, i ∉ ([0, 47] : List Int) → ux_ A 0 0 x 0 i = R 0 i) := by
      intro A x hW
      refine ⟨fun k hk => funext fun i => ?_, fun i hi => ?_⟩
      · have k0 : k ≠ 0 := fun e => hk (by rw [e]; decide)
        rw [ux_c _ _ _ _ k0, hW.1 k hk, ux_c _ _ _ _ k0]
      · have i0 : i ≠ 0 := fun e => hi (by rw [e]; decide)
        rw [ux_i _ _ _ i0, hW.2.1 i (fun e => hi (by rw [e]; decide)), ux_i _ _ _ i0]
    have leM : hpLe C M := hpLe_e (fun k a b _ => hM.1 k (by omega) (by omega)) (by rw [hM.1 26 (by decide) (by decide)]) (fun k hk => hM.1 k (by intro q; rw [q] at hk; revert hk; decide) (by intro q; rw [q] at hk; revert hk; decide))
    refine p_dup13 hY hH wl2 (by omega) hM (fun hbad _ => ⟨fun q => absurd rfl q, fun _ => ?_⟩) (fun q1 q2 => ?_)
    · refine refR _ fun A hW => p_R_dup94 hY0 hH0 wl2 (by omega) hW (fun _ => ?_) (fun q1 q2 => absurd ⟨q1, q2⟩ hbad)
      obtain ⟨a1, a2⟩ := hA A 3 hW
      exact ⟨ux_s _ _ _ _, RB_w (L := cpL C w o) hB hM.1 a1 a2, le_jn hY hH leM hJ (fun k a b => hM.1 k (by omega) (by omega)) (fun k a b => a1 k (by simp; omega)) (fun i hi => a2 i (by revert hi; simp; omega)), leM, ⟨fun q hq => hM.1 q (fun e => hq (by rw [e]; decide)) (fun e => hq (by rw [e]; decide)), fun i _ => by rw [hM.1 26 (by decide) (by decide)]⟩, ⟨fun q hq => a1 q (fun e => hq (by revert e; simp; omega)), fun i hi => a2 i (fun e => hi (by revert e; simp; omega))⟩⟩
    · -- all goes well: the reference's memory behind its walk is taken for the class's proof first
      have fin : ∀ A, WR (ux_ R 0 0 0) A (cpL C w o) → RB M (ux_ A 0 0 0) := fun A hW => RB_w (L := cpL C w o) hB hM.1 (hA A 0 hW).1 (hA A 0 hW).2
      have hW0 := WR_ex (R := ux_ R 0 0 0) (L := cpL C w o)
      obtain ⟨A0, hA0⟩ : ∃ A0, A0 = exA (ux_ R 0 0 0) (cpL C w o) := ⟨_, rfl⟩
      rw [← hA0] at hW0
      refine p_dup62 hY hH wl2 hM (fin A0 hW0) q1 q2 ?_
      refine p_dup106 hY hH wl2 hM (fin A0 hW0) q1 q2 fun _ => ⟨fun _ => ?_, fun q => by omega⟩
      refine refR _ fun A hW => p_R_dup94 hY0 hH0 wl2 (by omega) hW (fun q => absurd ⟨q1, q2⟩ q) (fun _ _ => ?_)
      obtain ⟨a1, a2⟩ := hA A 0 hW
      have hBA := fin A hW
      have x47 : ux_ A 0 0 0 0 47 = (cpL C w o).length := by rw [ux_i _ _ _ (by decide)]; exact hW.2.2.1
      have x36 : ∀ k : Nat, k < (cpL C w o).length → ux_ A 0 0 0 36 k = (cpL C w o).getD k 0 := fun k hk => by rw [ux_c _ _ _ _ (by decide)]; exact hW.2.2.2.1 k hk
      have x37 : ∀ v, 0 ≤ v → v < 400 → ux_ A 0 0 0 37 v = ix (cpL C w o) v := fun v v0 v1 => by rw [ux_c _ _ _ _ (by decide)]; exact hW.2.2.2.2 v v0 v1
      refine p_R_dup194 hY hH wl2 hM.1 hBA x47 x36 (a1 19 (by decide)) (a1 20 (by decide)) q1 q2 ?_
      refine p_R_dup242 hY hH wl2 hM.1 hBA x47 x36 x37 (fun q hq => a1 q (by intro e; simp at e hq; omega)) (a2 27 (by decide)) q1 q2 ?_
      have rel := cA_I hY hH wl2 hM.1 hBA q1 q2 (cpL C w o).length (Nat.le_refl _)
      obtain ⟨i1, i2, i3, i4, i5, i6, i7, i8, i9, i10, i11, i12, i13, i14, i15⟩ := cr_I hY hH wl2 hM.1 hBA q1 q2 (cpL C w o).length (Nat.le_refl _)
      obtain ⟨f1, -⟩ := csA_f C (cpL C w o) (C 26 1) 30 29 (crN C M (cpL C w o) (cpL C w o).length) (C 26 3) (cpL C w o).length (fun j hj => by
        rw [(i8 j hj).2.2]
        have := (sL_mono hY hH wl2 0 j (by omega) (by omega)).1
        have z0 : sL C (cpL C w o) 0 = 0 := rfl
        omega)
      obtain ⟨g1, -⟩ := csA_f C (cpL C w o) (C 26 1) 23 21 (rdN C M (ux_ A 0 0 0) (cpL C w o) (cpL C w o).length) (ux_ A 0 0 0 0 27) (cpL C w o).length (fun j hj => by
        rw [i15 j hj]
        have := (sL_mono hY hH wl2 0 j (by omega) (by omega)).1
        have z0 : sL C (cpL C w o) 0 = 0 := rfl
        omega)
      have hle : hpLe C (csA C (cpL C w o) (C 26 1) 30 29 (crN C M (cpL C w o) (cpL C w o).length) (cpL C w o).length) := by
        refine ⟨⟨by rw [f1 8 (by decide), i4 8 (by decide), hM.1 8 (by decide) (by decide)]; omega, fun c c0 c1 => ⟨by rw [f1 9 (by decide), i4 9 (by decide), hM.1 9 (by decide) (by decide)], by rw [f1 11 (by decide), i4 11 (by decide), hM.1 11 (by decide) (by decide)], fun u => ⟨by rw [f1 12 (by decide)]; exact i9 c c0 c1 u, by rw [f1 16 (by decide), i4 16 (by decide), hM.1 16 (by decide) (by decide)], by rw [f1 17 (by decide), i4 17 (by decide), hM.1 17 (by decide) (by decide)], fun k j hk _ _ => by rw [f1 k (by omega), i4 k (by simp; omega), hM.1 k (by omega) (by omega)]⟩, fun k k0 k1 => ⟨by rw [f1 14 (by decide), i4 14 (by decide), hM.1 14 (by decide) (by decide)]; exact k1, fun q q0 q1 => by rw [f1 q (by omega), i4 q (by simp; omega), hM.1 q (by omega) (by omega)]⟩⟩⟩, fun x hx => ?_⟩
        obtain ⟨x1, x2, x3⟩ := i6 x hx.2.1
        rw [hM.1 27 (by decide) (by decide)] at x1
        rw [hM.1 28 (by decide) (by decide)] at x2
        rw [hM.1 29 (by decide) (by decide)] at x3
        unfold hOk
        rw [f1 26 (by decide), f1 27 (by decide), f1 28 (by decide), f1 29 (by decide), i2, x1, x2, x3]
        exact ⟨⟨hx.1, by have := hx.2.1; omega, hx.2.2⟩, rfl, rfl, rfl⟩
      have cq : ∀ q, q ∉ [12, 26, 27, 28, 29, 30, 31, 34, 35] → csA C (cpL C w o) (C 26 1) 30 29 (crN C M (cpL C w o) (cpL C w o).length) (cpL C w o).length q = C q := by
        intro q hq
        simp at hq
        rw [f1 q (by omega), i4 q (by simp; omega), hM.1 q (by omega) (by omega)]
      have rq' : ∀ q, q ∉ [0, 19, 20, 21, 22, 23, 36, 37] → csA C (cpL C w o) (C 26 1) 23 21 (rdN C M (ux_ A 0 0 0) (cpL C w o) (cpL C w o).length) (cpL C w o).length q = R q := by
        intro q hq
        simp at hq
        rw [g1 q (by omega), i11 q (by simp; omega), a1 q (by simp; omega)]
      have r0 : ∀ i, i ∉ ([0, 26, 27, 28, 47] : List Int) → csA C (cpL C w o) (C 26 1) 23 21 (rdN C M (ux_ A 0 0 0) (cpL C w o) (cpL C w o).length) (cpL C w o).length 0 i = R 0 i := by
        intro i hi
        simp at hi
        rw [g1 0 (by decide), i12 i (by simp; omega), a2 i (by simp; omega)]
      refine ⟨rfl, by rw [g1 0 (by decide), i12 0 (by decide), ux_s], rel, le_jn hY hH hle hJ (fun k a b => cq k (by simp; omega)) (fun k a b => rq' k (by simp; omega)) (fun i hi => r0 i (by revert hi; simp; omega)), hle, ⟨cq, fun i hi => by rw [f1 26 (by decide), i5 i hi, hM.1 26 (by decide) (by decide)]⟩, ⟨rq', r0⟩⟩
  · unfold w_X12_copy
    exact p_R_isObject hH (fun q => absurd q ho) (fun _ _ => ⟨fun q => absurd rfl q, fun _ => b27 _ 1 (by omega) ⟨ux_s _ _ _ _, RB_00 hB 1, Rjn_00 hJ 1, hpLe_r C, fc0, fr0 1⟩⟩)
