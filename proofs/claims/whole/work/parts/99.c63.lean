/-! rules are read: variables and relations, the reference -/
theorem ux_v (M : MM) (c : Nat) (i v j : Int) : ux_ M c i v c j = if j = i then v else M c j := by
  by_cases w : j = i
  · rw [if_pos w, w, ux_s]
  · rw [if_neg w, ux_i _ _ _ w]
theorem adV_v (A : MM) (nm : Int) : (∀ i, i ≠ 14 → adV A nm 261 i = A 261 i) ∧ adV A nm 261 14 = A 261 14 + 1 ∧ (∀ q, q ≠ 261 → q ≠ 271 → adV A nm q = A q) ∧ ∀ i, adV A nm 271 i = if i = A 261 14 then nm else A 271 i := by
  refine ⟨fun i hi => ?_, ?_, fun q x y => ?_, fun i => ?_⟩
  · unfold adV; rw [ux_i _ _ _ hi, ux_c _ _ _ _ (by decide)]
  · unfold adV; rw [ux_s]
  · unfold adV; rw [ux_g _ _ _ x, ux_g _ _ _ y]
  · unfold adV; rw [ux_c _ _ _ _ (show (271 : Nat) ≠ 261 by decide), ux_v]
theorem adR_v (A : MM) (nm : Int) : (∀ i, i ≠ 16 → adR A nm 261 i = A 261 i) ∧ adR A nm 261 16 = A 261 16 + 1 ∧ (∀ q, q ≠ 261 → q ≠ 272 → q ≠ 273 → adR A nm q = A q) ∧ (∀ i, adR A nm 272 i = if i = A 261 16 then nm else A 272 i) ∧ ∀ i, adR A nm 273 i = if i = A 261 16 then 0 else A 273 i := by
  refine ⟨fun i hi => ?_, ?_, fun q x y z => ?_, fun i => ?_, fun i => ?_⟩
  · unfold adR; rw [ux_i _ _ _ hi, ux_c _ _ _ _ (by decide), ux_c _ _ _ _ (by decide)]
  · unfold adR; rw [ux_s]
  · unfold adR; rw [ux_g _ _ _ x, ux_g _ _ _ z, ux_g _ _ _ y]
  · unfold adR; rw [ux_c _ _ _ _ (show (272 : Nat) ≠ 261 by decide), ux_c _ _ _ _ (show (272 : Nat) ≠ 273 by decide), ux_v]
  · unfold adR; rw [ux_c _ _ _ _ (show (273 : Nat) ≠ 261 by decide), ux_v, ux_c _ _ _ _ (show (273 : Nat) ≠ 272 by decide)]
theorem RUn_V {A R R' : MM} {nm wd : Int} (h : RUn A R) (hn : nr nm wd) (e : R' = ux_ (ux_ R 81 (A 261 14) wd) 0 135 (A 261 14 + 1)) (n0 : 0 ≤ A 261 14) : RUn (adV A nm) R' := by
  obtain ⟨h1, h2, h3, h4, h5⟩ := h
  obtain ⟨v, v14, g, n⟩ := adV_v A nm
  have r0 : ∀ i, i ≠ 135 → R' 0 i = R 0 i := fun i hi => by rw [e, ux_i _ _ _ hi, ux_c _ _ _ _ (by decide)]
  have rg : ∀ q, q ≠ 0 → q ≠ 81 → R' q = R q := fun q x y => by rw [e, ux_g _ _ _ x, ux_g _ _ _ y]
  have r81 : ∀ i, R' 81 i = if i = A 261 14 then wd else R 81 i := fun i => by rw [e, ux_c _ _ _ _ (show (81 : Nat) ≠ 0 by decide), ux_v]
  refine ⟨by rw [v 16 (by decide), r0 133 (by decide)]; exact h1, by rw [v 3 (by decide), r0 134 (by decide)]; exact h2, by rw [v14, e, ux_s], fun i i0 i1 => ?_, fun i i0 i1 => ?_⟩
  · rw [v 16 (by decide)] at i1
    rw [g 272 (by decide) (by decide), g 273 (by decide) (by decide), rg 80 (by decide) (by decide), rg 83 (by decide) (by decide)]; exact h4 i i0 i1
  · rw [v14] at i1
    rw [n, r81]
    by_cases w : i = A 261 14
    · rw [if_pos w, if_pos w]; exact hn
    · rw [if_neg w, if_neg w]; exact h5 i i0 (by omega)
theorem RUn_R {A R R' : MM} {nm wd : Int} (h : RUn A R) (hn : nr nm wd) (e : R' = ux_ (ux_ (ux_ R 80 (A 261 16) wd) 83 (A 261 16) 0) 0 133 (A 261 16 + 1)) (n0 : 0 ≤ A 261 16) : RUn (adR A nm) R' := by
  obtain ⟨h1, h2, h3, h4, h5⟩ := h
  obtain ⟨v, v14, g, n, n3⟩ := adR_v A nm
  have r0 : ∀ i, i ≠ 133 → R' 0 i = R 0 i := fun i hi => by rw [e, ux_i _ _ _ hi, ux_c _ _ _ _ (by decide), ux_c _ _ _ _ (by decide)]
  have rg : R' 81 = R 81 := by rw [e, ux_g _ _ _ (by decide), ux_g _ _ _ (by decide), ux_g _ _ _ (by decide)]
  have r80 : ∀ i, R' 80 i = if i = A 261 16 then wd else R 80 i := fun i => by rw [e, ux_c _ _ _ _ (show (80 : Nat) ≠ 0 by decide), ux_c _ _ _ _ (show (80 : Nat) ≠ 83 by decide), ux_v]
  have r83 : ∀ i, R' 83 i = if i = A 261 16 then 0 else R 83 i := fun i => by rw [e, ux_c _ _ _ _ (show (83 : Nat) ≠ 0 by decide), ux_v, ux_c _ _ _ _ (show (83 : Nat) ≠ 80 by decide)]
  refine ⟨by rw [v14, e, ux_s], by rw [v 3 (by decide), r0 134 (by decide)]; exact h2, by rw [v 14 (by decide), r0 135 (by decide)]; exact h3, fun i i0 i1 => ?_, fun i i0 i1 => ?_⟩
  · rw [v14] at i1
    rw [n, n3, r80, r83]
    by_cases w : i = A 261 16
    · rw [if_pos w, if_pos w, if_pos w, if_pos w]; exact ⟨hn, rfl⟩
    · rw [if_neg w, if_neg w, if_neg w, if_neg w]; exact h4 i i0 (by omega)
  · rw [v 14 (by decide)] at i1
    rw [g 271 (by decide) (by decide) (by decide), rg]; exact h5 i i0 i1
set_option maxHeartbeats 800000 in
theorem q_rv {C0 R0 A R : MM} {E : Nat → Int} {L k : Nat} (hT : TX C0 R0 E L) (h : KRq C0 R0 E k A R) (hA : OKA C0 A) (hk : k ≤ L) (hp : PLN C0 k) {Q : Int → MM → Prop} (h1 : ∀ j, 0 ≤ j → j < A 261 14 → A 271 j = C0 6 k → ∀ R', KRq C0 R0 E (k + 1) A R' → FA R R' → k + 1 ≤ L → Q j R') (h2 : (∀ j, 0 ≤ j → j < A 261 14 → A 271 j ≠ C0 6 k) → A 261 14 < 3 → ∀ R', KRq C0 R0 E (k + 1) (adV A (C0 6 k)) R' → FVr 81 81 135 R R' → k + 1 ≤ L → Q (A 261 14) R') (h3 : (∀ j, 0 ≤ j → j < A 261 14 → A 271 j ≠ C0 6 k) → A 261 14 = 3 → ∀ R', KRf R0 4 (C0 5 k) R' → (∀ j, j ≠ 0 → R' j = R j) → Q 0 R') : w_X12_readVariable Q R := by
  obtain ⟨hF, hW, h83, hU⟩ := id h
  have n0 := hA.2.2.2.2.1
  have n3 := hA.2.2.2.2.2.1
  have ht := hW.2.2
  rw [hp.1] at ht
  have hn := tk_nr ht
  have hw0 : C0 4 k ≠ 0 := by rw [hp.1]; decide
  have mt : ∀ j, 0 ≤ j → j < A 261 14 → (R 81 j = R 0 85 ↔ A 271 j = C0 6 k) := fun j a b => (nr_eq (hU.2.2.2.2 j a b) hn).symm
  have b126 : ∀ j, 0 ≤ j → j < A 261 14 → A 271 j = C0 6 k → w_X12_readVariable_b126 Q j R := fun j a b c => by
    unfold w_X12_readVariable_b126
    exact q_adv hT h hk hw0 (fun R' q1 q2 q3 => h1 j a b c R' q1 q2 q3)
  have b18 : w_X12_readVariable_b18 Q R := by
    unfold w_X12_readVariable_b18
    intro v1 e1 _
    refine ⟨fun _ => ?_, fun z => absurd (by rw [e1, h83]; decide) z⟩
    unfold w_X12_readVariable_b31
    refine loop3 _ (fun (x1 j : Int) M => R = M ∧ 0 ≤ j ∧ j ≤ A 261 14 ∧ ((x1 = -1 ∧ ∀ i, 0 ≤ i → i < j → A 271 i ≠ C0 6 k) ∨ (0 ≤ x1 ∧ x1 < j ∧ A 271 x1 = C0 6 k))) (fun _ (j : Int) _ => (A 261 14 - j).toNat) ?_ _ _ _ ⟨rfl, by omega, n0, Or.inl ⟨rfl, fun i a b => by omega⟩⟩
    rintro x1 j _ f ⟨rfl, j0, j1, hj⟩ ih
    unfold wb_X12_readVariable_b31
    intro v1 e1 _
    rw [← hU.2.2.1] at e1
    refine ⟨fun z => ⟨fun y => ?_, fun y v4 e4 _ => ?_⟩, fun z => ⟨j0, by omega, fun v9 e9 _ v10 e10 _ => ⟨fun y => ?_, fun y => ?_⟩⟩⟩
    · rcases hj with ⟨w, -⟩ | ⟨w1, w2, w3⟩
      · exact absurd w y
      · unfold w_X12_readVariable_b87
        intro v1 e1 _
        exact ⟨fun _ => ⟨fun _ => b126 x1 w1 (by omega) w3, fun q => absurd q y⟩, fun q => absurd (by rw [e1, h83]; decide) q⟩
    · rcases hj with ⟨-, w⟩ | ⟨w1, w2, w3⟩
      · have hno : ∀ i, 0 ≤ i → i < A 261 14 → A 271 i ≠ C0 6 k := fun i a b => w i a (by omega)
        rw [← hU.2.2.1] at e4
        refine ⟨fun q => ?_, fun q v6 e6 _ => q_fail h (fun R' k1 k2 => ?_)⟩
        · unfold w_X12_readVariable_b87
          intro v1 e1 _
          refine ⟨fun _ => ⟨fun u => absurd y u, fun _ v4' e4' _ v5 e5 _ => ?_⟩, fun u => absurd (by rw [e1, h83]; decide) u⟩
          rw [← hU.2.2.1] at e4'
          rw [e4']
          refine ⟨by omega, by omega, fun M6 e6 v7 e7 _ => ?_⟩
          rw [e6, ux_c _ _ _ _ (by decide), ← hU.2.2.1] at e7
          rw [e7]
          refine ⟨by unfold ri_; omega, fun M9 e9 => ?_⟩
          unfold w_X12_readVariable_b126
          have h9 : KRq C0 R0 E k (adV A (C0 6 k)) M9 := by
            refine ⟨by rw [e9, e6]; exact QFr_0 (QFr_u hF (by omega) (by omega) _ _) _ (by decide), ?_, by rw [e9, ux_i _ _ _ (by decide), e6, ux_c _ _ _ _ (by decide)]; exact h83, RUn_V hU (by rw [← e5] at hn; exact hn) (by rw [e9, e6]) n0⟩
            unfold Wr tk
            rw [e9, ux_i _ _ _ (by decide), ux_i _ _ _ (by decide), ux_i _ _ _ (by decide), ux_i _ _ _ (by decide), ux_g _ _ _ (by decide), e6, ux_g _ _ _ (by decide), ux_g _ _ _ (by decide)]
            exact hW
          refine q_adv hT h9 hk hw0 (fun R' q1 q2 q3 => h2 hno (by omega) R' q1 ⟨fun q a b _ => ?_, fun i hi hi0 => ?_⟩ q3)
          · rw [q2.1 q a, e9, ux_g _ _ _ a, e6, ux_g _ _ _ b]
          · rw [q2.2 i hi, e9, ux_i _ _ _ hi0, e6, ux_c _ _ _ _ (by decide)]
        · unfold w_X12_readVariable_b87
          intro v1 e1 _
          refine ⟨fun u => by rw [e1, k1.2.1] at u; omega, fun _ => h3 hno (by omega) R' ?_ k2⟩
          rw [← hW.2.1, ← e6]; exact k1
      · omega
    · unfold w_X12_readVariable_b58
      have ne : A 271 j ≠ C0 6 k := fun q => y (by rw [e9, e10]; exact (mt j j0 (by omega)).mpr q)
      refine ⟨by unfold ri_; omega, ih _ _ _ ⟨rfl, by omega, by omega, ?_⟩ (by omega)⟩
      rcases hj with ⟨w1, w2⟩ | ⟨w1, w2, w3⟩
      · refine Or.inl ⟨w1, fun i a b => ?_⟩
        by_cases u : i = j
        · rw [u]; exact ne
        · exact w2 i a (by omega)
      · exact Or.inr ⟨w1, by omega, w3⟩
    · unfold w_X12_readVariable_b58
      exact ⟨by unfold ri_; omega, ih _ _ _ ⟨rfl, by omega, by omega, Or.inr ⟨j0, by omega, (mt j j0 (by omega)).mp (by rw [← e9, ← e10]; exact y)⟩⟩ (by omega)⟩
  unfold w_X12_readVariable
  intro v1 e1 _
  exact ⟨fun z => absurd (by rw [e1]; exact h83) z, fun _ => q_plain h hA (fun _ _ => ⟨fun _ => b18, fun q => absurd q (by decide)⟩) (fun q => absurd hp q)⟩
theorem q_rvN {C0 R0 A R : MM} {E : Nat → Int} {k : Nat} (h : KRq C0 R0 E k A R) (hA : OKA C0 A) (hp : ¬ PLN C0 k) {Q : Int → MM → Prop} (h3 : ∀ R', KRf R0 (if C0 4 k = 1 then 2 else 1) (C0 5 k) R' → (∀ j, j ≠ 0 → R' j = R j) → Q 0 R') : w_X12_readVariable Q R := by
  unfold w_X12_readVariable
  intro v1 e1 _
  refine ⟨fun z => absurd (by rw [e1]; exact h.2.2.1) z, fun _ => q_plain h hA (fun q => absurd q hp) (fun _ _ => ⟨fun q => absurd rfl q, fun _ => q_wrong h (fun R' k1 k2 => ?_)⟩)⟩
  unfold w_X12_readVariable_b18
  intro v2 e2 _
  exact ⟨fun z => by rw [e2, k1.2.1] at z; have := flt_pos (W := C0 4 k); omega, fun _ => h3 R' k1 k2⟩
theorem q_rvF {R0 R : MM} {f pl : Int} (h : KRf R0 f pl R) (f0 : 0 < f) {Q : Int → MM → Prop} (h0 : Q 0 R) : w_X12_readVariable Q R := by
  unfold w_X12_readVariable w_X12_readVariable_b18
  intro v1 e1 _
  exact ⟨fun _ v2 e2 _ => ⟨fun z => by rw [e2, h.2.1] at z; omega, fun _ => h0⟩, fun z => by rw [e1, h.2.1] at z; omega⟩
set_option maxHeartbeats 800000 in
theorem q_rel {C0 R0 A R : MM} {E : Nat → Int} {k : Nat} (h : KRq C0 R0 E k A R) (hA : OKA C0 A) (hp : C0 4 k = 2) {Q : Int → MM → Prop} (h1 : ∀ j, 0 ≤ j → j < A 261 16 → A 272 j = C0 6 k → Q j R) (h2 : (∀ j, 0 ≤ j → j < A 261 16 → A 272 j ≠ C0 6 k) → A 261 16 < 6 → ∀ R', KRq C0 R0 E k (adR A (C0 6 k)) R' → FVr 80 83 133 R R' → Q (A 261 16) R') (h3 : (∀ j, 0 ≤ j → j < A 261 16 → A 272 j ≠ C0 6 k) → A 261 16 = 6 → ∀ R', KRf R0 4 (C0 5 k) R' → (∀ j, j ≠ 0 → R' j = R j) → Q 0 R') : w_X12_relationAtHand Q R := by
  obtain ⟨hF, hW, h83, hU⟩ := id h
  have n0 := hA.1
  have n3 := hA.2.1
  have ht := hW.2.2
  rw [hp] at ht
  have hn := tk_nr ht
  have mt : ∀ j, 0 ≤ j → j < A 261 16 → (R 80 j = R 0 85 ↔ A 272 j = C0 6 k) := fun j a b => (nr_eq (hU.2.2.2.1 j a b).1 hn).symm
  unfold w_X12_relationAtHand w_X12_relationAtHand_b4
  refine loop3 _ (fun (x1 j : Int) M => R = M ∧ 0 ≤ j ∧ j ≤ A 261 16 ∧ ((x1 = -1 ∧ ∀ i, 0 ≤ i → i < j → A 272 i ≠ C0 6 k) ∨ (0 ≤ x1 ∧ x1 < j ∧ A 272 x1 = C0 6 k))) (fun _ (j : Int) _ => (A 261 16 - j).toNat) ?_ _ _ _ ⟨rfl, by omega, n0, Or.inl ⟨rfl, fun i a b => by omega⟩⟩
  rintro x1 j _ f ⟨rfl, j0, j1, hj⟩ ih
  unfold wb_X12_relationAtHand_b4
  intro v1 e1 _
  rw [← hU.1] at e1
  refine ⟨fun z => ⟨fun y v4 e4 _ => ?_, fun y => ?_⟩, fun z => ⟨j0, by omega, fun v9 e9 _ v10 e10 _ => ⟨fun y => ?_, fun y => ?_⟩⟩⟩
  · rcases hj with ⟨-, w⟩ | ⟨w1, w2, w3⟩
    · have hno : ∀ i, 0 ≤ i → i < A 261 16 → A 272 i ≠ C0 6 k := fun i a b => w i a (by omega)
      rw [← hU.1] at e4
      refine ⟨fun q => ?_, fun q v6 e6 _ => q_fail h (fun R' k1 k2 => ?_)⟩
      · unfold w_X12_relationAtHand_b63
        intro v1 e1 _
        refine ⟨fun _ v3 e3 _ v4' e4' _ => ?_, fun u => absurd (by rw [e1, h83]; decide) u⟩
        rw [← hU.1] at e3
        rw [e3]
        refine ⟨by omega, by omega, fun M5 e5 v6 e6 _ => ?_⟩
        rw [e5, ux_c _ _ _ _ (by decide), ← hU.1] at e6
        rw [e6]
        refine ⟨by omega, by omega, fun M7 e7 v8 e8 _ => ?_⟩
        rw [e7, ux_c _ _ _ _ (by decide), e5, ux_c _ _ _ _ (by decide), ← hU.1] at e8
        rw [e8]
        refine ⟨by unfold ri_; omega, fun M10 e10 v11 e11 _ => ⟨by rw [e10, ux_s] at e11; unfold ri_; omega, ?_⟩⟩
        rw [e10, ux_s] at e11
        rw [e11, show A 261 16 + 1 - 1 = A 261 16 from by omega]
        refine h2 hno (by omega) M10 ⟨by rw [e10, e7, e5]; exact QFr_0 (QFr_u (QFr_u hF (by omega) (by omega) _ _) (by omega) (by omega) _ _) _ (by decide), ?_, ?_, RUn_R hU (by rw [← e4'] at hn; exact hn) (by rw [e10, e7, e5]) n0⟩ ⟨fun q a b c => ?_, fun i hi hi0 => ?_⟩
        · unfold Wr tk
          rw [e10, ux_i _ _ _ (by decide), ux_i _ _ _ (by decide), ux_i _ _ _ (by decide), ux_i _ _ _ (by decide), ux_g _ _ _ (by decide), e7, ux_g _ _ _ (by decide), ux_g _ _ _ (by decide), e5, ux_g _ _ _ (by decide), ux_g _ _ _ (by decide)]
          exact hW
        · rw [e10, ux_i _ _ _ (by decide), e7, ux_c _ _ _ _ (by decide), e5, ux_c _ _ _ _ (by decide)]; exact h83
        · rw [e10, ux_g _ _ _ a, e7, ux_g _ _ _ c, e5, ux_g _ _ _ b]
        · rw [e10, ux_i _ _ _ hi0, e7, ux_c _ _ _ _ (by decide), e5, ux_c _ _ _ _ (by decide)]
      · unfold w_X12_relationAtHand_b63
        intro v1 e1 _
        refine ⟨fun u => by rw [e1, k1.2.1] at u; omega, fun _ => h3 hno (by omega) R' ?_ k2⟩
        rw [← hW.2.1, ← e6]; exact k1
    · omega
  · rcases hj with ⟨w, -⟩ | ⟨w1, w2, w3⟩
    · exact absurd w y
    · exact h1 x1 w1 (by omega) w3
  · unfold w_X12_relationAtHand_b31
    have ne : A 272 j ≠ C0 6 k := fun q => y (by rw [e9, e10]; exact (mt j j0 (by omega)).mpr q)
    refine ⟨by unfold ri_; omega, ih _ _ _ ⟨rfl, by omega, by omega, ?_⟩ (by omega)⟩
    rcases hj with ⟨w1, w2⟩ | ⟨w1, w2, w3⟩
    · refine Or.inl ⟨w1, fun i a b => ?_⟩
      by_cases u : i = j
      · rw [u]; exact ne
      · exact w2 i a (by omega)
    · exact Or.inr ⟨w1, by omega, w3⟩
  · unfold w_X12_relationAtHand_b31
    exact ⟨by unfold ri_; omega, ih _ _ _ ⟨rfl, by omega, by omega, Or.inr ⟨j0, by omega, (mt j j0 (by omega)).mp (by rw [← e9, ← e10]; exact y)⟩⟩ (by omega)⟩
