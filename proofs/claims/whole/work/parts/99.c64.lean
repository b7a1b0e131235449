/-! rules are read: variables, relations and pairs, together -/
def AVe (A A' : MM) : Prop := (∀ q, q ≠ 261 → q ≠ 271 → A' q = A q) ∧ (∀ i, i ≠ 14 → A' 261 i = A 261 i) ∧ A 261 14 ≤ A' 261 14
def ARe (A A' : MM) : Prop := (∀ q, q ≠ 261 → q ≠ 272 → q ≠ 273 → A' q = A q) ∧ (∀ i, i ≠ 16 → A' 261 i = A 261 i) ∧ A 261 16 ≤ A' 261 16 ∧ ∀ i, 0 ≤ i → i < A 261 16 → A' 273 i = A 273 i
theorem J_v2 {C0 R0 A : MM} {E : Nat → Int} {L k : Nat} (hT : TX C0 R0 E L) (hk : k ≤ L) (hA : OKA C0 A) (hp : PLN C0 k) :
    (∃ v A', OKA C0 A' ∧ 0 ≤ v ∧ v < A' 261 14 ∧ AVe A A' ∧ k + 1 ≤ L ∧ (∀ kc C, KC C0 kc A C → ∀ Q : Int → MM → Prop, (∀ C', KC C0 kc A' C' → Q v C') → w_X7_variableOf Q (C0 6 k) C) ∧ (∀ R, KRq C0 R0 E k A R → ∀ Q : Int → MM → Prop, (∀ R', KRq C0 R0 E (k + 1) A' R' → FVr 81 81 135 R R' → Q v R') → w_X12_readVariable Q R)) ∨
    ((∀ kc C, KC C0 kc A C → ∀ Q : Int → MM → Prop, Q (-1) C → w_X7_variableOf Q (C0 6 k) C) ∧ (∀ R, KRq C0 R0 E k A R → ∀ Q : Int → MM → Prop, (∀ R', KRf R0 4 (C0 5 k) R' → (∀ j, j ≠ 0 → R' j = R j) → Q 0 R') → w_X12_readVariable Q R)) := by
  have n0 := hA.2.2.2.2.1
  have n3 := hA.2.2.2.2.2.1
  have d := hA.2.2.2.2.2.2.1
  have k1 := TX_lt hT hk (by rw [hp.1]; decide)
  rcases fnd (A 271) (C0 6 k) (A 261 14).toNat with ⟨j, j0, j1, j2, j3⟩ | hno
  · have j1' : j < A 261 14 := by omega
    refine Or.inl ⟨j, A, hA, j0, j1', ⟨fun _ _ _ => rfl, fun _ _ => rfl, Int.le_refl _⟩, k1, fun kc C hC Q hq => ?_, fun R hR Q hq => ?_⟩
    · exact k_var hC hA (fun i i0 i1 i2 _ => by rw [d i j i0 i1 j0 j1' (by rw [i2, j2])]; exact hq C hC) (fun w => absurd j2 (w j j0 j1')) (fun w => absurd j2 (w j j0 j1'))
    · exact q_rv hT hR hA hk hp (fun i i0 i1 i2 R' q1 q2 _ => by rw [d i j i0 i1 j0 j1' (by rw [i2, j2])]; exact hq R' q1 ⟨fun q a _ _ => q2.1 q a, fun i hi _ => q2.2 i hi⟩) (fun w => absurd j2 (w j j0 j1')) (fun w => absurd j2 (w j j0 j1'))
  · have hno' : ∀ j, 0 ≤ j → j < A 261 14 → A 271 j ≠ C0 6 k := fun j a b => hno j a (by omega)
    by_cases z : A 261 14 < 3
    · obtain ⟨v, v14, g, n⟩ := adV_v A (C0 6 k)
      refine Or.inl ⟨A 261 14, adV A (C0 6 k), OKA_V hA hno' z, n0, by omega, ⟨g, v, by omega⟩, k1, fun kc C hC Q hq => ?_, fun R hR Q hq => ?_⟩
      · exact k_var hC hA (fun i i0 i1 i2 _ => absurd i2 (hno' i i0 i1)) (fun _ _ C' h' => hq C' h') (fun _ w => by omega)
      · exact q_rv hT hR hA hk hp (fun i i0 i1 i2 => absurd i2 (hno' i i0 i1)) (fun _ _ R' q1 q2 _ => hq R' q1 q2) (fun _ w => by omega)
    · refine Or.inr ⟨fun kc C hC Q hq => ?_, fun R hR Q hq => ?_⟩
      · exact k_var hC hA (fun i i0 i1 i2 _ => absurd i2 (hno' i i0 i1)) (fun _ w => by omega) (fun _ _ => hq)
      · exact q_rv hT hR hA hk hp (fun i i0 i1 i2 => absurd i2 (hno' i i0 i1)) (fun _ w => by omega) (fun _ _ R' q1 q2 => hq R' q1 q2)
theorem J_v {C0 R0 A : MM} {E : Nat → Int} {L k : Nat} (hT : TX C0 R0 E L) (hk : k ≤ L) (hA : OKA C0 A) :
    (∃ v A', OKA C0 A' ∧ 0 ≤ v ∧ v < A' 261 14 ∧ AVe A A' ∧ k + 1 ≤ L ∧ (∀ C, KC C0 k A C → ∀ Q : Int → MM → Prop, (∀ C', KC C0 (k + 1) A' C' → Q v C') → w_X7_readVariable Q C) ∧ (∀ R, KRq C0 R0 E k A R → ∀ Q : Int → MM → Prop, (∀ R', KRq C0 R0 E (k + 1) A' R' → FVr 81 81 135 R R' → Q v R') → w_X12_readVariable Q R)) ∨
    ∃ f pl, 0 < f ∧ (∀ C, KC C0 k A C → ∀ Q : Int → MM → Prop, (∀ C', KF C0 f pl C' → Q (-1) C') → w_X7_readVariable Q C) ∧ (∀ R, KRq C0 R0 E k A R → ∀ Q : Int → MM → Prop, (∀ R', KRf R0 f pl R' → (∀ j, j ≠ 0 → R' j = R j) → Q 0 R') → w_X12_readVariable Q R) := by
  by_cases hp : PLN C0 k
  · rcases J_v2 hT hk hA hp with ⟨v, A', a1, a2, a3, a4, a5, cC, rR⟩ | ⟨cC, rR⟩
    · refine Or.inl ⟨v, A', a1, a2, a3, a4, a5, fun C hC Q hq => ?_, rR⟩
      unfold w_X7_readVariable
      refine k_plain hC hA (fun _ _ => ⟨fun _ v4 e4 _ => ?_, fun q => absurd q (by decide)⟩) (fun q => absurd hp q)
      rw [hC.2.1.2.2.1] at e4
      rw [e4]
      exact cC k C hC _ (fun C' h' _ => ⟨fun _ => k_next hT.1 h' hk (by rw [hp.1]; decide) hq, fun q => by omega⟩)
    · refine Or.inr ⟨4, C0 5 k, by decide, fun C hC Q hq => ?_, rR⟩
      unfold w_X7_readVariable
      refine k_plain hC hA (fun _ _ => ⟨fun _ v4 e4 _ => ?_, fun q => absurd q (by decide)⟩) (fun q => absurd hp q)
      rw [hC.2.1.2.2.1] at e4
      rw [e4]
      refine cC k C hC _ (fun _ => ⟨fun q => absurd rfl q, fun _ v10 e10 _ => ?_⟩)
      rw [hC.2.1.2.1] at e10
      rw [e10]
      exact k_fail hC (fun C' h' _ => hq C' h')
  · refine Or.inr ⟨if C0 4 k = 1 then 2 else 1, C0 5 k, flt_pos, fun C hC Q hq => ?_, fun R hR Q hq => q_rvN hR hA hp hq⟩
    unfold w_X7_readVariable
    exact k_plain hC hA (fun q => absurd q hp) (fun _ _ => ⟨fun q => absurd rfl q, fun _ => k_refuse hC (fun C' h' _ => hq C' h')⟩)
theorem J_r {C0 R0 A : MM} {E : Nat → Int} {k : Nat} (hA : OKA C0 A) (hp : C0 4 k = 2) :
    (∃ v A', OKA C0 A' ∧ 0 ≤ v ∧ v < A' 261 16 ∧ ARe A A' ∧ (∀ kc C, KC C0 kc A C → ∀ Q : Int → MM → Prop, (∀ C', KC C0 kc A' C' → Q v C') → w_X7_relationOf Q (C0 6 k) C) ∧ (∀ R, KRq C0 R0 E k A R → ∀ Q : Int → MM → Prop, (∀ R', KRq C0 R0 E k A' R' → FVr 80 83 133 R R' → Q v R') → w_X12_relationAtHand Q R)) ∨
    ((∀ kc C, KC C0 kc A C → ∀ Q : Int → MM → Prop, Q (-1) C → w_X7_relationOf Q (C0 6 k) C) ∧ (∀ R, KRq C0 R0 E k A R → ∀ Q : Int → MM → Prop, (∀ R', KRf R0 4 (C0 5 k) R' → (∀ j, j ≠ 0 → R' j = R j) → Q 0 R') → w_X12_relationAtHand Q R)) := by
  have n0 := hA.1
  have n3 := hA.2.1
  have d := hA.2.2.2.2.2.2.2.1
  rcases fnd (A 272) (C0 6 k) (A 261 16).toNat with ⟨j, j0, j1, j2, j3⟩ | hno
  · have j1' : j < A 261 16 := by omega
    refine Or.inl ⟨j, A, hA, j0, j1', ⟨fun _ _ _ _ => rfl, fun _ _ => rfl, Int.le_refl _, fun _ _ _ => rfl⟩, fun kc C hC Q hq => ?_, fun R hR Q hq => ?_⟩
    · exact k_rel hC hA (fun i i0 i1 i2 _ => by rw [d i j i0 i1 j0 j1' (by rw [i2, j2])]; exact hq C hC) (fun w => absurd j2 (w j j0 j1')) (fun w => absurd j2 (w j j0 j1'))
    · exact q_rel hR hA hp (fun i i0 i1 i2 => by rw [d i j i0 i1 j0 j1' (by rw [i2, j2])]; exact hq R hR ⟨fun _ _ _ _ => rfl, fun _ _ _ => rfl⟩) (fun w => absurd j2 (w j j0 j1')) (fun w => absurd j2 (w j j0 j1'))
  · have hno' : ∀ j, 0 ≤ j → j < A 261 16 → A 272 j ≠ C0 6 k := fun j a b => hno j a (by omega)
    by_cases z : A 261 16 < 6
    · obtain ⟨v, v14, g, n, n3'⟩ := adR_v A (C0 6 k)
      refine Or.inl ⟨A 261 16, adR A (C0 6 k), OKA_R hA hno' z, n0, by omega, ⟨g, v, by omega, fun i i0 i1 => by rw [n3', if_neg (by omega)]⟩, fun kc C hC Q hq => ?_, fun R hR Q hq => ?_⟩
      · exact k_rel hC hA (fun i i0 i1 i2 _ => absurd i2 (hno' i i0 i1)) (fun _ _ C' h' => hq C' h') (fun _ w => by omega)
      · exact q_rel hR hA hp (fun i i0 i1 i2 => absurd i2 (hno' i i0 i1)) (fun _ _ R' q1 q2 => hq R' q1 q2) (fun _ w => by omega)
    · refine Or.inr ⟨fun kc C hC Q hq => ?_, fun R hR Q hq => ?_⟩
      · exact k_rel hC hA (fun i i0 i1 i2 _ => absurd i2 (hno' i i0 i1)) (fun _ w => by omega) (fun _ _ => hq)
      · exact q_rel hR hA hp (fun i i0 i1 i2 => absurd i2 (hno' i i0 i1)) (fun _ w => by omega) (fun _ _ R' q1 q2 => hq R' q1 q2)
