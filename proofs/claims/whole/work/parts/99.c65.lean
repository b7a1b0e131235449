/-! rules are read: what stands behind a relation's name, on both sides -/
def APe (A A' : MM) (p3 p4 : Nat) (i0 v : Int) : Prop := (∀ q, q ≠ 261 → q ≠ 271 → q ≠ 273 → q ≠ p3 → q ≠ p4 → A' q = A q) ∧ (∀ i, i ≠ i0 → A' p3 i = A p3 i ∧ A' p4 i = A p4 i) ∧ (∀ i, i ≠ 14 → A' 261 i = A 261 i) ∧ A 261 14 ≤ A' 261 14 ∧ ∀ i, i ≠ v ∨ A 273 i ≠ 0 → A' 273 i = A 273 i
def FPl (R R' : MM) : Prop := (∀ q, q ≠ 0 → q ≠ 81 → q ≠ 83 → R' q = R q) ∧ ∀ i, i ∉ ([78, 79, 80, 83, 84, 85, 135, 136, 137] : List Int) → R' 0 i = R 0 i
theorem KRq_0 {C0 R0 A R : MM} {E : Nat → Int} {k : Nat} (h : KRq C0 R0 E k A R) {i : Int} (v : Int) (hi : i = 136 ∨ i = 137) : KRq C0 R0 E k A (ux_ R 0 i v) := by
  obtain ⟨hF, hW, h83, hU⟩ := h
  refine ⟨QFr_0 hF _ (by rcases hi with rfl | rfl <;> decide), ?_, by rw [ux_i _ _ _ (by omega)]; exact h83, RUn_e hU (fun j hj => ux_i _ _ _ (by simp only [List.mem_cons, List.not_mem_nil, or_false] at hj; omega)) (fun q hq => ux_g _ _ _ (by omega))⟩
  unfold Wr tk
  rw [ux_i _ _ _ (by omega), ux_i _ _ _ (by omega), ux_i _ _ _ (by omega), ux_i _ _ _ (by omega), ux_g _ _ _ (by decide)]
  exact hW
theorem KRq_w {C0 R0 A A' R : MM} {E : Nat → Int} {k : Nat} (h : KRq C0 R0 E k A R) {q : Nat} (q0 : 84 ≤ q) (q1 : q ≤ 92) (i v : Int) (e0 : ∀ j, j = 3 ∨ j = 14 ∨ j = 16 → A' 261 j = A 261 j) (e : ∀ p, p = 271 ∨ p = 272 ∨ p = 273 → A' p = A p) : KRq C0 R0 E k A' (ux_ R q i v) := by
  obtain ⟨hF, hW, h83, hU⟩ := h
  refine ⟨QFr_u hF (by omega) q1 _ _, ?_, by rw [ux_g _ _ _ (by omega)]; exact h83, RUn_A (RUn_e hU (fun j hj => by rw [ux_g _ _ _ (by omega)]) (fun p hp => ux_g _ _ _ (by omega))) e0 e⟩
  unfold Wr tk
  rw [ux_g _ _ _ (by omega), ux_g _ _ _ (by omega)]
  exact hW
theorem KRq_A {C0 R0 A A' R : MM} {E : Nat → Int} {k : Nat} (h : KRq C0 R0 E k A R) (e0 : ∀ j, j = 3 ∨ j = 14 ∨ j = 16 → A' 261 j = A 261 j) (e : ∀ p, p = 271 ∨ p = 272 ∨ p = 273 → A' p = A p) : KRq C0 R0 E k A' R := ⟨h.1, h.2.1, h.2.2.1, RUn_A h.2.2.2 e0 e⟩
theorem k_pass {C0 A C : MM} {E : Nat → Int} {L k : Nat} (hT : TKS C0 E L) (h : KC C0 k A C) (hk : k ≤ L) {x : Int} (hx : x ≠ 0) {Q : Int → MM → Prop} (h1 : C0 4 k = x → ∀ C', KC C0 (k + 1) A C' → Q 1 C') (h0 : C0 4 k ≠ x → ∀ C', KF C0 (if C0 4 k = 1 then 2 else 1) (C0 5 k) C' → Q 0 C') : w_X7_pass Q x C := by
  unfold w_X7_pass
  intro v1 e1 _
  rw [h.2.1.1] at e1
  exact ⟨fun z => k_next hT h hk (by omega) (h1 (by omega)), fun z => k_refuse h (fun C' h' _ => h0 (by omega) C' h')⟩
theorem OKA_3 {C0 A : MM} {v x : Int} (h : OKA C0 A) (hx : x = 1 ∨ x = 2) : OKA C0 (ux_ A 273 v x) := by
  obtain ⟨a1, a2, a3, a4, a5, a6, a7, a8, a9, a10, a11, a12, a13⟩ := h
  unfold OKA
  rw [ux_g _ _ _ (show (261 : Nat) ≠ 273 by decide), ux_g _ _ _ (show (271 : Nat) ≠ 273 by decide), ux_g _ _ _ (show (272 : Nat) ≠ 273 by decide)]
  refine ⟨a1, a2, a3, a4, a5, a6, a7, a8, a9, a10, a11, a12, fun i i0 i1 => ?_⟩
  rw [ux_v]
  by_cases w : i = v
  · rw [if_pos w]; omega
  · rw [if_neg w]; exact a13 i i0 i1
theorem RUn_3 {A R : MM} {v x : Int} (h : RUn A R) : RUn (ux_ A 273 v x) (ux_ R 83 v x) := by
  obtain ⟨h1, h2, h3, h4, h5⟩ := h
  unfold RUn
  rw [ux_g _ _ _ (show (261 : Nat) ≠ 273 by decide), ux_g _ _ _ (show (0 : Nat) ≠ 83 by decide), ux_g _ _ _ (show (271 : Nat) ≠ 273 by decide), ux_g _ _ _ (show (272 : Nat) ≠ 273 by decide), ux_g _ _ _ (show (80 : Nat) ≠ 83 by decide), ux_g _ _ _ (show (81 : Nat) ≠ 83 by decide)]
  refine ⟨h1, h2, h3, fun i i0 i1 => ⟨(h4 i i0 i1).1, ?_⟩, h5⟩
  rw [ux_v, ux_v]
  by_cases w : i = v
  · rw [if_pos w, if_pos w]
  · rw [if_neg w, if_neg w]; exact (h4 i i0 i1).2
theorem KRq_3 {C0 R0 A R : MM} {E : Nat → Int} {k : Nat} (h : KRq C0 R0 E k A R) (v x : Int) : KRq C0 R0 E k (ux_ A 273 v x) (ux_ R 83 v x) := by
  obtain ⟨hF, hW, h83, hU⟩ := h
  refine ⟨QFr_u hF (by omega) (by omega) _ _, ?_, by rw [ux_g _ _ _ (by decide)]; exact h83, RUn_3 hU⟩
  unfold Wr tk
  rw [ux_g _ _ _ (by decide), ux_g _ _ _ (by decide)]
  exact hW
/-- the second variable, or the end of a pair -/
theorem J_p2 {C0 R0 A : MM} {E : Nat → Int} {L k : Nat} (hT : TX C0 R0 E L) (hk : k ≤ L) (hA : OKA C0 A) (p3 p4 np : Nat) (hp : 262 ≤ p4 ∧ p4 ≤ 270) (i0 : Int) (a0 : 0 ≤ i0) (a1 : i0 < np) (m : Int) (hm : m = 1 ∧ C0 4 k = 5 ∨ m = 2 ∧ C0 4 k = 8) :
    (∃ k' A' vb rb, k' ≤ L ∧ OKA C0 A' ∧ (m = 1 ∧ rb = -1 ∧ A' = A ∨ m = 2 ∧ rb = vb ∧ 0 ≤ vb ∧ vb < A' 261 14 ∧ A' p4 i0 = vb) ∧ (∀ q, q ≠ 261 → q ≠ 271 → q ≠ p4 → A' q = A q) ∧ (∀ i, i ≠ i0 → A' p4 i = A p4 i) ∧ (∀ i, i ≠ 14 → A' 261 i = A 261 i) ∧ A 261 14 ≤ A' 261 14 ∧ (∀ C, KC C0 k A C → ∀ Q : Int → MM → Prop, (∀ C', KC C0 k' A' C' → Q 1 C') → w_X7_readPair_b131 p3 np p4 np Q i0 m C) ∧ (∀ R, KRq C0 R0 E k A R → R 0 137 = -1 → ∀ Q : Int → MM → Prop, (∀ R', KRq C0 R0 E k' A' R' → R' 0 136 = R 0 136 → R' 0 137 = rb → FPl R R' → Q 0 R') → w_X12_readPlaces_b126 Q R)) ∨
    ∃ f pl, 0 < f ∧ (∀ C, KC C0 k A C → ∀ Q : Int → MM → Prop, (∀ C', KF C0 f pl C' → Q 0 C') → w_X7_readPair_b131 p3 np p4 np Q i0 m C) ∧ (∀ R, KRq C0 R0 E k A R → ∀ Q : Int → MM → Prop, (∀ R', KRf R0 f pl R' → Q 0 R') → w_X12_readPlaces_b126 Q R) := by
  rcases hm with ⟨m1, w5⟩ | ⟨m2, w8⟩
  · have k1 := TX_lt hT hk (by omega)
    refine Or.inl ⟨k + 1, A, 0, -1, k1, hA, Or.inl ⟨m1, rfl, rfl⟩, fun _ _ _ _ => rfl, fun _ _ => rfl, fun _ _ => rfl, Int.le_refl _, fun C hC Q hq => ?_, fun R hR h137 Q hq => ?_⟩
    · unfold w_X7_readPair_b131
      exact k_next hT.1 hC hk (by omega) (fun C' h' => ⟨fun z => absurd m1 z, fun _ => hq C' h'⟩)
    · unfold w_X12_readPlaces_b126 w_X12_readPlaces_b144
      refine q_take hT hR hk (x := 4) (by decide) rfl (fun z => by omega) (fun _ _ => ⟨fun _ => ?_, fun q => absurd rfl q⟩)
      refine q_need hT hR hk (x := 1) (by decide) rfl (fun _ R' q1 q2 _ => hq R' q1 (q2.2 136 (by decide)) (by rw [q2.2 137 (by decide)]; exact h137) ⟨fun q a _ _ => q2.1 q a, fun i hi => q2.2 i (by simp only [List.mem_cons, List.not_mem_nil, or_false] at hi ⊢; omega)⟩) (fun z => absurd w5 z)
  · have k1 := TX_lt hT hk (by omega)
    rcases J_v hT k1 hA with ⟨vb, A', o1, o2, o3, ⟨o4, o5, o6⟩, k2, cC, rR⟩ | ⟨f, pl, f0, cC, rR⟩
    · obtain ⟨A2, eA⟩ : ∃ A2, A2 = ux_ A' p4 i0 vb := ⟨_, rfl⟩
      have ag : ∀ q, q ≠ p4 → A2 q = A' q := fun q hq => by rw [eA, ux_g _ _ _ hq]
      have oA2 : OKA C0 A2 := OKA_e o1 (fun i _ => by rw [ag 261 (by omega)]) (fun q hq => ag q (by omega))
      by_cases w5 : C0 4 (k + 1 + 1 : Nat) = 5
      · have k3 := TX_lt hT k2 (by omega)
        refine Or.inl ⟨k + 1 + 1 + 1, A2, vb, vb, k3, oA2, Or.inr ⟨m2, rfl, o2, by rw [ag 261 (by omega)]; exact o3, by rw [eA, ux_s]⟩, fun q a b c => by rw [ag q c, o4 q a b], fun i hi => by rw [eA, ux_i _ _ _ hi, o4 p4 (by omega) (by omega)], fun i hi => by rw [ag 261 (by omega)]; exact o5 i hi, by rw [ag 261 (by omega)]; exact o6, fun C hC Q hq => ?_, fun R hR h137 Q hq => ?_⟩
        · unfold w_X7_readPair_b131
          refine k_next hT.1 hC hk (by omega) (fun C1 h1 => ⟨fun _ => cC C1 h1 _ (fun C2 h2 _ => ⟨a0, a1, fun M6 e6 => ⟨a0, a1, fun v7 e7 _ => ?_⟩⟩), fun z => by omega⟩)
          rw [e6, ux_s] at e7
          have h6 : KC C0 (k + 1 + 1) A2 M6 := by rw [e6, eA]; exact KC_u h2 (by omega) (by omega) _ _
          exact ⟨fun z => by omega, fun _ => k_pass hT.1 h6 k2 (by decide) (fun _ C3 h3 _ => ⟨fun q => absurd q (by decide), fun _ => hq C3 h3⟩) (fun z => absurd w5 z)⟩
        · unfold w_X12_readPlaces_b126
          refine q_take hT hR hk (x := 4) (by decide) rfl (fun _ R1 q1 q2 _ _ => ⟨fun q => absurd q (by decide), fun _ => rR R1 q1 _ (fun R2 q3 q4 _ M6 e6 => ?_)⟩) (fun z => absurd w8 z)
          have h6 : KRq C0 R0 E (k + 1 + 1) A' M6 := by rw [e6]; exact KRq_0 q3 _ (Or.inr rfl)
          unfold w_X12_readPlaces_b144
          refine q_need hT h6 k2 (x := 1) (by decide) rfl (fun _ R3 q5 q6 _ => hq R3 (KRq_A q5 (fun j _ => by rw [ag 261 (by omega)]) (fun q hq => ag q (by omega))) ?_ ?_ ⟨fun q a b c => ?_, fun i hi => ?_⟩) (fun z => absurd w5 z)
          · rw [q6.2 136 (by decide), e6, ux_i _ _ _ (by decide), q4.2 136 (by decide) (by decide), q2.2 136 (by decide)]
          · rw [q6.2 137 (by decide), e6, ux_s]
          · rw [q6.1 q a, e6, ux_g _ _ _ a, q4.1 q a b b, q2.1 q a]
          · simp only [List.mem_cons, List.not_mem_nil, or_false] at hi
            rw [q6.2 i (by simp only [List.mem_cons, List.not_mem_nil, or_false]; omega), e6, ux_i _ _ _ (by omega), q4.2 i (by simp only [List.mem_cons, List.not_mem_nil, or_false]; omega) (by omega), q2.2 i (by simp only [List.mem_cons, List.not_mem_nil, or_false]; omega)]
      · refine Or.inr ⟨if C0 4 (k + 1 + 1 : Nat) = 1 then 2 else 1, C0 5 (k + 1 + 1 : Nat), flt_pos, fun C hC Q hq => ?_, fun R hR Q hq => ?_⟩
        · unfold w_X7_readPair_b131
          refine k_next hT.1 hC hk (by omega) (fun C1 h1 => ⟨fun _ => cC C1 h1 _ (fun C2 h2 _ => ⟨a0, a1, fun M6 e6 => ⟨a0, a1, fun v7 e7 _ => ?_⟩⟩), fun z => by omega⟩)
          rw [e6, ux_s] at e7
          have h6 : KC C0 (k + 1 + 1) A2 M6 := by rw [e6, eA]; exact KC_u h2 (by omega) (by omega) _ _
          exact ⟨fun z => by omega, fun _ => k_pass hT.1 h6 k2 (by decide) (fun z => absurd z w5) (fun _ C3 h3 _ => ⟨fun _ => hq C3 h3, fun q => absurd rfl q⟩)⟩
        · unfold w_X12_readPlaces_b126
          refine q_take hT hR hk (x := 4) (by decide) rfl (fun _ R1 q1 q2 _ _ => ⟨fun q => absurd q (by decide), fun _ => rR R1 q1 _ (fun R2 q3 q4 _ M6 e6 => ?_)⟩) (fun z => absurd w8 z)
          have h6 : KRq C0 R0 E (k + 1 + 1) A' M6 := by rw [e6]; exact KRq_0 q3 _ (Or.inr rfl)
          unfold w_X12_readPlaces_b144
          exact q_need hT h6 k2 (x := 1) (by decide) rfl (fun z => absurd z w5) (fun _ R3 q5 _ => hq R3 q5)
    · refine Or.inr ⟨f, pl, f0, fun C hC Q hq => ?_, fun R hR Q hq => ?_⟩
      · unfold w_X7_readPair_b131
        refine k_next hT.1 hC hk (by omega) (fun C1 h1 => ⟨fun _ => cC C1 h1 _ (fun C2 h2 _ => ⟨a0, a1, fun M6 e6 => ⟨a0, a1, fun v7 e7 _ => ?_⟩⟩), fun z => by omega⟩)
        rw [e6, ux_s] at e7
        refine ⟨fun _ => hq M6 ?_, fun z => absurd e7 z⟩
        rw [e6]
        exact ⟨⟨fun q a b => by rw [ux_g _ _ _ (by omega)]; exact h2.1.1 q a b, fun i hi => by rw [ux_g _ _ _ (by omega)]; exact h2.1.2.1 i hi, fun i hi => by rw [ux_g _ _ _ (by omega)]; exact h2.1.2.2 i hi⟩, by rw [ux_g _ _ _ (by omega)]; exact h2.2.1, by rw [ux_g _ _ _ (by omega)]; exact h2.2.2⟩
      · unfold w_X12_readPlaces_b126
        refine q_take hT hR hk (x := 4) (by decide) rfl (fun _ R1 q1 q2 _ _ => ⟨fun q => absurd q (by decide), fun _ => rR R1 q1 _ (fun R2 q3 q4 _ M6 e6 => ?_)⟩) (fun z => absurd w8 z)
        have h6 : KRf R0 f pl M6 := ⟨by rw [e6]; exact QFr_0 q3.1 _ (by decide), by rw [e6, ux_i _ _ _ (by decide)]; exact q3.2.1, by rw [e6, ux_i _ _ _ (by decide)]; exact q3.2.2.1, by rw [e6, ux_i _ _ _ (by decide)]; exact q3.2.2.2⟩
        unfold w_X12_readPlaces_b144
        exact q_needF h6 f0 (hq M6 h6)
