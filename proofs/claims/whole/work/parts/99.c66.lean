theorem KF_u {C0 C : MM} {f pl : Int} (h : KF C0 f pl C) {q : Nat} (q0 : 262 ≤ q) (q1 : q ≤ 273) (i v : Int) : KF C0 f pl (ux_ C q i v) := ⟨⟨fun p a b => by rw [ux_g _ _ _ (by omega)]; exact h.1.1 p a b, fun j hj => by rw [ux_g _ _ _ (by omega)]; exact h.1.2.1 j hj, fun j hj => by rw [ux_g _ _ _ (by omega)]; exact h.1.2.2 j hj⟩, by rw [ux_g _ _ _ (by omega)]; exact h.2.1, by rw [ux_g _ _ _ (by omega)]; exact h.2.2⟩
theorem KRf_0 {R0 R : MM} {f pl : Int} (h : KRf R0 f pl R) {i : Int} (v : Int) (hi : i = 133 ∨ i = 135 ∨ i = 136 ∨ i = 137) : KRf R0 f pl (ux_ R 0 i v) := ⟨QFr_0 h.1 _ (by rcases hi with rfl | rfl | rfl | rfl <;> decide), by rw [ux_i _ _ _ (by omega)]; exact h.2.1, by rw [ux_i _ _ _ (by omega)]; exact h.2.2.1, by rw [ux_i _ _ _ (by omega)]; exact h.2.2.2⟩
theorem KRf_u {R0 R : MM} {f pl : Int} (h : KRf R0 f pl R) {q : Nat} (q0 : 80 ≤ q) (q1 : q ≤ 92) (i v : Int) : KRf R0 f pl (ux_ R q i v) := ⟨QFr_u h.1 q0 q1 _ _, by rw [ux_g _ _ _ (by omega)]; exact h.2.1, by rw [ux_g _ _ _ (by omega)]; exact h.2.2.1, by rw [ux_g _ _ _ (by omega)]; exact h.2.2.2⟩
def wq_ (v : Int) : Int := if v = 6 then -1 else v
def tq_ (v : Int) : Int := if v = 6 then 1 else 0
set_option maxHeartbeats 1600000 in
theorem J_p {C0 R0 A : MM} {E : Nat → Int} {L k : Nat} (hT : TX C0 R0 E L) (hk : k ≤ L) (hA : OKA C0 A) (p3 p4 np : Nat) (hp : p3 = 263 ∧ p4 = 264 ∨ p3 = 268 ∧ p4 = 269) (i0 : Int) (a0 : 0 ≤ i0) (a1 : i0 < np) (v pl0 : Int) (hv : v = 6 ∨ 0 ≤ v ∧ v < A 261 16) :
    (∃ k' A' va vb rb, k' ≤ L ∧ OKA C0 A' ∧ 0 ≤ va ∧ va < A' 261 14 ∧ 0 ≤ vb ∧ vb < A' 261 14 ∧ (rb = -1 ∧ vb = va ∧ v ≠ 6 ∨ rb = vb) ∧ APe A A' p3 p4 i0 v ∧ A' p3 i0 = va ∧ A' p4 i0 = vb ∧ (v ≠ 6 → A' 273 v = if rb = -1 then 1 else 2) ∧ (∀ C, KC C0 k A C → ∀ Q : Int → MM → Prop, (∀ C', KC C0 k' A' C' → Q 1 C') → w_X7_readPair p3 np p4 np Q v pl0 i0 C) ∧ (∀ R, KRq C0 R0 E k A R → ∀ Q : Int → MM → Prop, (∀ R', KRq C0 R0 E k' A' R' → R' 0 136 = va → R' 0 137 = rb → FPl R R' → Q 0 R') → w_X12_readPlaces Q (wq_ v) pl0 (tq_ v) R)) ∨
    ∃ f pl, 0 < f ∧ (∀ C, KC C0 k A C → ∀ Q : Int → MM → Prop, (∀ C', KF C0 f pl C' → Q 0 C') → w_X7_readPair p3 np p4 np Q v pl0 i0 C) ∧ (∀ R, KRq C0 R0 E k A R → ∀ Q : Int → MM → Prop, (∀ R', KRf R0 f pl R' → Q 0 R') → w_X12_readPlaces Q (wq_ v) pl0 (tq_ v) R) := by
  by_cases w4 : C0 4 k = 4
  rotate_left
  · refine Or.inr ⟨if C0 4 k = 1 then 2 else 1, C0 5 k, flt_pos, fun C hC Q hq => ?_, fun R hR Q hq => ?_⟩
    · unfold w_X7_readPair
      exact k_pass hT.1 hC hk (by decide) (fun z => absurd z w4) (fun _ C' h' _ => ⟨fun z => absurd rfl z, fun _ => hq C' h'⟩)
    · unfold w_X12_readPlaces
      refine q_need hT hR hk (x := 0) (by decide) rfl (fun z => absurd z w4) (fun _ R' h' _ => q_rvF h' flt_pos (fun _ M5 e5 M6 e6 v7 e7 _ => ⟨fun z => ?_, fun _ => hq M6 (by rw [e6, e5]; exact KRf_0 (KRf_0 h' _ (by omega)) _ (by omega))⟩))
      rw [e7, e6, ux_i _ _ _ (by decide), e5, ux_i _ _ _ (by decide), h'.2.1] at z
      have := flt_pos (W := C0 4 k); omega
  have k1 := TX_lt hT hk (by omega)
  rcases J_v hT k1 hA with ⟨va, A1, o1, o2, o3, ⟨o4, o5, o6⟩, k2, cC, rR⟩ | ⟨f, pl, f0, cC, rR⟩
  rotate_left
  · refine Or.inr ⟨f, pl, f0, fun C hC Q hq => ?_, fun R hR Q hq => ?_⟩
    · unfold w_X7_readPair
      refine k_pass hT.1 hC hk (by decide) (fun _ C1 h1 _ => ⟨fun _ => cC C1 h1 _ (fun C2 h2 _ => ⟨a0, a1, fun M6 e6 => ⟨a0, a1, fun v7 e7 _ => ⟨a0, a1, fun M8 e8 => ⟨a0, a1, fun v9 e9 _ => ?_⟩⟩⟩⟩), fun z => absurd z (by decide)⟩) (fun z => absurd w4 z)
      have z9 : v9 = -1 := by rw [e9, e8, ux_c _ _ _ _ (by omega), e6, ux_s]
      exact ⟨fun z => absurd z9 z, fun _ => hq M8 (by rw [e8, e6]; exact KF_u (KF_u h2 (by omega) (by omega) _ _) (by omega) (by omega) _ _)⟩
    · unfold w_X12_readPlaces
      refine q_need hT hR hk (x := 0) (by decide) rfl (fun _ R1 q1 q2 _ => rR R1 q1 _ (fun R2 h' _ _ M5 e5 M6 e6 v7 e7 _ => ⟨fun z => ?_, fun _ => hq M6 (by rw [e6, e5]; exact KRf_0 (KRf_0 h' _ (by omega)) _ (by omega))⟩)) (fun z => absurd w4 z)
      rw [e7, e6, ux_i _ _ _ (by decide), e5, ux_i _ _ _ (by decide), h'.2.1] at z
      omega
  -- the first variable stands
  obtain ⟨A2, eA⟩ : ∃ A2, A2 = ux_ (ux_ A1 p3 i0 va) p4 i0 va := ⟨_, rfl⟩
  have g2 : ∀ q, q ≠ p3 → q ≠ p4 → A2 q = A1 q := fun q x y => by rw [eA, ux_g _ _ _ y, ux_g _ _ _ x]
  have s3 : ∀ i, A2 p3 i = if i = i0 then va else A1 p3 i := fun i => by rw [eA, ux_c _ _ _ _ (by omega), ux_v]
  have s4 : ∀ i, A2 p4 i = if i = i0 then va else A1 p4 i := fun i => by rw [eA, ux_v, ux_c _ _ _ _ (by omega)]
  have oA2 : OKA C0 A2 := OKA_e o1 (fun i _ => by rw [g2 261 (by omega) (by omega)]) (fun q hq => g2 q (by omega) (by omega))
  have z61 : A2 261 = A1 261 := g2 261 (by omega) (by omega)
  -- the class as far as there
  have cls : ∀ C, KC C0 k A C → ∀ Q : Int → MM → Prop, (∀ C8, KC C0 (k + 1 + 1) A2 C8 → (¬ C0 4 (k + 1 + 1 : Nat) = 8 → w_X7_readPair_b54 p3 np p4 np Q v pl0 i0 1 C8) ∧ (C0 4 (k + 1 + 1 : Nat) = 8 → w_X7_readPair_b54 p3 np p4 np Q v pl0 i0 2 C8)) → w_X7_readPair p3 np p4 np Q v pl0 i0 C := fun C hC Q hq => by
    unfold w_X7_readPair
    refine k_pass hT.1 hC hk (by decide) (fun _ C1 h1 _ => ⟨fun _ => cC C1 h1 _ (fun C2 h2 _ => ⟨a0, a1, fun M6 e6 => ⟨a0, a1, fun v7 e7 _ => ⟨a0, a1, fun M8 e8 => ⟨a0, a1, fun v9 e9 _ => ?_⟩⟩⟩⟩), fun z => absurd z (by decide)⟩) (fun z => absurd w4 z)
    have z7 : v7 = va := by rw [e7, e6, ux_s]
    have z9 : v9 = va := by rw [e9, e8, ux_c _ _ _ _ (by omega), e6, ux_s]
    have h8 : KC C0 (k + 1 + 1) A2 M8 := by rw [e8, e6, z7, eA]; exact KC_u (KC_u h2 (by omega) (by omega) _ _) (by omega) (by omega) _ _
    refine ⟨fun _ v11 e11 _ => ?_, fun z => by omega⟩
    rw [h8.2.1.1] at e11
    rw [e11]
    exact hq M8 h8
  have ref : ∀ R, KRq C0 R0 E k A R → ∀ Q : Int → MM → Prop, (∀ R6, KRq C0 R0 E (k + 1 + 1) A2 R6 → R6 0 136 = va → R6 0 137 = -1 → FPl R R6 → w_X12_isSign (fun r9 M10 => (r9 = 0 ∨ r9 = 1) → (tq_ v = 0 → w_X12_readPlaces_b46 Q (wq_ v) pl0 r9 M10) ∧ (¬ tq_ v = 0 → (r9 = 0 → w_X12_readPlaces_b61 Q M10) ∧ (¬ r9 = 0 → w_X12_readPlaces_b46 Q (wq_ v) pl0 r9 M10))) 44 R6) → w_X12_readPlaces Q (wq_ v) pl0 (tq_ v) R := fun R hR Q hq => by
    unfold w_X12_readPlaces
    refine q_need hT hR hk (x := 0) (by decide) rfl (fun _ R1 q1 q2 _ => rR R1 q1 _ (fun R2 q3 q4 _ M5 e5 M6 e6 v7 e7 _ => ?_)) (fun z => absurd w4 z)
    have h6 : KRq C0 R0 E (k + 1 + 1) A2 M6 := KRq_A (by rw [e6, e5]; exact KRq_0 (KRq_0 q3 _ (Or.inl rfl)) _ (Or.inr rfl)) (fun j _ => by rw [z61]) (fun q hq => g2 q (by omega) (by omega))
    refine ⟨fun _ => hq M6 h6 (by rw [e6, ux_i _ _ _ (by decide), e5, ux_s]) (by rw [e6, ux_s]) ⟨fun q a b c => ?_, fun i hi => ?_⟩, fun z => absurd (by rw [e7, h6.2.2.1]; decide) z⟩
    · rw [e6, ux_g _ _ _ a, e5, ux_g _ _ _ a, q4.1 q a b b, q2.1 q a]
    · simp only [List.mem_cons, List.not_mem_nil, or_false] at hi
      rw [e6, ux_i _ _ _ (by omega), e5, ux_i _ _ _ (by omega), q4.2 i (by simp only [List.mem_cons, List.not_mem_nil, or_false]; omega) (by omega), q2.2 i (by simp only [List.mem_cons, List.not_mem_nil, or_false]; omega)]
  -- a word that is neither
  by_cases wg : C0 4 (k + 1 + 1 : Nat) = 8 ∨ C0 4 (k + 1 + 1 : Nat) = 5 ∧ v ≠ 6
  rotate_left
  · have n8 : ¬ C0 4 (k + 1 + 1 : Nat) = 8 := fun q => wg (Or.inl q)
    have n5 : C0 4 (k + 1 + 1 : Nat) = 5 → v = 6 := fun q => Classical.byContradiction fun w => wg (Or.inr ⟨q, w⟩)
    refine Or.inr ⟨if C0 4 (k + 1 + 1 : Nat) = 1 then 2 else 1, C0 5 (k + 1 + 1 : Nat), flt_pos, fun C hC Q hq => cls C hC Q (fun C8 h8 => ⟨fun _ => ?_, fun q => absurd q n8⟩), fun R hR Q hq => ref R hR Q (fun R6 h6 _ _ _ => ?_)⟩
    · have b85 : w_X7_readPair_b85 p3 np p4 np Q C8 := by unfold w_X7_readPair_b85; exact k_refuse h8 (fun C' h' _ => hq C' h')
      unfold w_X7_readPair_b54
      intro v1 e1 _
      rw [h8.2.1.1] at e1
      refine ⟨fun z => absurd (by rw [← e1]; exact z) n8, fun _ v3 e3 _ => ?_⟩
      rw [h8.2.1.1] at e3
      exact ⟨fun _ => b85, fun z => ⟨fun w => absurd (n5 (by rw [← e3]; exact z)) w, fun _ => b85⟩⟩
    · have b61 : w_X12_readPlaces_b61 Q R6 := by unfold w_X12_readPlaces_b61; exact q_wrong h6 (fun R' k1 _ => hq R' k1)
      refine r_isS h6.2.1.2.2 (x := 4) (by decide) (fun z => absurd z n8) (fun _ _ => ⟨fun t => ?_, fun _ => ⟨fun _ => b61, fun z => absurd rfl z⟩⟩) rfl
      unfold w_X12_readPlaces_b46
      refine ⟨fun z => absurd rfl z, fun _ => r_isS h6.2.1.2.2 (x := 1) (by decide) (fun z => ?_) (fun _ _ => ⟨fun z => absurd rfl z, fun _ => b61⟩) rfl⟩
      exfalso
      unfold tq_ at t
      rw [if_pos (n5 z)] at t
      omega
  obtain ⟨m, hm⟩ : ∃ m : Int, m = 1 ∧ C0 4 (k + 1 + 1 : Nat) = 5 ∧ v ≠ 6 ∨ m = 2 ∧ C0 4 (k + 1 + 1 : Nat) = 8 := by
    rcases wg with w | w
    · exact ⟨2, Or.inr ⟨rfl, w⟩⟩
    · exact ⟨1, Or.inl ⟨rfl, w.1, w.2⟩⟩
  have m12 : m = 1 ∨ m = 2 := by omega
  have cls2 : ∀ C, KC C0 k A C → ∀ Q : Int → MM → Prop, (∀ C8, KC C0 (k + 1 + 1) A2 C8 → w_X7_readPair_b90 p3 np p4 np Q v pl0 i0 m C8) → w_X7_readPair p3 np p4 np Q v pl0 i0 C := fun C hC Q hq => cls C hC Q (fun C8 h8 => by
    have go : ∀ s0, s0 = m → w_X7_readPair_b54 p3 np p4 np Q v pl0 i0 s0 C8 := fun s0 e => by
      rw [e]
      unfold w_X7_readPair_b54
      intro v1 e1 _
      rw [h8.2.1.1] at e1
      refine ⟨fun _ => hq C8 h8, fun z v3 e3 _ => ?_⟩
      rw [h8.2.1.1] at e3
      exact ⟨fun w => by omega, fun _ => ⟨fun _ => hq C8 h8, fun w => by omega⟩⟩
    exact ⟨fun z => go 1 (by omega), fun z => go 2 (by omega)⟩)
  have ref2 : ∀ R, KRq C0 R0 E k A R → ∀ Q : Int → MM → Prop, (∀ R6 r9, (r9 = 0 ↔ m = 1) → KRq C0 R0 E (k + 1 + 1) A2 R6 → R6 0 136 = va → R6 0 137 = -1 → FPl R R6 → w_X12_readPlaces_b66 Q (wq_ v) pl0 r9 R6) → w_X12_readPlaces Q (wq_ v) pl0 (tq_ v) R := fun R hR Q hq => ref R hR Q (fun R6 h6 x1 x2 x3 => by
    refine r_isS h6.2.1.2.2 (x := 4) (by decide) (fun z _ => ?_) (fun z _ => ?_) rfl
    · have b46 : w_X12_readPlaces_b46 Q (wq_ v) pl0 1 R6 := by
        unfold w_X12_readPlaces_b46
        exact ⟨fun _ => hq R6 1 ⟨fun q => by omega, fun q => by omega⟩ h6 x1 x2 x3, fun q => absurd q (by decide)⟩
      exact ⟨fun _ => b46, fun _ => ⟨fun q => absurd q (by decide), fun _ => b46⟩⟩
    · have z5 : C0 4 (k + 1 + 1 : Nat) = 5 ∧ v ≠ 6 ∧ m = 1 := by omega
      refine ⟨fun _ => ?_, fun t => ?_⟩
      · unfold w_X12_readPlaces_b46
        exact ⟨fun q => absurd rfl q, fun _ => r_isS h6.2.1.2.2 (x := 1) (by decide) (fun _ _ => ⟨fun _ => hq R6 0 ⟨fun _ => z5.2.2, fun _ => rfl⟩ h6 x1 x2 x3, fun q => absurd q (by decide)⟩) (fun q => absurd z5.1 q) rfl⟩
      · unfold tq_ at t
        rw [if_neg z5.2.1] at t
        omega)
  have hm2 : m = 1 ∧ C0 4 (k + 1 + 1 : Nat) = 5 ∨ m = 2 ∧ C0 4 (k + 1 + 1 : Nat) = 8 := by omega
  have a2 : ∀ i, i ≠ i0 → A2 p3 i = A p3 i ∧ A2 p4 i = A p4 i := fun i hi => by rw [s3, s4, if_neg hi, if_neg hi, o4 p3 (by omega) (by omega), o4 p4 (by omega) (by omega)]; exact ⟨rfl, rfl⟩
  -- the end of a pair, with what the arity has become
  have fin : ∀ A3, OKA C0 A3 → (∀ q, q ≠ 273 → A3 q = A2 q) → (∀ i, i ≠ v ∨ A 273 i ≠ 0 → A3 273 i = A 273 i) → (v ≠ 6 → A3 273 v = m) → (∀ C8, KC C0 (k + 1 + 1) A2 C8 → ∀ Q : Int → MM → Prop, (∀ C9, KC C0 (k + 1 + 1) A3 C9 → w_X7_readPair_b131 p3 np p4 np Q i0 m C9) → w_X7_readPair_b90 p3 np p4 np Q v pl0 i0 m C8) → (∀ R6 r9, (r9 = 0 ↔ m = 1) → KRq C0 R0 E (k + 1 + 1) A2 R6 → ∀ Q : Int → MM → Prop, (∀ R7, KRq C0 R0 E (k + 1 + 1) A3 R7 → (∀ q, q ≠ 83 → R7 q = R6 q) → w_X12_readPlaces_b126 Q R7) → w_X12_readPlaces_b66 Q (wq_ v) pl0 r9 R6) →
      (∃ k' A' va vb rb, k' ≤ L ∧ OKA C0 A' ∧ 0 ≤ va ∧ va < A' 261 14 ∧ 0 ≤ vb ∧ vb < A' 261 14 ∧ (rb = -1 ∧ vb = va ∧ v ≠ 6 ∨ rb = vb) ∧ APe A A' p3 p4 i0 v ∧ A' p3 i0 = va ∧ A' p4 i0 = vb ∧ (v ≠ 6 → A' 273 v = if rb = -1 then 1 else 2) ∧ (∀ C, KC C0 k A C → ∀ Q : Int → MM → Prop, (∀ C', KC C0 k' A' C' → Q 1 C') → w_X7_readPair p3 np p4 np Q v pl0 i0 C) ∧ (∀ R, KRq C0 R0 E k A R → ∀ Q : Int → MM → Prop, (∀ R', KRq C0 R0 E k' A' R' → R' 0 136 = va → R' 0 137 = rb → FPl R R' → Q 0 R') → w_X12_readPlaces Q (wq_ v) pl0 (tq_ v) R)) ∨
      ∃ f pl, 0 < f ∧ (∀ C, KC C0 k A C → ∀ Q : Int → MM → Prop, (∀ C', KF C0 f pl C' → Q 0 C') → w_X7_readPair p3 np p4 np Q v pl0 i0 C) ∧ (∀ R, KRq C0 R0 E k A R → ∀ Q : Int → MM → Prop, (∀ R', KRf R0 f pl R' → Q 0 R') → w_X12_readPlaces Q (wq_ v) pl0 (tq_ v) R) := fun A3 oA3 g3 ar ar2 cb rb => by
    rcases J_p2 hT k2 oA3 p3 p4 np (by omega) i0 a0 a1 m hm2 with ⟨k', A', vb, rb', q1, q2, q3, q4, q5, q6, q7, cP, rP⟩ | ⟨f, pl, f0, cP, rP⟩
    · have e61 : A3 261 = A1 261 := by rw [g3 261 (by decide), z61]
      have d3 : A' p3 i0 = va := by rw [q4 p3 (by omega) (by omega) (by omega), g3 p3 (by omega), s3, if_pos rfl]
      have d273 : A' 273 = A3 273 := q4 273 (by decide) (by decide) (by omega)
      have le14 : A 261 14 ≤ A' 261 14 := by rw [e61] at q7; omega
      have vin : va < A' 261 14 := by rw [e61] at q7; omega
      have ape : APe A A' p3 p4 i0 v := by
        refine ⟨fun q b1 b2 b3 b4 b5 => by rw [q4 q b1 b2 b5, g3 q b3, g2 q b4 b5, o4 q b1 b2], fun i hi => ⟨?_, ?_⟩, fun i hi => ?_, le14, fun i hi => by rw [d273]; exact ar i hi⟩
        · rw [q4 p3 (by omega) (by omega) (by omega), g3 p3 (by omega)]; exact (a2 i hi).1
        · rw [q5 i hi, g3 p4 (by omega)]; exact (a2 i hi).2
        · rw [q6 i hi, e61]; exact o5 i hi
      have cfin : ∀ C, KC C0 k A C → ∀ Q : Int → MM → Prop, (∀ C', KC C0 k' A' C' → Q 1 C') → w_X7_readPair p3 np p4 np Q v pl0 i0 C := fun C hC Q hq => cls2 C hC Q (fun C8 h8 => cb C8 h8 Q (fun C9 h9 => cP C9 h9 Q hq))
      have rfin : ∀ R, KRq C0 R0 E k A R → ∀ Q : Int → MM → Prop, (∀ R', KRq C0 R0 E k' A' R' → R' 0 136 = va → R' 0 137 = rb' → FPl R R' → Q 0 R') → w_X12_readPlaces Q (wq_ v) pl0 (tq_ v) R := fun R hR Q hq => ref2 R hR Q (fun R6 r9 hr h6 x1 x2 x3 => rb R6 r9 hr h6 Q (fun R7 h7 y7 => rP R7 h7 (by rw [y7 0 (by decide)]; exact x2) Q (fun R' k1 k2 k3 k4 => hq R' k1 (by rw [k2, y7 0 (by decide)]; exact x1) k3 ⟨fun q a b c => by rw [k4.1 q a b c, y7 q c, x3.1 q a b c], fun i hi => by rw [k4.2 i hi, y7 0 (by decide), x3.2 i hi]⟩)))
      rcases q3 with ⟨m1, e1, eA'⟩ | ⟨m2, e2, b0, b1, b2⟩
      · have d4 : A' p4 i0 = va := by rw [eA', g3 p4 (by omega), s4, if_pos rfl]
        refine Or.inl ⟨k', A', va, va, rb', q1, q2, o2, vin, o2, vin, Or.inl ⟨e1, rfl, by omega⟩, ape, d3, d4, fun hv6 => by rw [d273, ar2 hv6, if_pos e1]; exact m1, cfin, rfin⟩
      · refine Or.inl ⟨k', A', va, vb, rb', q1, q2, o2, vin, b0, b1, Or.inr e2, ape, d3, b2, fun hv6 => by rw [d273, ar2 hv6, if_neg (by omega)]; exact m2, cfin, rfin⟩
    · exact Or.inr ⟨f, pl, f0, fun C hC Q hq => cls2 C hC Q (fun C8 h8 => cb C8 h8 Q (fun C9 h9 => cP C9 h9 Q hq)), fun R hR Q hq => ref2 R hR Q (fun R6 r9 hr h6 _ _ _ => rb R6 r9 hr h6 Q (fun R7 h7 _ => rP R7 h7 Q hq))⟩
  have e273 : A2 273 = A 273 := by rw [g2 273 (by omega) (by omega), o4 273 (by decide) (by decide)]
  by_cases v6 : v = 6
  · refine fin A2 oA2 (fun _ _ => rfl) (fun i _ => by rw [e273]) (fun q => absurd v6 q) (fun C8 h8 Q hq => ?_) (fun R6 r9 hr h6 Q hq => ?_)
    · unfold w_X7_readPair_b90
      exact ⟨fun _ => hq C8 h8, fun q => absurd v6 q⟩
    · unfold wq_ w_X12_readPlaces_b66 w_X12_readPlaces_b96
      rw [if_pos v6]
      exact ⟨fun _ => ⟨fun _ => hq R6 h6 (fun _ _ => rfl), fun q => absurd rfl q⟩, fun q => absurd rfl q⟩
  have hv' : 0 ≤ v ∧ v < A 261 16 := hv.resolve_left v6
  have h16 := hA.2.1
  have x16 : A2 261 16 = A 261 16 := by rw [z61, o5 16 (by decide)]
  have ar13 := hA.2.2.2.2.2.2.2.2.2.2.2.2 v hv'.1 hv'.2
  by_cases az : A 273 v = 0 ∨ A 273 v = m
  · -- it is set, or it fits
    obtain ⟨A3, e3⟩ : ∃ A3, A3 = ux_ A2 273 v m := ⟨_, rfl⟩
    refine fin A3 (by rw [e3]; exact OKA_3 oA2 m12) (fun q hq => by rw [e3, ux_g _ _ _ hq]) (fun i hi => ?_) (fun _ => by rw [e3, ux_s]) (fun C8 h8 Q hq => ?_) (fun R6 r9 hr h6 Q hq => ?_)
    · rw [e3, ux_v]
      by_cases w : i = v
      · rw [if_pos w, w]; rw [w] at hi; omega
      · rw [if_neg w, e273]
    · have b123 : w_X7_readPair_b123 p3 np p4 np Q v i0 m C8 := by
        unfold w_X7_readPair_b123
        exact ⟨hv'.1, by omega, fun M1 em => hq M1 (by rw [em, e3]; exact KC_u h8 (by decide) (by decide) _ _)⟩
      have c273 : C8 273 v = A 273 v := by rw [h8.2.2.1 273 (by omega) (by omega), e273]
      unfold w_X7_readPair_b90
      refine ⟨fun q => absurd q v6, fun _ => ⟨hv'.1, by omega, fun v2 e2 _ => ⟨fun _ => b123, fun y => ⟨hv'.1, by omega, fun v4 e4 _ => ⟨fun _ => b123, fun y2 => ?_⟩⟩⟩⟩⟩
      omega
    · have r83 : R6 83 v = A 273 v := by rw [← ((h6.2.2.2.2.2.2.1) v hv'.1 (by omega)).2, e273]
      have fit : ∀ R7, KRq C0 R0 E (k + 1 + 1) A3 R7 → (∀ q, q ≠ 83 → R7 q = R6 q) → R7 83 v = m → w_X12_readPlaces_b96 Q v pl0 r9 R7 := fun R7 h7 y7 z7 => by
        unfold w_X12_readPlaces_b96 w_X12_readPlaces_b117
        refine ⟨fun q => by omega, fun _ => ⟨hv'.1, by omega, fun v2 e2 _ => ⟨fun y => ⟨fun _ => hq R7 h7 y7, fun q => ?_⟩, fun y => ⟨fun _ => hq R7 h7 y7, fun q => ?_⟩⟩⟩⟩
        · have := hr.mp y; omega
        · have : ¬ m = 1 := fun w => y (hr.mpr w); omega
      unfold wq_ w_X12_readPlaces_b66
      rw [if_neg v6]
      refine ⟨fun q => by omega, fun _ => ⟨hv'.1, by omega, fun v2 e2 _ => ⟨fun y => ?_, fun y => ?_⟩⟩⟩
      · have am : A 273 v = m := by omega
        refine fit R6 ?_ (fun _ _ => rfl) (by omega)
        have : A3 = A2 := by
          rw [e3]; funext q i
          unfold ux_
          by_cases w : q = 273 ∧ i = v
          · rw [if_pos w, w.1, w.2, e273, am]
          · rw [if_neg w]
        rw [this]; exact h6
      · have go : ∀ s0, s0 = m → w_X12_readPlaces_b95 Q v pl0 r9 s0 v R6 := fun s0 es => by
          rw [es]
          unfold w_X12_readPlaces_b95
          exact ⟨hv'.1, by omega, fun M1 em => fit M1 (by rw [em, e3]; exact KRq_3 h6 v m) (fun q hq => by rw [em, ux_g _ _ _ hq]) (by rw [em, ux_s])⟩
        exact ⟨fun w => go 1 (hr.mp w).symm, fun w => go 2 (by have : ¬ m = 1 := fun u => w (hr.mpr u); omega)⟩
  · -- it doesn't fit
    refine Or.inr ⟨3, pl0, by decide, fun C hC Q hq => cls2 C hC Q (fun C8 h8 => ?_), fun R hR Q hq => ref2 R hR Q (fun R6 r9 hr h6 _ _ _ => ?_)⟩
    · have c273 : C8 273 v = A 273 v := by rw [h8.2.2.1 273 (by omega) (by omega), e273]
      unfold w_X7_readPair_b90
      refine ⟨fun q => absurd q v6, fun _ => ⟨hv'.1, by omega, fun v2 e2 _ => ⟨fun y => by omega, fun y => ⟨hv'.1, by omega, fun v4 e4 _ => ⟨fun y2 => by omega, fun y2 => k_fail h8 (fun C' h' _ => hq C' h')⟩⟩⟩⟩⟩
    · have r83 : R6 83 v = A 273 v := by rw [← ((h6.2.2.2.2.2.2.1) v hv'.1 (by omega)).2, e273]
      have bad : w_X12_fail (fun _ M3 => w_X12_readPlaces_b126 Q M3) 3 pl0 R6 := q_fail h6 (fun R' k1 _ => by
        unfold w_X12_readPlaces_b126 w_X12_readPlaces_b144
        exact q_takeF k1 (by decide) (fun _ => ⟨fun _ => q_needF k1 (by decide) (hq R' k1), fun q => absurd rfl q⟩))
      unfold wq_ w_X12_readPlaces_b66 w_X12_readPlaces_b96 w_X12_readPlaces_b117
      rw [if_neg v6]
      refine ⟨fun q => by omega, fun _ => ⟨hv'.1, by omega, fun v2 e2 _ => ⟨fun y => ⟨fun q => by omega, fun _ => ⟨hv'.1, by omega, fun v3 e3 _ => ⟨fun w => ⟨fun q => ?_, fun _ => bad⟩, fun w => ⟨fun q => ?_, fun _ => bad⟩⟩⟩⟩, fun y => by omega⟩⟩⟩
      · have := hr.mp w; omega
      · have : ¬ m = 1 := fun u => w (hr.mpr u); omega
