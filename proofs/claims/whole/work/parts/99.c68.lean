/-! rules are read: one part of a body, on both sides -/
def BN (A A' : MM) (i : Int) : Prop := (A' 267 i ≤ 6 ∨ A' 267 i = 9) ∧ A' 261 15 = jor (A 261 15) (jor (jshl 1 (A' 268 i)) (jshl 1 (A' 269 i))) ∨ (A' 267 i = 7 ∨ A' 267 i = 8) ∧ A' 261 15 = A 261 15
def BDv (A' : MM) (i : Int) : Prop := 0 ≤ A' 268 i ∧ A' 268 i < A' 261 14 ∧ 0 ≤ A' 269 i ∧ A' 269 i < A' 261 14 ∧ (A' 267 i = 9 ∧ A' 269 i = A' 268 i ∨ 0 ≤ A' 267 i ∧ A' 267 i < 9)
theorem jshl_2 : ∀ v : Fin 3, jor (jshl 1 (v.val : Int)) (jshl 1 (v.val : Int)) = jshl 1 (v.val : Int) := by decide
theorem AFe_P {A A1 A' : MM} {i v : Int} (h1 : ARe A A1 ∨ A1 = A) (hp : APe (ux_ A1 267 i v) A' 268 269 i v) : (∀ q, 262 ≤ q → q ≤ 266 → A' q = A q) ∧ (∀ q j, 267 ≤ q → q ≤ 270 → j ≠ i → A' q j = A q j) ∧ A' 261 3 = A 261 3 ∧ A 261 14 ≤ A' 261 14 ∧ A 261 16 ≤ A' 261 16 ∧ (∀ j, 0 ≤ j → j < A 261 16 → A 273 j ≠ 0 → A' 273 j = A 273 j) ∧ A' 261 15 = A 261 15 ∧ A' 267 i = v ∧ A' 261 16 = A1 261 16 ∧ A' 270 = A 270 := by
  obtain ⟨p1, p2, p3, p4, p5⟩ := hp
  have b : (∀ q, q ≠ 261 → q ≠ 272 → q ≠ 273 → A1 q = A q) ∧ (∀ j, j ≠ 16 → A1 261 j = A 261 j) ∧ A 261 16 ≤ A1 261 16 ∧ ∀ j, 0 ≤ j → j < A 261 16 → A1 273 j = A 273 j := by
    rcases h1 with h1 | h1
    · exact h1
    · rw [h1]; exact ⟨fun _ _ _ _ => rfl, fun _ _ => rfl, Int.le_refl _, fun _ _ _ => rfl⟩
  have c : ∀ q, q ≠ 267 → ux_ A1 267 i v q = A1 q := fun q hq => ux_g _ _ _ hq
  refine ⟨fun q x y => by rw [p1 q (by omega) (by omega) (by omega) (by omega) (by omega), c q (by omega), b.1 q (by omega) (by omega) (by omega)], fun q j x y hj => ?_, by rw [p3 3 (by decide), c 261 (by decide), b.2.1 3 (by decide)], ?_, ?_, fun j j0 j1 jn => ?_, by rw [p3 15 (by decide), c 261 (by decide), b.2.1 15 (by decide)], by rw [p1 267 (by decide) (by decide) (by decide) (by decide) (by decide), ux_s], by rw [p3 16 (by decide), c 261 (by decide)], by rw [p1 270 (by decide) (by decide) (by decide) (by decide) (by decide), c 270 (by decide), b.1 270 (by decide) (by decide) (by decide)]⟩
  · by_cases w : q = 268 ∨ q = 269
    · have := p2 j hj
      rcases w with rfl | rfl
      · rw [this.1, c 268 (by decide), b.1 268 (by decide) (by decide) (by decide)]
      · rw [this.2, c 269 (by decide), b.1 269 (by decide) (by decide) (by decide)]
    · rw [p1 q (by omega) (by omega) (by omega) (by omega) (by omega)]
      by_cases u : q = 267
      · rw [u, ux_i _ _ _ hj, b.1 267 (by decide) (by decide) (by decide)]
      · rw [c q u, b.1 q (by omega) (by omega) (by omega)]
  · rw [c 261 (by decide), b.2.1 14 (by decide)] at p4; exact p4
  · rw [p3 16 (by decide), c 261 (by decide)]; exact b.2.2.1
  · rw [p5 j (Or.inr (by rw [c 273 (by decide), b.2.2.2 j j0 j1]; exact jn)), c 273 (by decide), b.2.2.2 j j0 j1]
/-- link( or a relation's name and ( : what both do from there on -/
theorem k_68 {C0 A1 A' C : MM} {kc k' : Nat} {i v pl : Int} (h : KC C0 kc A1 C) (i0 : 0 ≤ i) (i1 : i < 48) (hv : v ≠ -1) (va vb : Int) (e8 : A' 268 i = va) (e9 : A' 269 i = vb) {Q : Int → MM → Prop} (cP : ∀ C, KC C0 kc (ux_ A1 267 i v) C → ∀ Q : Int → MM → Prop, (∀ C', KC C0 k' A' C' → Q 1 C') → w_X7_readPair 268 48 269 48 Q v pl i C) (hq : ∀ C', KC C0 k' (ux_ A' 261 15 (jor (A' 261 15) (jor (jshl 1 va) (jshl 1 vb)))) C' → Q 1 C') : w_X7_readPart_b68 Q i pl v i C := by
  unfold w_X7_readPart_b68
  refine ⟨i0, i1, fun M1 e1 => ⟨i0, i1, fun v2 e2 _ => ?_⟩⟩
  have z2 : v2 = v := by rw [e2, e1, ux_s]
  refine ⟨fun _ => ⟨i0, i1, fun v4 e4 _ => ?_⟩, fun z => by omega⟩
  have z4 : v4 = v := by rw [e4, e1, ux_s]
  rw [z4]
  refine cP M1 (by rw [e1]; exact KC_u h (by decide) (by decide) _ _) _ (fun C' h' _ => ⟨fun _ w8 d8 _ => ⟨i0, i1, fun w9 d9 _ => ⟨i0, i1, fun w10 d10 _ M11 d11 => hq M11 ?_⟩⟩, fun z => absurd z (by decide)⟩)
  rw [h'.2.2.2.1 15 (by decide) (by decide)] at d8
  rw [h'.2.2.1 268 (by omega) (by omega), e8] at d9
  rw [h'.2.2.1 269 (by omega) (by omega), e9] at d10
  rw [d11, d8, d9, d10]
  exact KC_i h' (by decide) (by decide) _
theorem k_68F {C0 A1 C : MM} {kc : Nat} {i v pl f pf : Int} (h : KC C0 kc A1 C) (i0 : 0 ≤ i) (i1 : i < 48) (hv : v ≠ -1) {Q : Int → MM → Prop} (cP : ∀ C, KC C0 kc (ux_ A1 267 i v) C → ∀ Q : Int → MM → Prop, (∀ C', KF C0 f pf C' → Q 0 C') → w_X7_readPair 268 48 269 48 Q v pl i C) (hq : ∀ C', KF C0 f pf C' → Q 0 C') : w_X7_readPart_b68 Q i pl v i C := by
  unfold w_X7_readPart_b68
  refine ⟨i0, i1, fun M1 e1 => ⟨i0, i1, fun v2 e2 _ => ?_⟩⟩
  have z2 : v2 = v := by rw [e2, e1, ux_s]
  refine ⟨fun _ => ⟨i0, i1, fun v4 e4 _ => ?_⟩, fun z => by omega⟩
  have z4 : v4 = v := by rw [e4, e1, ux_s]
  rw [z4]
  exact cP M1 (by rw [e1]; exact KC_u h (by decide) (by decide) _ _) _ (fun C' h' _ => ⟨fun z => absurd rfl z, fun _ => hq C' h'⟩)
theorem OKA_i {C0 A : MM} (h : OKA C0 A) {q : Nat} (q0 : 262 ≤ q) (q1 : q ≤ 270) (i v : Int) : OKA C0 (ux_ A q i v) := OKA_e h (fun j _ => by rw [ux_g _ _ _ (by omega)]) (fun p hp => ux_g _ _ _ (by omega))
theorem OKA_15 {C0 A : MM} (h : OKA C0 A) (v : Int) : OKA C0 (ux_ A 261 15 v) := OKA_e h (fun j hj => ux_i _ _ _ (by omega)) (fun p hp => ux_g _ _ _ (by omega))
theorem FAt_A {R R1 R2 : MM} {i r : Int} (h : FAt R R1 i r) (e : ∀ q, q ≠ 0 → q ≠ 80 → q ≠ 81 → q ≠ 83 → R2 q = R1 q) : FAt R R2 i r := ⟨fun q j a b => by rw [e q (by omega) (by omega) (by omega) (by omega)]; exact h.1 q j a b, fun q a b => by rw [e q (by omega) (by omega) (by omega) (by omega)]; exact h.2.1 q a b, by rw [e 92 (by decide) (by decide) (by decide) (by decide)]; exact h.2.2.1, fun j hj => by rw [e 87 (by decide) (by decide) (by decide) (by decide)]; exact h.2.2.2 j hj⟩
theorem FAt_u {R R1 : MM} {i r : Int} (h : FAt R R1 i r) {q : Nat} (hq : q = 82 ∨ 88 ≤ q ∧ q ≤ 91) (v : Int) : FAt R (ux_ R1 q i v) i r := by
  refine ⟨fun p j a b => ?_, fun p a b => by rw [ux_g _ _ _ (by omega)]; exact h.2.1 p a b, by rw [ux_g _ _ _ (by omega)]; exact h.2.2.1, fun j hj => by rw [ux_g _ _ _ (by omega)]; exact h.2.2.2 j hj⟩
  by_cases w : p = q
  · rw [w, ux_i _ _ _ b]; exact h.1 q j (by omega) b
  · rw [ux_c _ _ _ _ w]; exact h.1 p j a b
/-- behind the places of a relation -/
theorem q_fin {R M41 R' M45 M47 : MM} {i r va rb v44 v46 : Int} (f : FAt R M41 i r) (h4 : FPl M41 R') (h2 : R' 0 136 = va) (h3 : R' 0 137 = rb) (e44 : v44 = R' 0 136) (e45 : M45 = ux_ R' 90 i v44) (e46 : v46 = M45 0 137) (e47 : M47 = ux_ M45 91 i v46) : FAt R M47 i r ∧ M47 87 r = M41 87 r ∧ M47 88 i = M41 88 i ∧ M47 89 i = M41 89 i ∧ M47 90 i = va ∧ M47 91 i = rb := by
  have fR : FAt R R' i r := FAt_A f (fun q a _ b c => h4.1 q a b c)
  have z46 : v46 = rb := by rw [e46, e45, ux_c _ _ _ _ (by decide), h3]
  refine ⟨by rw [e47, e45]; exact FAt_u (FAt_u fR (Or.inr ⟨by decide, by decide⟩) _) (Or.inr ⟨by decide, by decide⟩) _, ?_, ?_, ?_, ?_, by rw [e47, ux_s, z46]⟩
  · rw [e47, ux_c _ _ _ _ (by decide), e45, ux_c _ _ _ _ (by decide), h4.1 87 (by decide) (by decide) (by decide)]
  · rw [e47, ux_c _ _ _ _ (by decide), e45, ux_c _ _ _ _ (by decide), h4.1 88 (by decide) (by decide) (by decide)]
  · rw [e47, ux_c _ _ _ _ (by decide), e45, ux_c _ _ _ _ (by decide), h4.1 89 (by decide) (by decide) (by decide)]
  · rw [e47, ux_c _ _ _ _ (by decide), e45, ux_s, e44, h2]
set_option maxHeartbeats 1600000 in
theorem J_a {C0 R0 A : MM} {E : Nat → Int} {L k : Nat} (hT : TX C0 R0 E L) (hk : k ≤ L) (hA : OKA C0 A) (hN : KWn C0) (r x1 i : Int) (r0 : 0 ≤ r) (r1 : r < 12) (x0 : 0 ≤ x1) (x4 : x1 < 4) (ei : i = 4 * r + x1) (w2 : C0 4 k = 2) (wi : C0 6 k ≠ C0 261 1) :
    (∃ k' A', k' ≤ L ∧ OKA C0 A' ∧ AFe A A' i ∧ BN A A' i ∧ BDv A' i ∧ (∀ C, KC C0 k A C → ∀ Q : Int → MM → Prop, (∀ C', KC C0 k' A' C' → Q 1 C') → w_X7_readPart Q i C) ∧ (∀ R, KRq C0 R0 E k A R → R 87 r = x1 → ∀ Q : Int → MM → Prop, (∀ R', KRq C0 R0 E k' A' R' → R' 87 r = x1 + 1 → ATM A' R' i → FAt R R' i r → Q 0 R') → w_X12_readAtomOf_b69 Q r (if C0 6 k = C0 261 2 then 1 else 0) R)) ∨
    ∃ f pl, 0 < f ∧ (∀ C, KC C0 k A C → ∀ Q : Int → MM → Prop, (∀ C', KF C0 f pl C' → Q 0 C') → w_X7_readPart Q i C) ∧ (∀ R, KRq C0 R0 E k A R → R 87 r = x1 → ∀ Q : Int → MM → Prop, (∀ R', KRf R0 f pl R' → Q 0 R') → w_X12_readAtomOf_b69 Q r (if C0 6 k = C0 261 2 then 1 else 0) R) := by
  have i0 : 0 ≤ i := by omega
  have i48 : i < 48 := by omega
  have k1 := TX_lt hT hk (by omega)
  have hne := hA.2.2.2.2.2.2.2.2.2.1
  -- the class behind the name
  have cls : ∀ C, KC C0 k A C → ∀ Q : Int → MM → Prop, (∀ C1, KC C0 (k + 1) A C1 → (C0 6 k = C0 261 2 ∨ C0 4 (k + 1 : Nat) = 4 → w_X7_readPart_b44 Q i (C0 6 k) (C0 5 k) C1) ∧ (C0 6 k ≠ C0 261 2 → C0 4 (k + 1 : Nat) = 9 → w_X9_nextWord (fun _ M18 => 0 ≤ i ∧ i < 48 ∧ (∀ M19, M19 = ux_ M18 267 i 9 → 0 ≤ i ∧ i < 48 ∧ (∀ M20, M20 = ux_ M19 270 i (C0 6 k) → w_X7_readVariable (fun r21 M22 => ri_ r21 → 0 ≤ i ∧ i < 48 ∧ (∀ M23, M23 = ux_ M22 268 i r21 → 0 ≤ i ∧ i < 48 ∧ (∀ v24, v24 = M23 268 i → ri_ v24 → 0 ≤ i ∧ i < 48 ∧ (∀ M25, M25 = ux_ M23 269 i v24 → (∀ v26, v26 = M25 261 15 → ri_ v26 → 0 ≤ i ∧ i < 48 ∧ (∀ v27, v27 = M25 268 i → ri_ v27 → (¬ v27 = (-1) → 0 ≤ i ∧ i < 48 ∧ (∀ v29, v29 = M25 268 i → ri_ v29 → w_X7_readPart_b224 Q i (jshl 1 v29) v26 M25)) ∧ (v27 = (-1) → w_X7_readPart_b224 Q i 0 v26 M25)))))))  M20)))  C1) ∧ (C0 6 k ≠ C0 261 2 → C0 4 (k + 1 : Nat) = 12 ∨ C0 4 (k + 1 : Nat) = 20 → w_X7_readPart_b273 Q i (C0 6 k) (C0 5 k) C1) ∧ (C0 6 k ≠ C0 261 2 → C0 4 (k + 1 : Nat) ≠ 4 → C0 4 (k + 1 : Nat) ≠ 9 → C0 4 (k + 1 : Nat) ≠ 12 → C0 4 (k + 1 : Nat) ≠ 20 → w_X7_refuse (fun r15 M16 => (r15 = 0 ∨ r15 = 1) → Q r15 M16) C1)) → w_X7_readPart Q i C := fun C hC Q hq => by
    unfold w_X7_readPart
    intro v1 e1 _ v2 e2 _
    rw [hC.2.1.2.2.1] at e1
    rw [hC.2.1.2.1] at e2
    rw [e1, e2]
    refine k_next hT.1 hC hk (by omega) (fun C1 h1 v5 e5 _ => ?_)
    obtain ⟨q1, q2, q3, q4⟩ := hq C1 h1
    rw [h1.2.2.2.1 2 (by decide) (by decide), hne] at e5
    rw [e5]
    have w9 := h1.2.1.1
    refine ⟨fun z => q1 (Or.inl z), fun z v7 e7 _ => ⟨fun y4 v9 e9 _ => ⟨fun y9 v11 e11 _ => ⟨fun y12 => q3 z (Or.inl (by omega)), fun y12 v13 e13 _ => ⟨fun y20 => q3 z (Or.inr (by omega)), fun y20 => q4 z (by omega) (by omega) (by omega) (by omega)⟩⟩, fun y9 => q2 z (by omega)⟩, fun y4 => q1 (Or.inr (by omega))⟩⟩
  -- the reference at the part
  have ref : ∀ R, KRq C0 R0 E k A R → R 87 r = x1 → ∀ (Q : Int → MM → Prop) (x2 : Int), (∀ R10, KRq C0 R0 E k A R10 → R10 87 r = x1 + 1 → R10 91 i = -1 → FAt R R10 i r → (x2 = 0 → w_X12_advance (fun _ M15 => w_X12_isSign (fun r16 M17 => (r16 = 0 ∨ r16 = 1) → (r16 = 0 → w_X12_isSign (fun r19 M20 => (r19 = 0 ∨ r19 = 1) → (r19 = 0 → w_X12_isSign (fun r22 M23 => (r22 = 0 ∨ r22 = 1) → (¬ r22 = 0 → w_X12_readAtomOf_b255 Q i (C0 5 k) M23) ∧ (r22 = 0 → w_X12_isSign (fun r25 M26 => (r25 = 0 ∨ r25 = 1) → (r25 = 0 → w_X12_wrong (fun _ M29 => Q 0 M29) M26) ∧ (¬ r25 = 0 → w_X12_readAtomOf_b255 Q i (C0 5 k) M26)) 8509 M23)) 61 M20) ∧ (¬ r19 = 0 → 0 ≤ i ∧ i < 48 ∧ (∀ M30, M30 = ux_ M20 88 i 2 → 0 ≤ i ∧ i < 48 ∧ (∀ M31, M31 = ux_ M30 82 i (R10 0 85) → w_X12_advance (fun _ M33 => w_X12_readVariable (fun r34 M35 => ri_ r34 → 0 ≤ i ∧ i < 48 ∧ (∀ M36, M36 = ux_ M35 90 i r34 → Q 0 M36)) M33) M31)))) 58 M17) ∧ (¬ r16 = 0 → w_X12_readRelation (fun _ M38 => Q 0 M38) i (R10 0 85) (C0 5 k) M17)) 40 M15) R10) ∧ (¬ x2 = 0 → w_X12_advance (fun _ M40 => 0 ≤ i ∧ i < 48 ∧ (∀ M41, M41 = ux_ M40 88 i 1 → w_X12_readPlaces (fun _ M43 => (∀ v44, v44 = M43 0 136 → ri_ v44 → 0 ≤ i ∧ i < 48 ∧ (∀ M45, M45 = ux_ M43 90 i v44 → (∀ v46, v46 = M45 0 137 → ri_ v46 → 0 ≤ i ∧ i < 48 ∧ (∀ M47, M47 = ux_ M45 91 i v46 → Q 0 M47))))) (-1) (C0 5 k) 1 M41)) R10)) → w_X12_readAtomOf_b69 Q r x2 R := fun R hR h87 Q x2 hq => by
    unfold w_X12_readAtomOf_b69
    intro v1 e1 _
    refine ⟨fun _ => ⟨by unfold ri_; omega, r0, r1, fun v4 e4 _ => ?_⟩, fun z => absurd (by rw [e1, hR.2.2.1]; decide) z⟩
    rw [e4, h87, ← ei]
    refine ⟨by unfold ri_; omega, r0, r1, fun v6 e6 _ => ⟨by unfold ri_; omega, r0, r1, fun M8 e8 v9 e9 _ => ⟨i0, i48, fun M10 e10 => ?_⟩⟩⟩
    rw [e8, ux_c _ _ _ _ (by decide), hR.2.1.2.1] at e9
    have h8 : KRq C0 R0 E k A M8 := by rw [e8]; exact KRq_w hR (by decide) (by decide) _ _ (fun _ _ => rfl) (fun _ _ => rfl)
    have h10 : KRq C0 R0 E k A M10 := by rw [e10]; exact KRq_w h8 (by decide) (by decide) _ _ (fun _ _ => rfl) (fun _ _ => rfl)
    have f0 : FAt R R i r := ⟨fun _ _ _ _ => rfl, fun _ _ _ => rfl, rfl, fun _ _ => rfl⟩
    have f8 : FAt R M8 i r := ⟨fun q j a b => by rw [e8, ux_g _ _ _ (by omega)], fun q a b => by rw [e8, ux_g _ _ _ (by omega)], by rw [e8, ux_g _ _ _ (by decide)], fun j hj => by rw [e8, ux_i _ _ _ hj]⟩
    obtain ⟨g1, g2⟩ := hq M10 h10 (by rw [e10, ux_c _ _ _ _ (by decide), e8, ux_s, e6]) (by rw [e10, ux_s]) (by rw [e10]; exact FAt_u f8 (Or.inr ⟨by decide, by decide⟩) _)
    rw [e9]
    refine ⟨fun z v12 e12 _ v13 e13 _ => ?_, g2⟩
    rw [e12]
    exact g1 z
  by_cases lk : C0 6 k = C0 261 2
  · -- link
    rw [if_pos lk]
    rcases J_p hT k1 (OKA_i hA (q := 267) (by decide) (by decide) i 6) 268 269 48 (Or.inr ⟨rfl, rfl⟩) i i0 i48 6 (C0 5 k) (Or.inl rfl) with ⟨k', A', va, vb, rb, o1, o2, o3, o4, o5, o6, o7, o8, o9, o10, o11, cP, rP⟩ | ⟨f, pl, f0, cP, rP⟩
    · obtain ⟨p1, p2, p3, p4, p5, p6, p7, p8, p9, p10⟩ := AFe_P (A := A) (A1 := A) (Or.inr rfl) o8
      obtain ⟨A3, e3⟩ : ∃ A3, A3 = ux_ A' 261 15 (jor (A' 261 15) (jor (jshl 1 va) (jshl 1 vb))) := ⟨_, rfl⟩
      have g3 : ∀ q, q ≠ 261 → A3 q = A' q := fun q hq => by rw [e3, ux_g _ _ _ hq]
      have z3 : ∀ j, j ≠ 15 → A3 261 j = A' 261 j := fun j hj => by rw [e3, ux_i _ _ _ hj]
      have rb' : rb = vb := o7.elim (fun w => absurd rfl w.2.2) id
      refine Or.inl ⟨k', A3, o1, by rw [e3]; exact OKA_15 o2 _, ⟨fun q a b => by rw [g3 q (by omega)]; exact p1 q a b, fun q j a b hj => by rw [g3 q (by omega)]; exact p2 q j a b hj, by rw [z3 3 (by decide)]; exact p3, by rw [z3 14 (by decide)]; exact p4, by rw [z3 16 (by decide)]; exact p5, fun j a b c => by rw [g3 273 (by decide)]; exact p6 j a b c⟩, Or.inl ⟨Or.inl (by rw [g3 267 (by decide), p8]; decide), by rw [g3 268 (by decide), g3 269 (by decide), o9, o10, e3, ux_s, p7]⟩, ⟨by rw [g3 268 (by decide), o9]; exact o3, by rw [g3 268 (by decide), z3 14 (by decide), o9]; exact o4, by rw [g3 269 (by decide), o10]; exact o5, by rw [g3 269 (by decide), z3 14 (by decide), o10]; exact o6, Or.inr (by rw [g3 267 (by decide), p8]; decide)⟩, fun C hC Q hq => cls C hC Q (fun C1 h1 => ⟨fun _ => ?_, fun q => absurd lk q, fun q => absurd lk q, fun q => absurd lk q⟩), fun R hR h87 Q hq => ref R hR h87 Q 1 (fun R10 h10 y1 y2 y3 => ⟨fun q => absurd q (by decide), fun _ => ?_⟩)⟩
      · unfold w_X7_readPart_b44
        intro v1 e1 _
        rw [h1.2.2.2.1 2 (by decide) (by decide), hne] at e1
        exact ⟨fun q => absurd (by rw [e1]; exact lk) q, fun _ => k_68 h1 i0 i48 (by decide) va vb o9 o10 cP (fun C' h' => hq C' (by rw [e3]; exact h'))⟩
      · refine q_adv hT h10 hk (by omega) (fun R11 q1 q2 _ => ⟨i0, i48, fun M41 e41 => ?_⟩)
        refine rP M41 (by rw [e41]; exact KRq_w q1 (by decide) (by decide) _ _ (fun _ _ => by rw [ux_g _ _ _ (by decide)]) (fun p hp => ux_g _ _ _ (by omega))) _ (fun R' h1 h2 h3 h4 v44 e44 _ => ⟨i0, i48, fun M45 e45 v46 e46 _ => ⟨i0, i48, fun M47 e47 => ?_⟩⟩)
        obtain ⟨b1, b2, b3, b4, b5, b6⟩ := q_fin (R := R) (r := r) (by rw [e41]; exact FAt_u (FAt_A y3 (fun q a _ _ _ => q2.1 q a)) (Or.inr ⟨by decide, by decide⟩) _) h4 h2 h3 e44 e45 e46 e47
        refine hq M47 ?_ ?_ ?_ ?_
        · rw [e47, e45]
          exact KRq_w (KRq_w h1 (by decide) (by decide) _ _ (fun _ _ => rfl) (fun _ _ => rfl)) (by decide) (by decide) _ _ (fun j hj => z3 j (by omega)) (fun p hp => g3 p (by omega))
        · rw [b2, e41, ux_c _ _ _ _ (by decide), q2.1 87 (by decide)]; exact y1
        · unfold ATM AtK
          rw [g3 267 (by decide), g3 268 (by decide), g3 269 (by decide), z3 14 (by decide), o9, o10, p8, b3, b5, b6, e41, ux_s]
          exact ⟨Or.inr (Or.inl ⟨rfl, rfl, rb'⟩), rfl, o3, o4, o5, o6⟩
        · exact b1
    · refine Or.inr ⟨f, pl, f0, fun C hC Q hq => cls C hC Q (fun C1 h1 => ⟨fun _ => ?_, fun q => absurd lk q, fun q => absurd lk q, fun q => absurd lk q⟩), fun R hR h87 Q hq => ref R hR h87 Q 1 (fun R10 h10 y1 y2 y3 => ⟨fun q => absurd q (by decide), fun _ => ?_⟩)⟩
      · unfold w_X7_readPart_b44
        intro v1 e1 _
        rw [h1.2.2.2.1 2 (by decide) (by decide), hne] at e1
        exact ⟨fun q => absurd (by rw [e1]; exact lk) q, fun _ => k_68F h1 i0 i48 (by decide) cP hq⟩
      · refine q_adv hT h10 hk (by omega) (fun R11 q1 q2 _ => ⟨i0, i48, fun M41 e41 => ?_⟩)
        exact rP M41 (by rw [e41]; exact KRq_w q1 (by decide) (by decide) _ _ (fun _ _ => by rw [ux_g _ _ _ (by decide)]) (fun p hp => ux_g _ _ _ (by omega))) _ (fun R' h1 v44 e44 _ => ⟨i0, i48, fun M45 e45 v46 e46 _ => ⟨i0, i48, fun M47 e47 => hq M47 (by rw [e47, e45]; exact KRf_u (KRf_u h1 (by decide) (by decide) _ _) (by decide) (by decide) _ _)⟩⟩)
  rw [if_neg lk]
  have hp : PLN C0 k := ⟨w2, wi, lk⟩
  by_cases w4 : C0 4 (k + 1 : Nat) = 4
  · -- a relation
    have rel0 : ∀ R, KRq C0 R0 E k A R → R 87 r = x1 → ∀ Q : Int → MM → Prop, (∀ R5, KRq C0 R0 E k A R5 → R5 87 r = x1 + 1 → R5 88 i = 0 → FAt R R5 i r → w_X12_relationAtHand (fun r6 M7 => ri_ r6 → 0 ≤ i ∧ i < 48 ∧ (∀ M8, M8 = ux_ M7 89 i r6 → (∀ v9, v9 = M8 0 83 → ri_ v9 → (v9 ≤ 0 → w_X12_advance (fun _ M12 => 0 ≤ i ∧ i < 48 ∧ (∀ v13, v13 = M12 89 i → ri_ v13 → w_X12_readPlaces (fun _ M15 => (∀ v16, v16 = M15 0 136 → ri_ v16 → 0 ≤ i ∧ i < 48 ∧ (∀ M17, M17 = ux_ M15 90 i v16 → (∀ v18, v18 = M17 0 137 → ri_ v18 → 0 ≤ i ∧ i < 48 ∧ (∀ M19, M19 = ux_ M17 91 i v18 → Q 0 M19))))) v13 (C0 5 k) 0 M12)) M8) ∧ (¬ v9 ≤ 0 → Q 0 M8)))) R5) → w_X12_readAtomOf_b69 Q r 0 R := fun R hR h87 Q hq => by
      refine ref R hR h87 Q 0 (fun R10 h10 y1 y2 y3 => ⟨fun _ => q_adv hT h10 hk (by omega) (fun R11 q1 q2 _ => ?_), fun q => absurd rfl q⟩)
      refine r_isS q1.2.1.2.2 (x := 0) (by decide) (fun _ _ => ⟨fun q => absurd q (by decide), fun _ => ?_⟩) (fun z => absurd w4 z) rfl
      unfold w_X12_readRelation
      intro v1 e1 _ M2 e2
      obtain ⟨u1, u2, u3⟩ := KRq_78 q1 (C0 5 k)
      rw [← e2] at u1 u2 u3
      refine q_back' hT u1 u2 u3 hk (by rw [e2, ux_s]) (fun R4 q3 q4 => ⟨i0, i48, fun M5 e5 => ?_⟩)
      have f2 : FAt R R4 i r := FAt_A (FAt_A y3 (fun q a _ _ _ => q2.1 q a)) (fun q a _ _ _ => by rw [q4.1 q a, e2, ux_g _ _ _ a])
      refine hq M5 (by rw [e5]; exact KRq_w q3 (by decide) (by decide) _ _ (fun _ _ => rfl) (fun _ _ => rfl)) ?_ (by rw [e5, ux_s]) (by rw [e5]; exact FAt_u f2 (Or.inr ⟨by decide, by decide⟩) _)
      rw [e5, ux_c _ _ _ _ (by decide), q4.1 87 (by decide), e2, ux_g _ _ _ (by decide), q2.1 87 (by decide)]; exact y1
    have b44 : ∀ C1, KC C0 (k + 1) A C1 → ∀ Q : Int → MM → Prop, w_X7_relationOf (fun r3 M4 => ri_ r3 → w_X7_readPart_b68 Q i (C0 5 k) r3 i M4) (C0 6 k) C1 → w_X7_readPart_b44 Q i (C0 6 k) (C0 5 k) C1 := fun C1 h1 Q hq => by
      unfold w_X7_readPart_b44
      intro v1 e1 _
      rw [h1.2.2.2.1 2 (by decide) (by decide), hne] at e1
      exact ⟨fun _ => hq, fun q => absurd (by rw [← e1]; exact q) lk⟩
    rcases J_r (R0 := R0) (E := E) hA w2 with ⟨v, A1, oA1, v0, v1, are, cR, rRel⟩ | ⟨cR, rRel⟩
    · have v6 : v ≠ 6 := by have := oA1.2.1; omega
      have wv : wq_ v = v ∧ tq_ v = 0 := by unfold wq_ tq_; rw [if_neg v6, if_neg v6]; exact ⟨rfl, rfl⟩
      rcases J_p hT k1 (OKA_i oA1 (q := 267) (by decide) (by decide) i v) 268 269 48 (Or.inr ⟨rfl, rfl⟩) i i0 i48 v (C0 5 k) (Or.inr ⟨v0, by rw [ux_g _ _ _ (by decide)]; exact v1⟩) with ⟨k', A', va, vb, rb, o1, o2, o3, o4, o5, o6, o7, o8, o9, o10, o11, cP, rP⟩ | ⟨f, pl, f0, cP, rP⟩
      · obtain ⟨p1, p2, p3, p4, p5, p6, p7, p8, p9, p10⟩ := AFe_P (A := A) (A1 := A1) (Or.inl are) o8
        obtain ⟨A3, e3⟩ : ∃ A3, A3 = ux_ A' 261 15 (jor (A' 261 15) (jor (jshl 1 va) (jshl 1 vb))) := ⟨_, rfl⟩
        have g3 : ∀ q, q ≠ 261 → A3 q = A' q := fun q hq => by rw [e3, ux_g _ _ _ hq]
        have z3 : ∀ j, j ≠ 15 → A3 261 j = A' 261 j := fun j hj => by rw [e3, ux_i _ _ _ hj]
        have l6 := oA1.2.1
        refine Or.inl ⟨k', A3, o1, by rw [e3]; exact OKA_15 o2 _, ⟨fun q a b => by rw [g3 q (by omega)]; exact p1 q a b, fun q j a b hj => by rw [g3 q (by omega)]; exact p2 q j a b hj, by rw [z3 3 (by decide)]; exact p3, by rw [z3 14 (by decide)]; exact p4, by rw [z3 16 (by decide)]; exact p5, fun j a b c => by rw [g3 273 (by decide)]; exact p6 j a b c⟩, Or.inl ⟨Or.inl (by rw [g3 267 (by decide), p8]; omega), by rw [g3 268 (by decide), g3 269 (by decide), o9, o10, e3, ux_s, p7]⟩, ⟨by rw [g3 268 (by decide), o9]; exact o3, by rw [g3 268 (by decide), z3 14 (by decide), o9]; exact o4, by rw [g3 269 (by decide), o10]; exact o5, by rw [g3 269 (by decide), z3 14 (by decide), o10]; exact o6, Or.inr (by rw [g3 267 (by decide), p8]; omega)⟩, fun C hC Q hq => cls C hC Q (fun C1 h1 => ⟨fun _ => b44 C1 h1 Q (cR (k + 1) C1 h1 _ (fun C2 h2 _ => k_68 h2 i0 i48 (by omega) va vb o9 o10 cP (fun C' h' => hq C' (by rw [e3]; exact h')))), fun _ q => by omega, fun _ q => by omega, fun _ q => absurd w4 q⟩), fun R hR h87 Q hq => rel0 R hR h87 Q (fun R5 h5 y1 y2 y3 => rRel R5 h5 _ (fun R7 h7 fv _ => ⟨i0, i48, fun M8 e8 v9 e9 _ => ?_⟩))⟩
        have h8 : KRq C0 R0 E k A1 M8 := by rw [e8]; exact KRq_w h7 (by decide) (by decide) _ _ (fun _ _ => rfl) (fun _ _ => rfl)
        have f8 : FAt R M8 i r := by rw [e8]; exact FAt_u (FAt_A y3 (fun q a b c d => fv.1 q a b d)) (Or.inr ⟨by decide, by decide⟩) _
        refine ⟨fun _ => q_adv hT h8 hk (by omega) (fun R12 q1 q2 _ => ⟨i0, i48, fun v13 e13 _ => ?_⟩), fun q => absurd (by rw [e9, h8.2.2.1]; decide) q⟩
        have z13 : v13 = v := by rw [e13, q2.1 89 (by decide), e8, ux_s]
        rw [wv.1, wv.2] at rP
        rw [z13]
        refine rP R12 (KRq_A q1 (fun _ _ => by rw [ux_g _ _ _ (by decide)]) (fun p hp => ux_g _ _ _ (by omega))) _ (fun R' h1 h2 h3 h4 v44 e44 _ => ⟨i0, i48, fun M45 e45 v46 e46 _ => ⟨i0, i48, fun M47 e47 => ?_⟩⟩)
        obtain ⟨b1, b2, b3, b4, b5, b6⟩ := q_fin (R := R) (r := r) (FAt_A f8 (fun q a _ _ _ => q2.1 q a)) h4 h2 h3 e44 e45 e46 e47
        refine hq M47 ?_ ?_ ?_ b1
        · rw [e47, e45]
          exact KRq_w (KRq_w h1 (by decide) (by decide) _ _ (fun _ _ => rfl) (fun _ _ => rfl)) (by decide) (by decide) _ _ (fun j hj => z3 j (by omega)) (fun p hp => g3 p (by omega))
        · rw [b2, q2.1 87 (by decide), e8, ux_c _ _ _ _ (by decide), fv.1 87 (by decide) (by decide) (by decide)]; exact y1
        · have r88 : M47 88 i = 0 := by rw [b3, q2.1 88 (by decide), e8, ux_c _ _ _ _ (by decide), fv.1 88 (by decide) (by decide) (by decide)]; exact y2
          have r89 : M47 89 i = v := by rw [b4, q2.1 89 (by decide), e8, ux_s]
          have ar := o11 v6
          unfold ATM AtK
          rw [g3 267 (by decide), g3 268 (by decide), g3 269 (by decide), g3 273 (by decide), z3 14 (by decide), z3 16 (by decide), o9, o10, p8, b5, b6, r88, r89, p9]
          refine ⟨Or.inl ⟨v0, v1, by omega, rfl, rfl, ?_⟩, rfl, o3, o4, o5, o6⟩
          rcases o7 with ⟨x, y, -⟩ | x
          · exact Or.inl ⟨x, y, by rw [ar, if_pos x]⟩
          · exact Or.inr ⟨x, by rw [ar, if_neg (by omega)]⟩
      · refine Or.inr ⟨f, pl, f0, fun C hC Q hq => cls C hC Q (fun C1 h1 => ⟨fun _ => b44 C1 h1 Q (cR (k + 1) C1 h1 _ (fun C2 h2 _ => k_68F h2 i0 i48 (by omega) cP hq)), fun _ q => by omega, fun _ q => by omega, fun _ q => absurd w4 q⟩), fun R hR h87 Q hq => rel0 R hR h87 Q (fun R5 h5 y1 y2 y3 => rRel R5 h5 _ (fun R7 h7 fv _ => ⟨i0, i48, fun M8 e8 v9 e9 _ => ?_⟩))⟩
        have h8 : KRq C0 R0 E k A1 M8 := by rw [e8]; exact KRq_w h7 (by decide) (by decide) _ _ (fun _ _ => rfl) (fun _ _ => rfl)
        refine ⟨fun _ => q_adv hT h8 hk (by omega) (fun R12 q1 q2 _ => ⟨i0, i48, fun v13 e13 _ => ?_⟩), fun q => absurd (by rw [e9, h8.2.2.1]; decide) q⟩
        have z13 : v13 = v := by rw [e13, q2.1 89 (by decide), e8, ux_s]
        rw [wv.1, wv.2] at rP
        rw [z13]
        exact rP R12 (KRq_A q1 (fun _ _ => by rw [ux_g _ _ _ (by decide)]) (fun p hp => ux_g _ _ _ (by omega))) _ (fun R' h1 v44 e44 _ => ⟨i0, i48, fun M45 e45 v46 e46 _ => ⟨i0, i48, fun M47 e47 => hq M47 (by rw [e47, e45]; exact KRf_u (KRf_u h1 (by decide) (by decide) _ _) (by decide) (by decide) _ _)⟩⟩)
    · refine Or.inr ⟨4, C0 5 k, by decide, fun C hC Q hq => cls C hC Q (fun C1 h1 => ⟨fun _ => b44 C1 h1 Q (cR (k + 1) C1 h1 _ (fun _ => ?_)), fun _ q => by omega, fun _ q => by omega, fun _ q => absurd w4 q⟩), fun R hR h87 Q hq => rel0 R hR h87 Q (fun R5 h5 y1 y2 y3 => rRel R5 h5 _ (fun R7 h7 _ _ => ⟨i0, i48, fun M8 e8 v9 e9 _ => ⟨fun z => ?_, fun _ => hq M8 (by rw [e8]; exact KRf_u h7 (by decide) (by decide) _ _)⟩⟩))⟩
      · unfold w_X7_readPart_b68
        refine ⟨i0, i48, fun M1 e1 => ⟨i0, i48, fun v2 e2 _ => ⟨fun q => absurd (by rw [e2, e1, ux_s]) q, fun _ => k_fail (A := ux_ A 267 i (-1)) (k := k + 1) (by rw [e1]; exact KC_u h1 (by decide) (by decide) _ _) (fun C' h' _ => hq C' h')⟩⟩⟩
      · rw [e9, e8, ux_c _ _ _ _ (by decide), h7.2.1] at z; omega
  by_cases w9 : C0 4 (k + 1 : Nat) = 9
  · -- a class
    have k2 := TX_lt hT k1 (by omega)
    obtain ⟨A1, eA1⟩ : ∃ A1, A1 = ux_ (ux_ A 267 i 9) 270 i (C0 6 k) := ⟨_, rfl⟩
    have oA1 : OKA C0 A1 := by rw [eA1]; exact OKA_i (OKA_i hA (by decide) (by decide) _ _) (by decide) (by decide) _ _
    have g1 : ∀ q, q ≠ 267 → q ≠ 270 → A1 q = A q := fun q a b => by rw [eA1, ux_g _ _ _ b, ux_g _ _ _ a]
    have refc : ∀ R, KRq C0 R0 E k A R → R 87 r = x1 → ∀ Q : Int → MM → Prop, (∀ R33, KRq C0 R0 E (k + 1 + 1) A1 R33 → R33 87 r = x1 + 1 → R33 88 i = 2 → nr (C0 6 k) (R33 82 i) → R33 91 i = -1 → FAt R R33 i r → w_X12_readVariable (fun r34 M35 => ri_ r34 → 0 ≤ i ∧ i < 48 ∧ (∀ M36, M36 = ux_ M35 90 i r34 → Q 0 M36)) R33) → w_X12_readAtomOf_b69 Q r 0 R := fun R hR h87 Q hq => by
      refine ref R hR h87 Q 0 (fun R10 h10 y1 y2 y3 => ⟨fun _ => q_adv hT h10 hk (by omega) (fun R11 q1 q2 _ => ?_), fun q => absurd rfl q⟩)
      refine r_isS q1.2.1.2.2 (x := 0) (by decide) (fun z => absurd z w4) (fun _ _ => ⟨fun _ => ?_, fun q => absurd rfl q⟩) rfl
      refine r_isS q1.2.1.2.2 (x := 5) (by decide) (fun _ _ => ⟨fun q => absurd q (by decide), fun _ => ⟨i0, i48, fun M30 e30 => ⟨i0, i48, fun M31 e31 => ?_⟩⟩⟩) (fun z => absurd w9 z) rfl
      have h31 : KRq C0 R0 E (k + 1) A1 M31 := by
        have h30 : KRq C0 R0 E (k + 1) A1 M30 := by rw [e30]; exact KRq_w q1 (by decide) (by decide) _ _ (fun j _ => by rw [g1 261 (by decide) (by decide)]) (fun p hp => g1 p (by omega) (by omega))
        obtain ⟨a1, a2, a3, a4⟩ := h30
        refine ⟨by rw [e31]; exact QFr_u a1 (by decide) (by decide) _ _, ?_, by rw [e31, ux_g _ _ _ (by decide)]; exact a3, RUn_e a4 (fun _ _ => by rw [e31, ux_g _ _ _ (by decide)]) (fun q hq => by rw [e31, ux_g _ _ _ (by omega)])⟩
        unfold Wr tk
        rw [e31, ux_g _ _ _ (by decide), ux_g _ _ _ (by decide)]; exact a2
      have f31 : FAt R M31 i r := by rw [e31, e30]; exact FAt_u (FAt_u (FAt_A y3 (fun q a _ _ _ => q2.1 q a)) (Or.inr ⟨by decide, by decide⟩) _) (Or.inl rfl) _
      refine q_adv hT h31 k1 (by omega) (fun R33 q3 q4 _ => hq R33 q3 ?_ ?_ ?_ ?_ (FAt_A f31 (fun q a _ _ _ => q4.1 q a)))
      · rw [q4.1 87 (by decide), e31, ux_c _ _ _ _ (by decide), e30, ux_c _ _ _ _ (by decide), q2.1 87 (by decide)]; exact y1
      · rw [q4.1 88 (by decide), e31, ux_c _ _ _ _ (by decide), e30, ux_s]
      · rw [q4.1 82 (by decide), e31, ux_s]; exact (q_nm h10 w2).2
      · rw [q4.1 91 (by decide), e31, ux_c _ _ _ _ (by decide), e30, ux_c _ _ _ _ (by decide), q2.1 91 (by decide)]; exact y2
    rcases J_v hT k2 oA1 with ⟨v, A2, o1, o2, o3, ⟨o4, o5, o6⟩, k3, cC, rR⟩ | ⟨f, pl, f0, cC, rR⟩
    · have v3 : v < 3 := by have := o1.2.2.2.2.2.1; omega
      obtain ⟨A3, e3⟩ : ∃ A3, A3 = ux_ (ux_ (ux_ A2 268 i v) 269 i v) 261 15 (jor (A 261 15) (jshl 1 v)) := ⟨_, rfl⟩
      have g3 : ∀ q, q ≠ 261 → q ≠ 268 → q ≠ 269 → A3 q = A2 q := fun q a b c => by rw [e3, ux_g _ _ _ a, ux_g _ _ _ c, ux_g _ _ _ b]
      have z3 : ∀ j, j ≠ 15 → A3 261 j = A2 261 j := fun j hj => by rw [e3, ux_i _ _ _ hj, ux_c _ _ _ _ (by decide), ux_c _ _ _ _ (by decide)]
      have s8 : ∀ j, A3 268 j = if j = i then v else A2 268 j := fun j => by rw [e3, ux_c _ _ _ _ (show (268 : Nat) ≠ 261 by decide), ux_c _ _ _ _ (show (268 : Nat) ≠ 269 by decide), ux_v]
      have s9 : ∀ j, A3 269 j = if j = i then v else A2 269 j := fun j => by rw [e3, ux_c _ _ _ _ (show (269 : Nat) ≠ 261 by decide), ux_v, ux_c _ _ _ _ (show (269 : Nat) ≠ 268 by decide)]
      have oA3 : OKA C0 A3 := by rw [e3]; exact OKA_15 (OKA_i (OKA_i o1 (by decide) (by decide) _ _) (by decide) (by decide) _ _) _
      have x267 : A3 267 = A1 267 := by rw [g3 267 (by decide) (by decide) (by decide), o4 267 (by decide) (by decide)]
      have x270 : A3 270 = A1 270 := by rw [g3 270 (by decide) (by decide) (by decide), o4 270 (by decide) (by decide)]
      have y267 : A3 267 i = 9 := by rw [x267, eA1, ux_c _ _ _ _ (by decide), ux_s]
      have d15 : A2 261 15 = A 261 15 := by rw [o5 15 (by decide), g1 261 (by decide) (by decide)]
      have jj := jshl_2 ⟨v.toNat, by omega⟩
      simp only [show ((v.toNat : Nat) : Int) = v from by omega] at jj
      refine Or.inl ⟨k + 1 + 1 + 1, A3, k3, oA3, ⟨fun q a b => by rw [g3 q (by omega) (by omega) (by omega), o4 q (by omega) (by omega), g1 q (by omega) (by omega)], fun q j a b hj => ?_, by rw [z3 3 (by decide), o5 3 (by decide), g1 261 (by decide) (by decide)], by rw [z3 14 (by decide)]; rw [g1 261 (by decide) (by decide)] at o6; exact o6, by rw [z3 16 (by decide), o5 16 (by decide), g1 261 (by decide) (by decide)]; exact Int.le_refl _, fun j _ _ _ => by rw [g3 273 (by decide) (by decide) (by decide), o4 273 (by decide) (by decide), g1 273 (by decide) (by decide)]⟩, Or.inl ⟨Or.inr y267, by rw [s8, s9, if_pos rfl, if_pos rfl, jj, e3, ux_s]⟩, ⟨by rw [s8, if_pos rfl]; exact o2, by rw [s8, if_pos rfl, z3 14 (by decide)]; exact o3, by rw [s9, if_pos rfl]; exact o2, by rw [s9, if_pos rfl, z3 14 (by decide)]; exact o3, Or.inl ⟨y267, by rw [s8, s9, if_pos rfl, if_pos rfl]⟩⟩, fun C hC Q hq => cls C hC Q (fun C1 h1 => ⟨fun q => ?_, fun _ _ => ?_, fun _ q => by omega, fun _ _ q => absurd w9 q⟩), fun R hR h87 Q hq => refc R hR h87 Q (fun R33 h33 y1 y2 y3 y4 y5 => rR R33 h33 _ (fun R' h' fv _ => ⟨i0, i48, fun M36 e36 => hq M36 ?_ ?_ ?_ ?_⟩))⟩
      · by_cases u : q = 268
        · rw [u, s8, if_neg hj, o4 268 (by decide) (by decide), g1 268 (by decide) (by decide)]
        · by_cases u2 : q = 269
          · rw [u2, s9, if_neg hj, o4 269 (by decide) (by decide), g1 269 (by decide) (by decide)]
          · have : q = 267 ∨ q = 270 := by omega
            rcases this with rfl | rfl
            · rw [x267, eA1, ux_c _ _ _ _ (by decide), ux_i _ _ _ hj]
            · rw [x270, eA1, ux_i _ _ _ hj, ux_c _ _ _ _ (by decide)]
      · exact absurd q (by rintro (w | w); exact lk w; exact w4 w)
      · refine k_next hT.1 h1 k1 (by omega) (fun C2 h2 => ⟨i0, i48, fun M19 e19 => ⟨i0, i48, fun M20 e20 => ?_⟩⟩)
        refine cC M20 (by rw [e20, e19, eA1]; exact KC_u (KC_u h2 (by decide) (by decide) _ _) (by decide) (by decide) _ _) _ (fun C3 h3 _ => ⟨i0, i48, fun M23 e23 => ⟨i0, i48, fun v24 e24 _ => ⟨i0, i48, fun M25 e25 v26 e26 _ => ⟨i0, i48, fun v27 e27 _ => ?_⟩⟩⟩⟩)
        have z24 : v24 = v := by rw [e24, e23, ux_s]
        have z27 : M25 268 i = v := by rw [e25, ux_c _ _ _ _ (by decide), e23, ux_s]
        have h25 : KC C0 (k + 1 + 1 + 1) (ux_ (ux_ A2 268 i v) 269 i v) M25 := by rw [e25, e23, z24]; exact KC_u (KC_u h3 (by decide) (by decide) _ _) (by decide) (by decide) _ _
        have z26 : v26 = A 261 15 := by rw [e26, h25.2.2.2.1 15 (by decide) (by decide), ux_c _ _ _ _ (by decide), ux_c _ _ _ _ (by decide), d15]
        refine ⟨fun _ => ⟨i0, i48, fun v29 e29 _ => ?_⟩, fun q => by omega⟩
        rw [e29, z27]
        unfold w_X7_readPart_b224
        intro M1 em
        refine ⟨i0, i48, fun v2 ev2 _ => ⟨fun q => ?_, fun _ => hq M1 ?_⟩⟩
        · rw [ev2, em, ux_c _ _ _ _ (by decide), z27] at q; omega
        · rw [em, e3, z26]; exact KC_i h25 (by decide) (by decide) _
      · rw [e36]; exact KRq_w h' (by decide) (by decide) _ _ (fun j hj => z3 j (by omega)) (fun p hp => g3 p (by omega) (by omega) (by omega))
      · rw [e36, ux_c _ _ _ _ (by decide), fv.1 87 (by decide) (by decide) (by decide)]; exact y1
      · have r90 : M36 90 i = v := by rw [e36, ux_s]
        have r88 : M36 88 i = 2 := by rw [e36, ux_c _ _ _ _ (by decide), fv.1 88 (by decide) (by decide) (by decide)]; exact y2
        have r82 : M36 82 i = R33 82 i := by rw [e36, ux_c _ _ _ _ (by decide), fv.1 82 (by decide) (by decide) (by decide)]
        have r91 : M36 91 i = -1 := by rw [e36, ux_c _ _ _ _ (by decide), fv.1 91 (by decide) (by decide) (by decide)]; exact y4
        have x270i : A3 270 i = C0 6 k := by rw [x270, eA1, ux_s]
        unfold ATM AtK
        rw [y267, s8, s9, if_pos rfl, if_pos rfl, r90, r88, r82, r91, x270i, z3 14 (by decide)]
        exact ⟨Or.inr (Or.inr (Or.inl ⟨rfl, rfl, y3, rfl, rfl⟩)), rfl, o2, o3, o2, o3⟩
      · rw [e36]; exact FAt_u (FAt_A y5 (fun q a _ b _ => fv.1 q a b b)) (Or.inr ⟨by decide, by decide⟩) _
    · refine Or.inr ⟨f, pl, f0, fun C hC Q hq => cls C hC Q (fun C1 h1 => ⟨fun q => ?_, fun _ _ => ?_, fun _ q => by omega, fun _ _ q => absurd w9 q⟩), fun R hR h87 Q hq => refc R hR h87 Q (fun R33 h33 y1 y2 y3 y4 y5 => rR R33 h33 _ (fun R' h' _ _ => ⟨i0, i48, fun M36 e36 => hq M36 (by rw [e36]; exact KRf_u h' (by decide) (by decide) _ _)⟩))⟩
      · exact absurd q (by rintro (w | w); exact lk w; exact w4 w)
      · refine k_next hT.1 h1 k1 (by omega) (fun C2 h2 => ⟨i0, i48, fun M19 e19 => ⟨i0, i48, fun M20 e20 => ?_⟩⟩)
        refine cC M20 (by rw [e20, e19, eA1]; exact KC_u (KC_u h2 (by decide) (by decide) _ _) (by decide) (by decide) _ _) _ (fun C3 h3 _ => ⟨i0, i48, fun M23 e23 => ⟨i0, i48, fun v24 e24 _ => ⟨i0, i48, fun M25 e25 v26 e26 _ => ⟨i0, i48, fun v27 e27 _ => ?_⟩⟩⟩⟩)
        have z27 : M25 268 i = -1 := by rw [e25, ux_c _ _ _ _ (by decide), e23, ux_s]
        refine ⟨fun q => absurd (by rw [e27]; exact z27) q, fun _ => ?_⟩
        unfold w_X7_readPart_b224
        intro M1 em
        refine ⟨i0, i48, fun v2 ev2 _ => ⟨fun _ => hq M1 ?_, fun q => absurd (by rw [ev2, em, ux_c _ _ _ _ (by decide)]; exact z27) q⟩⟩
        have h25 : KF C0 f pl M25 := by rw [e25, e23]; exact KF_u (KF_u h3 (by decide) (by decide) _ _) (by decide) (by decide) _ _
        rw [em]
        exact ⟨⟨fun p a b => by rw [ux_g _ _ _ (by omega)]; exact h25.1.1 p a b, fun j hj => by rw [ux_g _ _ _ (by decide)]; exact h25.1.2.1 j hj, fun j hj => by rw [ux_i _ _ _ (by omega)]; exact h25.1.2.2 j hj⟩, by rw [ux_i _ _ _ (by decide)]; exact h25.2.1, by rw [ux_i _ _ _ (by decide)]; exact h25.2.2⟩
  by_cases we : C0 4 (k + 1 : Nat) = 12 ∨ C0 4 (k + 1 : Nat) = 20
  · -- equal, unequal
    have k2 := TX_lt hT k1 (by omega)
    obtain ⟨kd, hkd⟩ : ∃ kd : Int, kd = 7 ∧ C0 4 (k + 1 : Nat) = 12 ∨ kd = 8 ∧ C0 4 (k + 1 : Nat) = 20 := by
      rcases we with w | w
      · exact ⟨7, Or.inl ⟨rfl, w⟩⟩
      · exact ⟨8, Or.inr ⟨rfl, w⟩⟩
    obtain ⟨A1, eA1⟩ : ∃ A1, A1 = ux_ A 267 i kd := ⟨_, rfl⟩
    have oA1 : OKA C0 A1 := by rw [eA1]; exact OKA_i hA (by decide) (by decide) _ _
    have g1 : ∀ q, q ≠ 267 → A1 q = A q := fun q a => by rw [eA1, ux_g _ _ _ a]
    have cls2 : ∀ C, KC C0 k A C → ∀ Q : Int → MM → Prop, (∀ C1, KC C0 (k + 1) A1 C1 → w_X7_variableOf (fun r2 M3 => ri_ r2 → 0 ≤ i ∧ i < 48 ∧ (∀ M4, M4 = ux_ M3 268 i r2 → 0 ≤ i ∧ i < 48 ∧ (∀ v5, v5 = M4 268 i → ri_ v5 → (¬ v5 = (-1) → w_X9_nextWord (fun _ M8 => w_X7_readVariable (fun r9 M10 => ri_ r9 → 0 ≤ i ∧ i < 48 ∧ (∀ M11, M11 = ux_ M10 269 i r9 → 0 ≤ i ∧ i < 48 ∧ (∀ v12, v12 = M11 269 i → ri_ v12 → (v12 = (-1) → Q 0 M11) ∧ (¬ v12 = (-1) → Q 1 M11)))) M8) M4) ∧ (v5 = (-1) → w_X7_fail (fun r14 M15 => (r14 = 0 ∨ r14 = 1) → Q r14 M15) 4 (C0 5 k) M4)))) (C0 6 k) C1) → w_X7_readPart Q i C := fun C hC Q hq => cls C hC Q (fun C1 h1 => ⟨fun q => absurd q (by rintro (w | w); exact lk w; exact w4 w), fun _ q => absurd q w9, fun _ _ => by
      have go : ∀ s0, s0 = kd → w_X7_readPart_b297 Q i (C0 6 k) (C0 5 k) s0 i C1 := fun s0 es => by
        unfold w_X7_readPart_b297
        exact ⟨i0, i48, fun M1 e1 => hq M1 (by rw [e1, es, eA1]; exact KC_u h1 (by decide) (by decide) _ _)⟩
      unfold w_X7_readPart_b273
      intro v1 e1 _
      rw [h1.2.1.1] at e1
      exact ⟨fun z => go 8 (by omega), fun z => go 7 (by omega)⟩, fun _ _ _ q1 q2 => by omega⟩)
    have ref2 : ∀ R, KRq C0 R0 E k A R → R 87 r = x1 → ∀ Q : Int → MM → Prop, (∀ R4, KRq C0 R0 E k A1 R4 → R4 87 r = x1 + 1 → R4 88 i = kd - 4 → FAt R R4 i r → w_X12_readVariable (fun r5 M6 => ri_ r5 → 0 ≤ i ∧ i < 48 ∧ (∀ M7, M7 = ux_ M6 90 i r5 → (∀ v8, v8 = M7 0 83 → ri_ v8 → (¬ v8 = 0 → w_X12_readAtomOf_b307 Q i M7) ∧ (v8 = 0 → w_X12_advance (fun _ M11 => w_X12_readAtomOf_b307 Q i M11) M7)))) R4) → w_X12_readAtomOf_b69 Q r 0 R := fun R hR h87 Q hq => by
      refine ref R hR h87 Q 0 (fun R10 h10 y1 y2 y3 => ⟨fun _ => q_adv hT h10 hk (by omega) (fun R11 q1 q2 _ => ?_), fun q => absurd rfl q⟩)
      have tkk := q1.2.1.2.2
      have go : ∀ s0, s0 = kd - 4 → w_X12_readAtomOf_b275 Q i (C0 5 k) s0 i R11 := fun s0 es => by
        unfold w_X12_readAtomOf_b275
        refine ⟨i0, i48, fun M1 e1 M2 e2 => ?_⟩
        have h1 : KRq C0 R0 E (k + 1) A1 M1 := by rw [e1]; exact KRq_w q1 (by decide) (by decide) _ _ (fun j _ => by rw [g1 261 (by decide)]) (fun p hp => g1 p (by omega))
        obtain ⟨u1, u2, u3⟩ := KRq_78 h1 (C0 5 k)
        rw [← e2] at u1 u2 u3
        have f1 : FAt R M1 i r := by rw [e1]; exact FAt_u (FAt_A y3 (fun q a _ _ _ => q2.1 q a)) (Or.inr ⟨by decide, by decide⟩) _
        refine q_back' hT u1 u2 u3 hk (by rw [e2, ux_s]) (fun R4 q3 q4 => hq R4 q3 ?_ ?_ (FAt_A f1 (fun q a _ _ _ => by rw [q4.1 q a, e2, ux_g _ _ _ a])))
        · rw [q4.1 87 (by decide), e2, ux_g _ _ _ (by decide), e1, ux_c _ _ _ _ (by decide), q2.1 87 (by decide)]; exact y1
        · rw [q4.1 88 (by decide), e2, ux_g _ _ _ (by decide), e1, ux_s, es]
      have b255 : w_X12_readAtomOf_b255 Q i (C0 5 k) R11 := by
        unfold w_X12_readAtomOf_b255
        exact r_isS tkk (x := 8) (by decide) (fun z _ => ⟨fun q => absurd q (by decide), fun _ => go 3 (by omega)⟩) (fun z _ => ⟨fun _ => go 4 (by omega), fun q => absurd rfl q⟩) rfl
      refine r_isS tkk (x := 0) (by decide) (fun z => absurd z w4) (fun _ _ => ⟨fun _ => ?_, fun q => absurd rfl q⟩) rfl
      refine r_isS tkk (x := 5) (by decide) (fun z => absurd z w9) (fun _ _ => ⟨fun _ => ?_, fun q => absurd rfl q⟩) rfl
      refine r_isS tkk (x := 8) (by decide) (fun z _ => ⟨fun _ => b255, fun q => absurd q (by decide)⟩) (fun z _ => ⟨fun q => absurd rfl q, fun _ => ?_⟩) rfl
      exact r_isS2 tkk (x := 20) (Or.inl rfl) (fun z _ => ⟨fun q => absurd q (by decide), fun _ => b255⟩) (fun z _ => by omega) rfl
    have b307F : ∀ (Q : Int → MM → Prop) (R' : MM) f pl, 0 < f → KRf R0 f pl R' → (∀ R'', KRf R0 f pl R'' → Q 0 R'') → w_X12_readAtomOf_b307 Q i R' := fun Q R' f pl f0 k1 hq => by
      unfold w_X12_readAtomOf_b307 w_X12_readAtomOf_b327
      intro v1 e1 _
      exact ⟨fun _ => ⟨i0, i48, fun M1 em => hq M1 (by rw [em]; exact KRf_u k1 (by decide) (by decide) _ _)⟩, fun z => by rw [e1, k1.2.1] at z; omega⟩
    rcases J_v2 hT hk oA1 hp with ⟨va, A2, o1, o2, o3, ⟨o4, o5, o6⟩, -, cC, rR⟩ | ⟨cC, rR⟩
    · obtain ⟨A2b, eb⟩ : ∃ A2b, A2b = ux_ A2 268 i va := ⟨_, rfl⟩
      have ob : OKA C0 A2b := by rw [eb]; exact OKA_i o1 (by decide) (by decide) _ _
      have gb : ∀ q, q ≠ 268 → A2b q = A2 q := fun q hq => by rw [eb, ux_g _ _ _ hq]
      rcases J_v hT k2 ob with ⟨vb, A3, s1, s2, s3, ⟨s4, s5, s6⟩, k3, cD, rD⟩ | ⟨f, pl, f0, cD, rD⟩
      · obtain ⟨A4, e4⟩ : ∃ A4, A4 = ux_ A3 269 i vb := ⟨_, rfl⟩
        have o4' : OKA C0 A4 := by rw [e4]; exact OKA_i s1 (by decide) (by decide) _ _
        have g4 : ∀ q, q ≠ 269 → A4 q = A3 q := fun q hq => by rw [e4, ux_g _ _ _ hq]
        have z61 : ∀ j, j ≠ 14 → A4 261 j = A 261 j := fun j hj => by rw [g4 261 (by decide), s5 j hj, gb 261 (by decide), o5 j hj, g1 261 (by decide)]
        have x267 : A4 267 = A1 267 := by rw [g4 267 (by decide), s4 267 (by decide) (by decide), gb 267 (by decide), o4 267 (by decide) (by decide)]
        have x268 : A4 268 = A2b 268 := by rw [g4 268 (by decide), s4 268 (by decide) (by decide)]
        have y267 : A4 267 i = kd := by rw [x267, eA1, ux_s]
        have y268 : A4 268 i = va := by rw [x268, eb, ux_s]
        have y269 : A4 269 i = vb := by rw [e4, ux_s]
        have l14 : A 261 14 ≤ A4 261 14 := by rw [g4 261 (by decide)]; rw [gb 261 (by decide)] at s6; rw [g1 261 (by decide)] at o6; omega
        have va14 : va < A4 261 14 := by rw [g4 261 (by decide)]; rw [gb 261 (by decide)] at s6; omega
        refine Or.inl ⟨k + 1 + 1 + 1, A4, k3, o4', ⟨fun q a b => by rw [g4 q (by omega), s4 q (by omega) (by omega), gb q (by omega), o4 q (by omega) (by omega), g1 q (by omega)], fun q j a b hj => ?_, z61 3 (by decide), l14, by rw [z61 16 (by decide)]; exact Int.le_refl _, fun j _ _ _ => by rw [g4 273 (by decide), s4 273 (by decide) (by decide), gb 273 (by decide), o4 273 (by decide) (by decide), g1 273 (by decide)]⟩, Or.inr ⟨by rw [y267]; omega, z61 15 (by decide)⟩, ⟨by rw [y268]; exact o2, by rw [y268]; exact va14, by rw [y269]; exact s2, by rw [y269, g4 261 (by decide)]; exact s3, Or.inr (by rw [y267]; omega)⟩, fun C hC Q hq => cls2 C hC Q (fun C1 h1 => cC (k + 1) C1 h1 _ (fun C2 h2 _ => ⟨i0, i48, fun M4 e4' => ⟨i0, i48, fun v5 e5 _ => ⟨fun _ => ?_, fun q => by rw [e5, e4', ux_s] at q; omega⟩⟩⟩)), fun R hR h87 Q hq => ref2 R hR h87 Q (fun R4 h4 y1 y2 y3 => rR R4 h4 _ (fun R5 h5 fv _ => ⟨i0, i48, fun M7 e7 v8 e8 _ => ?_⟩))⟩
        · by_cases u : q = 269
          · rw [u, e4, ux_i _ _ _ hj, s4 269 (by decide) (by decide), gb 269 (by decide), o4 269 (by decide) (by decide), g1 269 (by decide)]
          · by_cases u2 : q = 268
            · rw [u2, x268, eb, ux_i _ _ _ hj, o4 268 (by decide) (by decide), g1 268 (by decide)]
            · by_cases u3 : q = 267
              · rw [u3, x267, eA1, ux_i _ _ _ hj]
              · rw [g4 q u, s4 q (by omega) (by omega), gb q u2, o4 q (by omega) (by omega), g1 q u3]
        · have h4' : KC C0 (k + 1) A2b M4 := by rw [e4', eb]; exact KC_u h2 (by decide) (by decide) _ _
          refine k_next hT.1 h4' k1 (by omega) (fun C5 h5 => cD C5 h5 _ (fun C6 h6 _ => ⟨i0, i48, fun M11 e11 => ⟨i0, i48, fun v12 e12 _ => ⟨fun q => by rw [e12, e11, ux_s] at q; omega, fun _ => hq M11 (by rw [e11, e4]; exact KC_u h6 (by decide) (by decide) _ _)⟩⟩⟩))
        · have h7 : KRq C0 R0 E (k + 1) A2b M7 := by rw [e7]; exact KRq_w h5 (by decide) (by decide) _ _ (fun j _ => by rw [gb 261 (by decide)]) (fun p hp => gb p (by omega))
          have f7 : FAt R M7 i r := by rw [e7]; exact FAt_u (FAt_A y3 (fun q a _ b _ => fv.1 q a b b)) (Or.inr ⟨by decide, by decide⟩) _
          refine ⟨fun q => absurd (by rw [e8]; exact h7.2.2.1) q, fun _ => q_adv hT h7 k1 (by omega) (fun R11 q1 q2 _ => ?_)⟩
          unfold w_X12_readAtomOf_b307
          intro v1 ev1 _
          refine ⟨fun q => absurd (by rw [ev1]; exact q1.2.2.1) q, fun _ => rD R11 q1 _ (fun R12 h12 fv2 _ => ?_)⟩
          unfold w_X12_readAtomOf_b327
          refine ⟨i0, i48, fun M1 em => hq M1 ?_ ?_ ?_ ?_⟩
          · rw [em]; exact KRq_w h12 (by decide) (by decide) _ _ (fun j _ => by rw [g4 261 (by decide)]) (fun p hp => g4 p (by omega))
          · rw [em, ux_c _ _ _ _ (by decide), fv2.1 87 (by decide) (by decide) (by decide), q2.1 87 (by decide), e7, ux_c _ _ _ _ (by decide), fv.1 87 (by decide) (by decide) (by decide)]; exact y1
          · have r91 : M1 91 i = vb := by rw [em, ux_s]
            have r90 : M1 90 i = va := by rw [em, ux_c _ _ _ _ (by decide), fv2.1 90 (by decide) (by decide) (by decide), q2.1 90 (by decide), e7, ux_s]
            have r88 : M1 88 i = kd - 4 := by rw [em, ux_c _ _ _ _ (by decide), fv2.1 88 (by decide) (by decide) (by decide), q2.1 88 (by decide), e7, ux_c _ _ _ _ (by decide), fv.1 88 (by decide) (by decide) (by decide)]; exact y2
            unfold ATM AtK
            rw [y267, y268, y269, r91, r90, r88]
            refine ⟨?_, rfl, o2, va14, s2, by rw [g4 261 (by decide)]; exact s3⟩
            rcases hkd with ⟨w, -⟩ | ⟨w, -⟩
            · exact Or.inr (Or.inr (Or.inr (Or.inl ⟨w, by omega, rfl⟩)))
            · exact Or.inr (Or.inr (Or.inr (Or.inr ⟨w, by omega, rfl⟩)))
          · rw [em]; exact FAt_u (FAt_A (FAt_A f7 (fun q a _ _ _ => q2.1 q a)) (fun q a _ b _ => fv2.1 q a b b)) (Or.inr ⟨by decide, by decide⟩) _
      · refine Or.inr ⟨f, pl, f0, fun C hC Q hq => cls2 C hC Q (fun C1 h1 => cC (k + 1) C1 h1 _ (fun C2 h2 _ => ⟨i0, i48, fun M4 e4' => ⟨i0, i48, fun v5 e5 _ => ⟨fun _ => ?_, fun q => by rw [e5, e4', ux_s] at q; omega⟩⟩⟩)), fun R hR h87 Q hq => ref2 R hR h87 Q (fun R4 h4 y1 y2 y3 => rR R4 h4 _ (fun R5 h5 fv _ => ⟨i0, i48, fun M7 e7 v8 e8 _ => ?_⟩))⟩
        · have h4' : KC C0 (k + 1) A2b M4 := by rw [e4', eb]; exact KC_u h2 (by decide) (by decide) _ _
          exact k_next hT.1 h4' k1 (by omega) (fun C5 h5 => cD C5 h5 _ (fun C6 h6 _ => ⟨i0, i48, fun M11 e11 => ⟨i0, i48, fun v12 e12 _ => ⟨fun _ => hq M11 (by rw [e11]; exact KF_u h6 (by decide) (by decide) _ _), fun q => absurd (by rw [e12, e11, ux_s]) q⟩⟩⟩))
        · have h7 : KRq C0 R0 E (k + 1) A2b M7 := by rw [e7]; exact KRq_w h5 (by decide) (by decide) _ _ (fun j _ => by rw [gb 261 (by decide)]) (fun p hp => gb p (by omega))
          refine ⟨fun q => absurd (by rw [e8]; exact h7.2.2.1) q, fun _ => q_adv hT h7 k1 (by omega) (fun R11 q1 q2 _ => ?_)⟩
          unfold w_X12_readAtomOf_b307
          intro v1 ev1 _
          refine ⟨fun q => absurd (by rw [ev1]; exact q1.2.2.1) q, fun _ => rD R11 q1 _ (fun R12 h12 _ _ => ?_)⟩
          unfold w_X12_readAtomOf_b327
          exact ⟨i0, i48, fun M1 em => hq M1 (by rw [em]; exact KRf_u h12 (by decide) (by decide) _ _)⟩
    · refine Or.inr ⟨4, C0 5 k, by decide, fun C hC Q hq => cls2 C hC Q (fun C1 h1 => cC (k + 1) C1 h1 _ (fun _ => ⟨i0, i48, fun M4 e4' => ⟨i0, i48, fun v5 e5 _ => ⟨fun q => absurd (by rw [e5, e4', ux_s]) q, fun _ => k_fail (A := ux_ A1 268 i (-1)) (k := k + 1) (by rw [e4']; exact KC_u h1 (by decide) (by decide) _ _) (fun C' h' _ => hq C' h')⟩⟩⟩)), fun R hR h87 Q hq => ref2 R hR h87 Q (fun R4 h4 y1 y2 y3 => rR R4 h4 _ (fun R5 h5 _ _ => ⟨i0, i48, fun M7 e7 v8 e8 _ => ?_⟩))⟩
      have h7 : KRf R0 4 (C0 5 k) M7 := by rw [e7]; exact KRf_u h5 (by decide) (by decide) _ _
      exact ⟨fun _ => b307F Q M7 _ _ (by decide) h7 hq, fun q => by rw [e8, h7.2.1] at q; omega⟩
  · -- a word that is none of these
    refine Or.inr ⟨if C0 4 (k + 1 : Nat) = 1 then 2 else 1, C0 5 (k + 1 : Nat), flt_pos, fun C hC Q hq => cls C hC Q (fun C1 h1 => ⟨fun q => absurd q (by rintro (w | w); exact lk w; exact w4 w), fun _ q => absurd q w9, fun _ q => absurd q we, fun _ _ _ _ _ => k_refuse h1 (fun C' h' _ => hq C' h')⟩), fun R hR h87 Q hq => ref R hR h87 Q 0 (fun R10 h10 y1 y2 y3 => ⟨fun _ => q_adv hT h10 hk (by omega) (fun R11 q1 q2 _ => ?_), fun q => absurd rfl q⟩)⟩
    have tkk := q1.2.1.2.2
    refine r_isS tkk (x := 0) (by decide) (fun z => absurd z w4) (fun _ _ => ⟨fun _ => ?_, fun q => absurd rfl q⟩) rfl
    refine r_isS tkk (x := 5) (by decide) (fun z => absurd z w9) (fun _ _ => ⟨fun _ => ?_, fun q => absurd rfl q⟩) rfl
    refine r_isS tkk (x := 8) (by decide) (fun z => absurd (Or.inl z) we) (fun z _ => ⟨fun q => absurd rfl q, fun _ => ?_⟩) rfl
    exact r_isS2 tkk (x := 20) (Or.inl rfl) (fun z => absurd (Or.inr z) we) (fun z _ => ⟨fun _ => q_wrong q1 (fun R' k1 _ => hq R' k1), fun q => absurd rfl q⟩) rfl
