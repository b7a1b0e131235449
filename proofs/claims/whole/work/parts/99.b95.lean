/-! a fold, whole -/
variable {c : Nat} {C0 R0 : MM} {E : Nat → Int} {L : Nat} {b it : Int} {SM ST : SMt} {q : Int}
/-- the head: the fold's word, its nest, ( NAME in -/
theorem J_head {k : Nat} {n fo s st : Int} {nm nr_ sf : Int → Int} (hT : TX C0 R0 E L) (b0 : 0 ≤ b) (b1 : b ≤ 360) (q0 : 0 ≤ q) (q1 : q ≤ 10) (d1 e1 : Nat) (he1 : 1 ≤ e1) (hk : k ≤ L) (n0 : 0 ≤ n) (n1 : n ≤ 120) (s0 : 0 ≤ s) (s1 : s ≤ fo) (fq : fo ≤ q) (hw0 : 44 ≤ C0 4 k) (hw1 : C0 4 k ≤ 49) :
    (q < 10 ∧ n < 120 ∧ k + 4 ≤ L ∧ C0 4 ((k + 2 : Nat) : Int) = 2 ∧
      (∀ C w wq, SC c C0 k n q fo it s w st nm sf wq C → ∀ Q, (∀ C6, SC c C0 (k + 4) (n + 1) (q + 1) fo it s w st nm sf wq C6 → (∀ j, 0 < j → C6 (c + j) = C (c + j)) → ∀ v13, v13 = C0 6 ((k + 2 : Nat) : Int) → (∀ v20, v20 = C6 c 12 → ri_ v20 → ri_ (v20 + 1) ∧ ((∀ M22, M22 = ux_ C6 c 12 (v20 + 1) → (∀ v23, v23 = M22 c 12 → ri_ v23 → w_X6_emit c (fun r24 M25 => ri_ r24 → gq_ c d1 13 (fun r26 M27 => (r26 = 0 ∨ r26 = 1) → (¬ r26 = 0 → (∀ v29, v29 = M27 c 16 → ri_ v29 → 0 ≤ v29 ∧ v29 < 10 ∧ (∀ M30, M30 = ux_ M27 (c + 5) v29 v13 → (∀ v31, v31 = M30 c 16 → ri_ v31 → 0 ≤ v31 ∧ v31 < 10 ∧ (∀ M32, M32 = ux_ M30 (c + 6) v31 v23 → (∀ v33, v33 = M32 c 16 → ri_ v33 → ri_ (v33 + 1) ∧ ((∀ M35, M35 = ux_ M32 c 16 (v33 + 1) → gq_ c d1 12 (fun r36 M37 => (r36 = 0 ∨ r36 = 1) → (¬ r36 = 0 → (∀ v39, v39 = M37 c 16 → ri_ v39 → ri_ (v39 - 1) ∧ ((∀ M41, M41 = ux_ M37 c 16 (v39 - 1) → (∀ v42, v42 = M41 c 12 → ri_ v42 → ri_ (v42 - 1) ∧ ((∀ M44, M44 = ux_ M41 c 12 (v42 - 1) → (∀ v45, v45 = M44 c 11 → ri_ v45 → ri_ (v45 - 1) ∧ ((∀ M47, M47 = ux_ M44 c 11 (v45 - 1) → Q 1 M47)))))))))) ∧ (r36 = 0 → Q 0 M37)) [C0 4 k, v23] M35)))))))) ∧ (r26 = 0 → Q 0 M27)) [v23] M25) 6 v23 0 (C0 4 k) M22))))) → gq_ c (d1 + 1) 11 Q [] C) ∧
      (∀ R, SR C0 R0 E b k n q it s nr_ R → ∀ Q, (∀ R4, SR C0 R0 E b (k + 4) (n + 1) (q + 1) it s nr_ R4 → (∀ j i, 66 ≤ j → j ≤ 70 → i ≠ b + n → R4 j i = R j i) → R4 66 (b + n) = C0 4 k - 31 → R4 67 (b + n) = -1 → R4 68 (b + n) = -1 → R4 69 (b + n) = -1 → R4 70 (b + n) = wdR C0 R0 k → w_X12_readFold_b82 (gr_ e1) Q (C0 4 k - 31) (b + n) (wdR C0 R0 (k + 2)) R4) → gr_ (e1 + 1) 9 Q [C0 4 k - 31] R)) ∨
    ∃ f pl, 0 < f ∧ (∀ C w wq, SC c C0 k n q fo it s w st nm sf wq C → ∀ Q, (∀ C', CF c C0 f pl C' → Q 0 C') → gq_ c (d1 + 1) 11 Q [] C) ∧ (∀ R, SR C0 R0 E b k n q it s nr_ R → ∀ Q, (∀ x R', RF R0 b q s f pl R' → Q x R') → gr_ (e1 + 1) 9 Q [C0 4 k - 31] R) := by
  have k1 := TX_lt hT hk (show C0 4 k ≠ 0 by omega)
  by_cases n120 : n = 120
  · refine Or.inr ⟨4, C0 5 k, by omega, fun C w wq hC Q hq => ?_, fun R hR Q hq => ?_⟩
    · show b_X6_readFold c (gq_ c d1) Q C
      unfold b_X6_readFold
      exact fun v1 e1' _ => c_addN hC n0 n1 (fun z => by omega) (fun _ C' hC' _ => ⟨fun _ => hq C' hC', fun z => absurd rfl z⟩)
    · show b_X12_readFold (gr_ e1) Q (C0 4 k - 31) R
      unfold b_X12_readFold
      exact r_node hR b0 b1 n0 n1 (fun z => by omega) (fun _ R1 h1 h78 r1 _ => r_nestF h1 (by omega) q0 q1 (fun R2 h2 v5 e5 _ => ⟨fun _ => r_f21F he1 h2 (by omega) q0 q1 s0 (by omega) (by omega) (by omega) b0 b1 (fun R' h => hq _ R' h), fun z => by have := h2.2.1; omega⟩))
  by_cases q10 : q = 10
  · refine Or.inr ⟨4, C0 5 k, by omega, fun C w wq hC Q hq => ?_, fun R hR Q hq => ?_⟩
    · show b_X6_readFold c (gq_ c d1) Q C
      unfold b_X6_readFold
      exact fun v1 e1' _ => c_addN hC n0 n1 (fun _ C1 h1 r1 _ => ⟨fun z => absurd z (by decide), fun _ => c_addQ h1 q0 q1 (fun z => by omega) (fun _ C' hC' _ => ⟨fun z => absurd rfl z, fun _ => hq C' hC'⟩)⟩) (fun z => by omega)
    · show b_X12_readFold (gr_ e1) Q (C0 4 k - 31) R
      unfold b_X12_readFold
      exact r_node hR b0 b1 n0 n1 (fun _ R1 h1 r1 r71 g66 g67 g68 g69 g70 g0 _ => r_nest h1 q0 q1 (fun z => by omega) (fun _ R2 h2 v5 e5 _ => ⟨fun _ => r_f21F he1 h2 (by omega) q0 q1 s0 (by omega) (by omega) (by omega) b0 b1 (fun R' h => hq _ R' h), fun z => by have := h2.2.1; omega⟩)) (fun z => by omega)
  by_cases hw4 : C0 4 ((k + 1 : Nat) : Int) = 4
  rotate_left
  · refine Or.inr ⟨if C0 4 ((k + 1 : Nat) : Int) = 1 then 2 else 1, C0 5 ((k + 1 : Nat) : Int), flt_pos, fun C w wq hC Q hq => ?_, fun R hR Q hq => ?_⟩
    · show b_X6_readFold c (gq_ c d1) Q C
      unfold b_X6_readFold
      exact fun v1 e1' _ => c_addN hC n0 n1 (fun _ C1 h1 r1 _ => ⟨fun z => absurd z (by decide), fun _ => c_addQ h1 q0 q1 (fun _ C2 h2 r2 _ => ⟨fun _ => c_next hT.1 h2 hk (by omega) (fun C3 h3 r3 => c_pass hT.1 h3 k1 (by decide) (fun z => absurd z hw4) (fun _ C4 h4 _ => ⟨fun z => absurd rfl z, fun _ => hq C4 h4⟩)), fun z => absurd z (by decide)⟩) (fun z => by omega)⟩) (fun z => by omega)
    · show b_X12_readFold (gr_ e1) Q (C0 4 k - 31) R
      unfold b_X12_readFold w_X12_readFold_b21
      exact r_node hR b0 b1 n0 n1 (fun _ R1 h1 r1 r71 g66 g67 g68 g69 g70 g0 _ => r_nest h1 q0 q1 (fun _ R2 h2 r2 v5 e5 _ => ⟨fun z => absurd (by rw [e5]; exact h2.2.2.1.1) z, fun _ => r_next hT h2 hk (by omega) (fun R3 h3 r3 => r_need hT h3 k1 (x := 0) (by omega) (by decide) (fun z => absurd (by omega) hw4) (fun _ R4 h4 v3 e3 _ => ⟨fun _ => r_f46F he1 h4 flt_pos q0 q1 s0 (by omega) (by omega) (by omega) b0 b1 (fun R' h => hq _ R' h), fun z => absurd (show (0 : Int) < v3 by rw [e3, h4.2.1]; exact flt_pos) (by omega)⟩))⟩) (fun z => by omega)) (fun z => by omega)
  have k2 := TX_lt hT k1 (show C0 4 ((k + 1 : Nat) : Int) ≠ 0 by omega)
  by_cases hw2 : C0 4 ((k + 1 + 1 : Nat) : Int) = 2
  rotate_left
  · refine Or.inr ⟨if C0 4 ((k + 1 + 1 : Nat) : Int) = 1 then 2 else 1, C0 5 ((k + 1 + 1 : Nat) : Int), flt_pos, fun C w wq hC Q hq => ?_, fun R hR Q hq => ?_⟩
    · show b_X6_readFold c (gq_ c d1) Q C
      unfold b_X6_readFold
      exact fun v1 e1' _ => c_addN hC n0 n1 (fun _ C1 h1 r1 _ => ⟨fun z => absurd z (by decide), fun _ => c_addQ h1 q0 q1 (fun _ C2 h2 r2 _ => ⟨fun _ => c_next hT.1 h2 hk (by omega) (fun C3 h3 r3 => c_pass hT.1 h3 k1 (by decide) (fun _ C4 h4 r4 _ => ⟨fun _ v13 e13 _ => c_pass hT.1 h4 k2 (by decide) (fun z => absurd z hw2) (fun _ C5 h5 _ => ⟨fun _ => hq C5 h5, fun z => absurd rfl z⟩), fun z => absurd z (by decide)⟩) (fun z => absurd hw4 z)), fun z => absurd z (by decide)⟩) (fun z => by omega)⟩) (fun z => by omega)
    · show b_X12_readFold (gr_ e1) Q (C0 4 k - 31) R
      unfold b_X12_readFold w_X12_readFold_b21
      exact r_node hR b0 b1 n0 n1 (fun _ R1 h1 r1 r71 g66 g67 g68 g69 g70 g0 _ => r_nest h1 q0 q1 (fun _ R2 h2 r2 v5 e5 _ => ⟨fun z => absurd (by rw [e5]; exact h2.2.2.1.1) z, fun _ => r_next hT h2 hk (by omega) (fun R3 h3 r3 => r_need hT h3 k1 (x := 0) (by omega) (by decide) (fun _ R4 h4 r4 v3 e3 _ => ⟨fun z => absurd (by rw [e3]; exact h4.2.2.1.1) z, fun _ => r_isN h4.2.1.2.2 (fun z => absurd z hw2) (fun _ _ => ⟨fun z => absurd rfl z, fun _ => r_wrong h4 (fun R5 h5 r5 => r_f46F he1 h5 flt_pos q0 q1 s0 (by omega) (by omega) (by omega) b0 b1 (fun R' h => hq _ R' h))⟩)⟩) (fun z => absurd (by omega) z))⟩) (fun z => by omega)) (fun z => by omega)
  have k3 := TX_lt hT k2 (show C0 4 ((k + 1 + 1 : Nat) : Int) ≠ 0 by omega)
  by_cases hw3 : C0 4 ((k + 1 + 1 + 1 : Nat) : Int) = 43
  rotate_left
  · refine Or.inr ⟨if C0 4 ((k + 1 + 1 + 1 : Nat) : Int) = 1 then 2 else 1, C0 5 ((k + 1 + 1 + 1 : Nat) : Int), flt_pos, fun C w wq hC Q hq => ?_, fun R hR Q hq => ?_⟩
    · show b_X6_readFold c (gq_ c d1) Q C
      unfold b_X6_readFold
      exact fun v1 e1' _ => c_addN hC n0 n1 (fun _ C1 h1 r1 _ => ⟨fun z => absurd z (by decide), fun _ => c_addQ h1 q0 q1 (fun _ C2 h2 r2 _ => ⟨fun _ => c_next hT.1 h2 hk (by omega) (fun C3 h3 r3 => c_pass hT.1 h3 k1 (by decide) (fun _ C4 h4 r4 _ => ⟨fun _ v13 e13 _ => c_pass hT.1 h4 k2 (by decide) (fun _ C5 h5 r5 _ => ⟨fun z => absurd z (by decide), fun _ => c_pass hT.1 h5 k3 (by decide) (fun z => absurd z hw3) (fun _ C6 h6 _ => ⟨fun z => absurd rfl z, fun _ => hq C6 h6⟩)⟩) (fun z => absurd hw2 z), fun z => absurd z (by decide)⟩) (fun z => absurd hw4 z)), fun z => absurd z (by decide)⟩) (fun z => by omega)⟩) (fun z => by omega)
    · show b_X12_readFold (gr_ e1) Q (C0 4 k - 31) R
      unfold b_X12_readFold w_X12_readFold_b21 w_X12_readFold_b46 w_X12_readFold_b62
      exact r_node hR b0 b1 n0 n1 (fun _ R1 h1 r1 r71 g66 g67 g68 g69 g70 g0 _ => r_nest h1 q0 q1 (fun _ R2 h2 r2 v5 e5 _ => ⟨fun z => absurd (by rw [e5]; exact h2.2.2.1.1) z, fun _ => r_next hT h2 hk (by omega) (fun R3 h3 r3 => r_need hT h3 k1 (x := 0) (by omega) (by decide) (fun _ R4 h4 r4 v3 e3 _ => ⟨fun z => absurd (by rw [e3]; exact h4.2.2.1.1) z, fun _ => r_isN h4.2.1.2.2 (fun _ _ => ⟨fun _ v1 e1' _ v2 e2 _ => ⟨fun z => absurd (by rw [e2]; exact h4.2.2.1.1) z, fun _ => r_next hT h4 k2 (by omega) (fun R5 h5 r5 v1 e1' _ => ⟨fun z => absurd (by rw [e1']; exact h5.2.2.1.1) z, fun _ => r_takeK hT h5 k3 (x := 13) (by omega) (by omega) (by decide) (fun z => absurd (by omega) hw3) (fun _ _ => ⟨fun z => absurd rfl z, fun _ => r_wrong h5 (fun R6 h6 r6 => r_f82F he1 h6 flt_pos q0 q1 s0 (by omega) (by omega) (by omega) b0 b1 (fun R' h => hq _ R' h))⟩)⟩)⟩, fun z => absurd z (by decide)⟩) (fun z => absurd hw2 z)⟩) (fun z => absurd (by omega) z))⟩) (fun z => by omega)) (fun z => by omega)
  have k4 := TX_lt hT k3 (show C0 4 ((k + 1 + 1 + 1 : Nat) : Int) ≠ 0 by omega)
  refine Or.inl ⟨by omega, by omega, k4, hw2, fun C w wq hC Q hq => ?_, fun R hR Q hq => ?_⟩
  · show b_X6_readFold c (gq_ c d1) Q C
    unfold b_X6_readFold
    intro v1 e1' _
    rw [show v1 = C0 4 k from by rw [e1']; exact hC.2.1.1]
    exact c_addN hC n0 n1 (fun _ C1 h1 r1 _ => ⟨fun z => absurd z (by decide), fun _ => c_addQ h1 q0 q1 (fun _ C2 h2 r2 _ => ⟨fun _ => c_next hT.1 h2 hk (by omega) (fun C3 h3 r3 => c_pass hT.1 h3 k1 (by decide) (fun _ C4 h4 r4 _ => ⟨fun _ v13 e13 _ => c_pass hT.1 h4 k2 (by decide) (fun _ C5 h5 r5 _ => ⟨fun z => absurd z (by decide), fun _ => c_pass hT.1 h5 k3 (by decide) (fun _ C6 h6 r6 _ => ⟨fun _ => hq C6 h6 (fun j j0 => by rw [r6 j j0, r5 j j0, r4 j j0, r3 j j0, r2 j j0, r1 j j0]) v13 (by rw [e13]; exact h4.2.1.2.2.1), fun z => absurd z (by decide)⟩) (fun z => absurd hw3 z)⟩) (fun z => absurd hw2 z), fun z => absurd z (by decide)⟩) (fun z => absurd hw4 z)), fun z => absurd z (by decide)⟩) (fun z => by omega)⟩) (fun z => by omega)
  · show b_X12_readFold (gr_ e1) Q (C0 4 k - 31) R
    unfold b_X12_readFold w_X12_readFold_b21 w_X12_readFold_b46 w_X12_readFold_b62
    refine r_node hR b0 b1 n0 n1 (fun _ R1 h1 r1 r71 g66 g67 g68 g69 g70 g0 _ => r_nest h1 q0 q1 (fun _ R2 h2 r2 v5 e5 _ => ⟨fun z => absurd (by rw [e5]; exact h2.2.2.1.1) z, fun _ => r_next hT h2 hk (by omega) (fun R3 h3 r3 => r_need hT h3 k1 (x := 0) (by omega) (by decide) (fun _ R4 h4 r4 v3 e3 _ => ⟨fun z => absurd (by rw [e3]; exact h4.2.2.1.1) z, fun _ => r_isN h4.2.1.2.2 (fun _ _ => ⟨fun _ v1 e1' _ v2 e2 _ => ⟨fun z => absurd (by rw [e2]; exact h4.2.2.1.1) z, fun _ => r_next hT h4 k2 (by omega) (fun R5 h5 r5 v1' e1'' _ => ⟨fun z => absurd (by rw [e1'']; exact h5.2.2.1.1) z, fun _ => r_takeK hT h5 k3 (x := 13) (by omega) (by omega) (by decide) (fun _ R6 h6 r6 _ => ⟨fun _ => ?_, fun z => absurd z (by decide)⟩) (fun z => absurd (by omega) z)⟩)⟩, fun z => absurd z (by decide)⟩) (fun z => absurd hw2 z)⟩) (fun z => absurd (by omega) z))⟩) (fun z => by omega)) (fun z => by omega)
    have rr : ∀ j, j ≠ 0 → R6 j = R1 j := fun j hj => by rw [r6 j hj, r5 j hj, r4 j hj, r3 j hj, r2 j hj]
    rw [show v1 = wdR C0 R0 (k + 2) from by rw [e1']; exact SR_wd h4 (show 2 ≤ C0 4 ((k + 1 + 1 : Nat) : Int) by omega)]
    exact hq R6 h6 (fun j i j0 j4 hi => by rw [rr j (by omega), r1 j (by omega) i hi]) (by rw [rr 66 (by omega), g66]) (by rw [rr 67 (by omega), g67]) (by rw [rr 68 (by omega), g68]) (by rw [rr 69 (by omega), g69]) (by rw [rr 70 (by omega), g70, SR_wd hR (by omega)])
