/-! comparisons -/
def pcat (P : CD) (e : Int) (P2 : CD) : CD := fun j i => if i < e then P j i else P2 j i
def pone (o f t d : Int) : CD := fun j _ => if j = 1 then o else if j = 2 then f else if j = 3 then t else d
def ncat (N : MM) (e : Int) (N2 : MM) : MM := fun j i => if i < e then N j i else N2 j i
def nnod (kd A B D w : Int) : MM := fun j _ => if j = 66 then kd else if j = 67 then A else if j = 68 then B else if j = 69 then D else w
theorem pcat_l {P P2 : CD} {e i : Int} (j : Nat) (h : i < e) : pcat P e P2 j i = P j i := by unfold pcat; rw [if_pos h]
theorem pcat_h {P P2 : CD} {e i : Int} (j : Nat) (h : e ≤ i) : pcat P e P2 j i = P2 j i := by unfold pcat; rw [if_neg (by omega)]
theorem ncat_l {P P2 : MM} {e i : Int} (j : Nat) (h : i < e) : ncat P e P2 j i = P j i := by unfold ncat; rw [if_pos h]
theorem ncat_h {P P2 : MM} {e i : Int} (j : Nat) (h : e ≤ i) : ncat P e P2 j i = P2 j i := by unfold ncat; rw [if_neg (by omega)]
theorem pone_of {C : MM} {c : Nat} {i o f t d : Int} (h1 : C (c + 1) i = o) (h2 : C (c + 2) i = f) (h3 : C (c + 3) i = t) (h4 : C (c + 4) i = d) {j : Nat} (j0 : 0 < j) (j4 : j ≤ 4) (x : Int) : C (c + j) i = pone o f t d j x := by
  have jj : j = 1 ∨ j = 2 ∨ j = 3 ∨ j = 4 := by omega
  rcases jj with rfl | rfl | rfl | rfl
  · exact h1
  · exact h2
  · exact h3
  · exact h4
theorem nnod_of {R : MM} {i kd A B D w : Int} (h6 : R 66 i = kd) (h7 : R 67 i = A) (h8 : R 68 i = B) (h9 : R 69 i = D) (h0 : R 70 i = w) {j : Nat} (j0 : 66 ≤ j) (j4 : j ≤ 70) (x : Int) : R j i = nnod kd A B D w j x := by
  have jj : j = 66 ∨ j = 67 ∨ j = 68 ∨ j = 69 ∨ j = 70 := by omega
  rcases jj with rfl | rfl | rfl | rfl | rfl
  · exact h6
  · exact h7
  · exact h8
  · exact h9
  · exact h0
def isCp (W : Int) : Prop := W = 12 ∨ W = 13 ∨ W = 14 ∨ W = 20 ∨ W = 21 ∨ W = 22
def cop (W : Int) : Int := if W = 12 then 16 else if W = 13 then 18 else if W = 14 then 20 else if W = 20 then 17 else if W = 21 then 19 else 21
theorem cop_r {W : Int} (h : isCp W) : 16 ≤ cop W ∧ cop W ≤ 21 := by
  unfold isCp at h
  rcases h with rfl | rfl | rfl | rfl | rfl | rfl <;> decide
theorem c_cmp {Q : Int → MM → Prop} {W : Int} {M : MM} (h1 : isCp W → Q (cop W) M) (h2 : W = 42 → Q 14 M) (h0 : ¬ isCp W → W ≠ 42 → Q (-1) M) : w_X6_comparisonOf Q W M := by
  unfold w_X6_comparisonOf
  refine ⟨fun z => ?_, fun z => ?_, fun z => ?_, fun z => ?_, fun z => ?_, fun z => ?_, fun z => h2 z, fun z => h0 (by unfold isCp; omega) (by omega)⟩
  · subst z; exact h1 (Or.inl rfl)
  · subst z; exact h1 (Or.inr (Or.inl rfl))
  · subst z; exact h1 (Or.inr (Or.inr (Or.inl rfl)))
  · subst z; exact h1 (Or.inr (Or.inr (Or.inr (Or.inl rfl))))
  · subst z; exact h1 (Or.inr (Or.inr (Or.inr (Or.inr (Or.inl rfl)))))
  · subst z; exact h1 (Or.inr (Or.inr (Or.inr (Or.inr (Or.inr rfl)))))
theorem r_cmp {Q : Int → MM → Prop} {W D : Int} {R : MM} (ht : tk R W D) (h1 : isCp W → Q (cop W + 86) R) (h0 : ¬ isCp W → Q (-1) R) : w_X12_compared Q R := by
  unfold w_X12_compared
  refine r_isS ht (x := 8) (by omega) (fun z _ => ⟨fun y => absurd y (by decide), fun _ => ?_⟩) (fun z1 _ => ⟨fun _ => r_isS2 ht (x := 20) (by omega) (fun z _ => ⟨fun y => absurd y (by decide), fun _ => ?_⟩) (fun z2 _ => ⟨fun _ => r_isS ht (x := 9) (by omega) (fun z _ => ⟨fun y => absurd y (by decide), fun _ => ?_⟩) (fun z3 _ => ⟨fun _ => r_isS2 ht (x := 21) (by omega) (fun z _ => ⟨fun y => absurd y (by decide), fun _ => ?_⟩) (fun z4 _ => ⟨fun _ => r_isS ht (x := 10) (by omega) (fun z _ => ⟨fun y => absurd y (by decide), fun _ => ?_⟩) (fun z5 _ => ⟨fun _ => r_isS2 ht (x := 22) (by omega) (fun z _ => ⟨fun y => absurd y (by decide), fun _ => ?_⟩) (fun z6 _ => ⟨fun _ => h0 (by unfold isCp; omega), fun y => absurd rfl y⟩) (by decide), fun y => absurd rfl y⟩) (by decide), fun y => absurd rfl y⟩) (by decide), fun y => absurd rfl y⟩) (by decide), fun y => absurd rfl y⟩) (by decide), fun y => absurd rfl y⟩) (by decide)
  · have w : W = 12 := by omega
    subst w; exact h1 (by unfold isCp; omega)
  · subst z; exact h1 (by unfold isCp; omega)
  · have w : W = 13 := by omega
    subst w; exact h1 (by unfold isCp; omega)
  · subst z; exact h1 (by unfold isCp; omega)
  · have w : W = 14 := by omega
    subst w; exact h1 (by unfold isCp; omega)
  · subst z; exact h1 (by unfold isCp; omega)
variable {c : Nat} {C0 R0 : MM} {E : Nat → Int} {L : Nat} {b it : Int} {SM ST : SMt} {q : Int}
set_option maxHeartbeats 1600000 in
theorem J_Cmp (hc : Clo SM ST) (hT : TX C0 R0 E L) (b0 : 0 ≤ b) (b1 : b ≤ 360) (q0 : 0 ≤ q) (q1 : q ≤ 10) (HS : Jt c C0 R0 E L b it SM q 4 4 10 8) : Jt c C0 R0 E L b it SM q 3 3 11 9 := by
  intro dp dq k n fo s st nm nr_ sf hdp hdq hk n0 n1 s0 s1 fq st0 st1 hn
  obtain ⟨dp, rfl⟩ : ∃ d', dp = d' + 1 := ⟨dp - 1, by omega⟩
  obtain ⟨dq, rfl⟩ : ∃ d', dq = d' + 1 := ⟨dq - 1, by omega⟩
  rcases HS dp dq k n fo s st nm nr_ sf (by omega) (by omega) hk n0 n1 s0 s1 fq st0 st1 hn with ⟨k2, n2, st2, x2, P2, N2, kk, k2L, nn, n2L, ss, ⟨nlt, sb, x20, x21, hS2⟩, cO, rO⟩ | ⟨f, pl, f0, cN, rN⟩
  rotate_left
  · refine Or.inr ⟨f, pl, f0, fun C w wq w0 w1 hC hP Q hq => ?_, fun R hR hN Q hq => ?_⟩
    · show b_X6_readComparison c (gq_ c dp) Q C
      unfold b_X6_readComparison
      exact cN C w wq w0 w1 hC hP _ (fun C1 h1 _ => ⟨fun z => absurd rfl z, fun _ => hq C1 h1⟩)
    · show b_X12_readCompared (gr_ dq) Q R
      unfold b_X12_readCompared
      exact rN R hR hN _ (fun x R1 h1 _ v3 e3 _ => ⟨fun z => by have := h1.2.1; omega, fun _ => hq x R1 h1⟩)
  by_cases hw : isCp (C0 4 k2)
  · have hcr := cop_r hw
    have hW : 2 ≤ C0 4 k2 ∧ C0 4 k2 ≠ 42 ∧ C0 4 k2 ≠ 0 := by unfold isCp at hw; omega
    by_cases n120 : n2 = 120
    · refine Or.inr ⟨4, C0 5 k2, by omega, fun C w wq w0 w1 hC hP Q hq => ?_, fun R hR hN Q hq => ?_⟩
      · show b_X6_readComparison c (gq_ c dp) Q C
        unfold b_X6_readComparison
        refine cO C w wq w0 w1 hC hP _ (fun C1 h1 r1 q1 _ => ⟨fun _ v4 e4 _ => ?_, fun z => absurd z (by decide)⟩)
        rw [h1.2.1.1] at e4
        rw [e4]
        exact c_cmp (fun _ _ => ⟨fun _ => c_addN h1 (by omega) n2L (fun z => by omega) (fun _ C' hC' _ => ⟨fun z => absurd rfl z, fun _ => hq C' hC'⟩), fun z => by omega⟩) (fun z => absurd z hW.2.1) (fun z => absurd hw z)
      · show b_X12_readCompared (gr_ dq) Q R
        unfold b_X12_readCompared
        refine rO R hR hN _ (fun R1 h1 r1 q1 _ v3 e3 _ => ⟨fun _ => r_cmp h1.2.1.2.2 (fun _ _ => ⟨fun z => by omega, fun _ => r_node h1 b0 b1 (by omega) n2L (fun z => by omega) (fun _ R2 h2 h78 r2 _ => r_adv hT h2.1 h78 (TX_lt hT k2L hW.2.2) (fun R3 hA _ => ⟨b0, by omega, fun M26 e26 => ?_⟩))⟩) (fun z => absurd hw z), fun z => by have := h1.2.2.1.1; omega⟩)
        have hR3 := RF_u (RF_A h2 hA) (k := 67) (by omega) (by omega) (i := b) x2 (by omega) (by omega)
        rw [← e26] at hR3
        refine z4 (by omega) hR3.2.1 (by omega) hR3.2.2.2.1 (fun _ => ⟨b0, by omega, fun M29 e29 => hq _ _ ?_⟩)
        rw [e29]
        exact RF_u hR3 (by omega) (by omega) _ (by omega) (by omega)
    · rcases HS dp dq (k2 + 1) (n2 + 1) fo s st2 nm nr_ sf (by omega) (by omega) (TX_lt hT k2L hW.2.2) (by omega) (by omega) s0 s1 fq (by omega) (by omega) hn with ⟨k3, n3, st3, x3, P3, N3, kk3, k3L, nn3, n3L, ss3, ⟨nlt3, sb3, x30, x31, hS3⟩, cO3, rO3⟩ | ⟨f, pl, f0, cN, rN⟩
      · refine Or.inl ⟨k3, n3, st3 + 1, b + n2, pcat P2 st2 (pcat P3 st3 (pone (cop (C0 4 k2)) 0 0 0)), ncat N2 (b + n2) (ncat (nnod (cop (C0 4 k2) + 86) x2 x3 (-1) (wdR C0 R0 k2)) (b + (n2 + 1)) N3), by omega, k3L, by omega, n3L, by omega, ⟨by omega, by omega, by omega, by omega, ?_⟩, fun C w wq w0 w1 hC hP Q hq => ?_, fun R hR hN Q hq => ?_⟩
        · have ny : ∀ j, ncat N2 (b + n2) (ncat (nnod (cop (C0 4 k2) + 86) x2 x3 (-1) (wdR C0 R0 k2)) (b + (n2 + 1)) N3) j (b + n2) = nnod (cop (C0 4 k2) + 86) x2 x3 (-1) (wdR C0 R0 k2) j 0 := fun j => by rw [ncat_h j (by omega), ncat_l j (by omega)]; rfl
          refine hc.2.2.2.2.1 _ _ s sf fo it (b + n2) st st2 st3 (b + n) (b + n3) x2 (b + n) (b + n2) x3 (b + (n2 + 1)) (b + n3) (hc.1 _ _ _ _ _ _ _ _ _ _ _ hS2 _ _ _ _ _ (fun j i _ _ _ h => pcat_l j h) (fun j i _ _ _ h => ncat_l j h) (fun _ _ _ => rfl) (by omega) (by omega)) (hc.1 _ _ _ _ _ _ _ _ _ _ _ hS3 _ _ _ _ _ (fun j i _ _ h h2 => by rw [pcat_h j h, pcat_l j h2]) (fun j i _ _ h h2 => by rw [ncat_h j (by omega), ncat_h j h]) (fun _ _ _ => rfl) (by omega) (by omega)) ?_ ?_ ?_ (by omega) (by omega) (by omega) (by omega) (by omega) (by omega) (by omega)
          · unfold twoK
            rw [ny, pcat_h 1 (by omega), pcat_h 1 (by omega)]
            exact Or.inr ⟨by show 16 ≤ cop _; omega, by show cop _ ≤ 26; omega, rfl⟩
          · rw [ny]; rfl
          · rw [ny]; rfl
        · show b_X6_readComparison c (gq_ c dp) Q C
          unfold b_X6_readComparison
          refine cO C w wq w0 w1 hC hP _ (fun C1 h1 r1 q1 _ => ⟨fun _ v4 e4 _ => ?_, fun z => absurd z (by decide)⟩)
          rw [h1.2.1.1] at e4
          rw [e4]
          refine c_cmp (fun _ _ => ⟨fun _ => c_addN h1 (by omega) n2L (fun _ C2 h2 r2 _ => ⟨fun _ => c_next hT.1 h2 k2L hW.2.2 (fun C3 h3 r3 => ⟨fun _ => cO3 C3 w wq w0 (by omega) h3 (fun j i _ _ z z2 => by omega) _ (fun C4 h4 r4 q4 _ => ⟨fun _ => c_emit h4 (by omega) (by omega) (fun C5 h5 r5 u1 u2 u3 u4 _ => ?_), fun z => absurd z (by decide)⟩), fun z => by omega⟩), fun z => absurd z (by decide)⟩) (fun z => by omega), fun z => by omega⟩) (fun z => absurd z hW.2.1) (fun z => absurd hw z)
          have lowr : ∀ j i, 0 < j → j ≤ 4 → i < st2 → C5 (c + j) i = C1 (c + j) i := fun j i j0 j4 hi => by rw [r5 j i j0 (by omega), r4 j i j0 j4 hi, r3 j j0, r2 j j0]
          refine hq C5 h5 (fun j i j0 j4 hi => by rw [lowr j i j0 j4 (by omega), r1 j i j0 j4 hi]) (fun j i j0 j4 hi hi2 => ?_)
          by_cases y1 : i < st2
          · rw [lowr j i j0 j4 y1, pcat_l j y1]; exact q1 j i j0 j4 hi y1
          · by_cases y2 : i < st3
            · rw [pcat_h j (by omega), pcat_l j y2, r5 j i j0 (by omega)]; exact q4 j i j0 j4 (by omega) y2
            · have y3 : i = st3 := by omega
              subst y3
              rw [pcat_h j (by omega), pcat_h j (by omega)]
              exact pone_of u1 u2 u3 u4 j0 j4 _
        · show b_X12_readCompared (gr_ dq) Q R
          unfold b_X12_readCompared
          refine rO R hR hN _ (fun R1 h1 r1 q1 _ v3 e3 _ => ⟨fun _ => r_cmp h1.2.1.2.2 (fun _ _ => ⟨fun z => by omega, fun _ => r_node h1 b0 b1 (by omega) n2L (fun _ R2 h2 r2 r71 g66 g67 g68 g69 g70 g0 _ => r_next hT h2 k2L hW.2.2 (fun R3 h3 r3 => ⟨by omega, by omega, fun M26 e26 => ?_⟩)) (fun z => by omega)⟩) (fun z => absurd hw z), fun z => by have := h1.2.2.1.1; omega⟩)
          have h26 := SR_u h3 (j := 67) (by omega) (by omega) (i := b + n2) x2 (by omega) (by omega)
          rw [← e26] at h26
          refine rO3 M26 h26 (fun j i _ _ z z2 => by omega) _ (fun R4 h4 r4 q4 _ => ⟨by omega, by omega, fun M29 e29 => ?_⟩)
          have lowr : ∀ j i, 66 ≤ j → j ≤ 70 → i < b + n2 → M29 j i = R1 j i := fun j i j0 j4 hi => by
            have a1 : M29 j i = R4 j i := by rw [e29]; unfold ux_; rw [if_neg (by omega)]
            have a2 : M26 j i = R3 j i := by rw [e26]; unfold ux_; rw [if_neg (by omega)]
            rw [a1, r4 j i j0 j4 (by omega), a2, r3 j (by omega), r2 j (by omega) i (by omega)]
          refine hq M29 (by rw [e29]; exact SR_u h4 (by omega) (by omega) _ (by omega) (by omega)) (fun j i j0 j4 hi => by rw [lowr j i j0 j4 (by omega), r1 j i j0 j4 hi]) (fun j i j0 j4 hi hi2 => ?_)
          by_cases y1 : i < b + n2
          · rw [lowr j i j0 j4 y1, ncat_l j y1]; exact q1 j i j0 j4 hi y1
          · by_cases y2 : i = b + n2
            · subst y2
              rw [ncat_h j (by omega), ncat_l j (by omega)]
              have m67 : M26 67 (b + n2) = x2 := by rw [e26, ux_s]
              have mo : ∀ j, 66 ≤ j → j ≤ 70 → j ≠ 68 → M29 j (b + n2) = M26 j (b + n2) := fun j a d e => by rw [e29, ux_c _ _ _ _ e, r4 j _ a d (by omega)]
              have mo2 : ∀ j, 66 ≤ j → j ≤ 70 → j ≠ 67 → M26 j (b + n2) = R2 j (b + n2) := fun j a d e => by rw [e26, ux_c _ _ _ _ e, r3 j (by omega)]
              exact nnod_of (by rw [mo 66 (by omega) (by omega) (by omega), mo2 66 (by omega) (by omega) (by omega), g66]) (by rw [mo 67 (by omega) (by omega) (by omega), m67]) (by rw [e29, ux_s]) (by rw [mo 69 (by omega) (by omega) (by omega), mo2 69 (by omega) (by omega) (by omega), g69]) (by rw [mo 70 (by omega) (by omega) (by omega), mo2 70 (by omega) (by omega) (by omega), g70, SR_wd h1 hW.1]) j0 j4 _
            · have a1 : M29 j i = R4 j i := by rw [e29]; unfold ux_; rw [if_neg (by omega)]
              rw [a1, ncat_h j (by omega), ncat_h j (by omega)]
              exact q4 j i j0 j4 (by omega) (by omega)
      · refine Or.inr ⟨f, pl, f0, fun C w wq w0 w1 hC hP Q hq => ?_, fun R hR hN Q hq => ?_⟩
        · show b_X6_readComparison c (gq_ c dp) Q C
          unfold b_X6_readComparison
          refine cO C w wq w0 w1 hC hP _ (fun C1 h1 r1 q1 _ => ⟨fun _ v4 e4 _ => ?_, fun z => absurd z (by decide)⟩)
          rw [h1.2.1.1] at e4
          rw [e4]
          exact c_cmp (fun _ _ => ⟨fun _ => c_addN h1 (by omega) n2L (fun _ C2 h2 r2 _ => ⟨fun _ => c_next hT.1 h2 k2L hW.2.2 (fun C3 h3 r3 => ⟨fun _ => cN C3 w wq w0 (by omega) h3 (fun j i _ _ z z2 => by omega) _ (fun C4 h4 _ => ⟨fun z => absurd rfl z, fun _ => hq C4 h4⟩), fun z => by omega⟩), fun z => absurd z (by decide)⟩) (fun z => by omega), fun z => by omega⟩) (fun z => absurd z hW.2.1) (fun z => absurd hw z)
        · show b_X12_readCompared (gr_ dq) Q R
          unfold b_X12_readCompared
          refine rO R hR hN _ (fun R1 h1 r1 q1 _ v3 e3 _ => ⟨fun _ => r_cmp h1.2.1.2.2 (fun _ _ => ⟨fun z => by omega, fun _ => r_node h1 b0 b1 (by omega) n2L (fun _ R2 h2 r2 r71 g66 g67 g68 g69 g70 g0 _ => r_next hT h2 k2L hW.2.2 (fun R3 h3 r3 => ⟨by omega, by omega, fun M26 e26 => ?_⟩)) (fun z => by omega)⟩) (fun z => absurd hw z), fun z => by have := h1.2.2.1.1; omega⟩)
          have h26 := SR_u h3 (j := 67) (by omega) (by omega) (i := b + n2) x2 (by omega) (by omega)
          rw [← e26] at h26
          refine rN M26 h26 (fun j i _ _ z z2 => by omega) _ (fun x9 R4 h4 _ => ⟨by omega, by omega, fun M29 e29 => hq _ _ ?_⟩)
          rw [e29]
          exact RF_u h4 (by omega) (by omega) _ (by omega) (by omega)
  · by_cases hw2 : C0 4 k2 = 42
    · by_cases n120 : n2 = 120
      · refine Or.inr ⟨4, C0 5 k2, by omega, fun C w wq w0 w1 hC hP Q hq => ?_, fun R hR hN Q hq => ?_⟩
        · show b_X6_readComparison c (gq_ c dp) Q C
          unfold b_X6_readComparison
          refine cO C w wq w0 w1 hC hP _ (fun C1 h1 r1 q1 _ => ⟨fun _ v4 e4 _ => ?_, fun z => absurd z (by decide)⟩)
          rw [h1.2.1.1] at e4
          rw [e4]
          exact c_cmp (fun z => absurd z hw) (fun _ _ => ⟨fun _ => c_addN h1 (by omega) n2L (fun z => by omega) (fun _ C' hC' _ => ⟨fun z => absurd rfl z, fun _ => hq C' hC'⟩), fun z => absurd z (by decide)⟩) (fun _ z => absurd hw2 z)
        · show b_X12_readCompared (gr_ dq) Q R
          unfold b_X12_readCompared
          refine rO R hR hN _ (fun R1 h1 r1 q1 _ v3 e3 _ => ⟨fun _ => r_cmp h1.2.1.2.2 (fun z => absurd z hw) (fun _ _ => ⟨fun _ => r_isK h1.2.1.2.2 (SR_K hT h1) (x := 12) (by omega) (by omega) (fun _ _ => ⟨fun _ => r_node h1 b0 b1 (by omega) n2L (fun z => by omega) (fun _ R2 h2 h78 r2 _ => r_adv hT h2.1 h78 (TX_lt hT k2L (by omega)) (fun R3 hA _ v15 e15 _ => ⟨fun _ => ?_, fun z => ?_⟩)), fun z => absurd z (by decide)⟩) (fun z => absurd (by omega) z) (by decide), fun z => absurd rfl z⟩), fun z => by have := h1.2.2.1.1; omega⟩)
          · have hR3 := RF_A h2 hA
            unfold w_X12_readCompared_b93
            refine ⟨b0, by omega, fun M1 e1 v2 e2 _ => ⟨b0, by omega, fun M3 e3' v4 e4 _ => ?_⟩⟩
            have h3 : RF R0 b q s 4 (C0 5 k2) M3 := by rw [e3', e1]; exact RF_u (RF_u hR3 (by omega) (by omega) _ (by omega) (by omega)) (by omega) (by omega) _ (by omega) (by omega)
            exact ⟨fun _ => hq _ _ h3, fun z => by have := h3.2.1; omega⟩
          · have := (RF_A h2 hA).2.1; omega
      · have kL := TX_lt hT k2L (show C0 4 k2 ≠ 0 by omega)
        by_cases hw3 : C0 4 ((k2 + 1 : Nat) : Int) = 2
        · have kL2 := TX_lt hT kL (show C0 4 ((k2 + 1 : Nat) : Int) ≠ 0 by omega)
          refine Or.inl ⟨k2 + 2, n2 + 1, st2 + 1, b + n2, pcat P2 st2 (pone 14 0 0 (C0 6 ((k2 + 1 : Nat) : Int))), ncat N2 (b + n2) (nnod 11 x2 (-1) (-1) (wdR C0 R0 (k2 + 1))), by omega, kL2, by omega, by omega, by omega, ⟨by omega, by omega, by omega, by omega, ?_⟩, fun C w wq w0 w1 hC hP Q hq => ?_, fun R hR hN Q hq => ?_⟩
          · have ny : ∀ j, ncat N2 (b + n2) (nnod 11 x2 (-1) (-1) (wdR C0 R0 (k2 + 1))) j (b + n2) = nnod 11 x2 (-1) (-1) (wdR C0 R0 (k2 + 1)) j 0 := fun j => by rw [ncat_h j (by omega)]; rfl
            refine hc.2.2.2.1 _ _ s sf fo it (b + n2) st st2 (b + n) (b + (n2 + 1)) x2 (b + n) (b + n2) (hc.1 _ _ _ _ _ _ _ _ _ _ _ hS2 _ _ _ _ _ (fun j i _ _ _ h => pcat_l j h) (fun j i _ _ _ h => ncat_l j h) (fun _ _ _ => rfl) (by omega) (by omega)) (Or.inr (Or.inr (Or.inr (Or.inr ⟨?_, ?_, ?_⟩)))) ?_ (by omega) (by omega) (by omega) (by omega) (by omega)
            · rw [pcat_h 1 (by omega)]; rfl
            · rw [ny]; rfl
            · rw [ny, pcat_h 4 (by omega)]
              show nr (C0 6 ((k2 + 1 : Nat) : Int)) (wdR C0 R0 (k2 + 1))
              exact wd_nr hT.1 kL hw3
            · rw [ny]; rfl
          · show b_X6_readComparison c (gq_ c dp) Q C
            unfold b_X6_readComparison
            refine cO C w wq w0 w1 hC hP _ (fun C1 h1 r1 q1 _ => ⟨fun _ v4 e4 _ => ?_, fun z => absurd z (by decide)⟩)
            rw [h1.2.1.1] at e4
            rw [e4]
            refine c_cmp (fun z => absurd z hw) (fun _ _ => ⟨fun _ => c_addN h1 (by omega) n2L (fun _ C2 h2 r2 _ => ⟨fun _ => c_next hT.1 h2 k2L (by omega) (fun C3 h3 r3 => ⟨fun z => absurd rfl z, fun _ v19 e19 _ => c_emit h3 (by omega) (by omega) (fun C4 h4 r4 u1 u2 u3 u4 _ => c_pass hT.1 h4 kL (by decide) (fun _ C5 h5 r5 _ => ?_) (fun z => absurd hw3 z))⟩), fun z => absurd z (by decide)⟩) (fun z => by omega), fun z => absurd z (by decide)⟩) (fun _ z => absurd hw2 z)
            have lowr : ∀ j i, 0 < j → j ≤ 4 → i < st2 → C5 (c + j) i = C1 (c + j) i := fun j i j0 j4 hi => by rw [r5 j j0, r4 j i j0 (by omega), r3 j j0, r2 j j0]
            refine hq C5 h5 (fun j i j0 j4 hi => by rw [lowr j i j0 j4 (by omega), r1 j i j0 j4 hi]) (fun j i j0 j4 hi hi2 => ?_)
            by_cases y1 : i < st2
            · rw [lowr j i j0 j4 y1, pcat_l j y1]; exact q1 j i j0 j4 hi y1
            · have y3 : i = st2 := by omega
              subst y3
              rw [pcat_h j (by omega), r5 j j0]
              exact pone_of u1 u2 u3 (by rw [u4, e19]; exact h3.2.1.2.2.1) j0 j4 _
          · show b_X12_readCompared (gr_ dq) Q R
            unfold b_X12_readCompared
            refine rO R hR hN _ (fun R1 h1 r1 q1 _ v3 e3 _ => ⟨fun _ => r_cmp h1.2.1.2.2 (fun z => absurd z hw) (fun _ _ => ⟨fun _ => r_isK h1.2.1.2.2 (SR_K hT h1) (x := 12) (by omega) (by omega) (fun _ _ => ⟨fun _ => r_node h1 b0 b1 (by omega) n2L (fun _ R2 h2 r2 r71 g66 g67 g68 g69 g70 g0 _ => r_next hT h2 k2L (by omega) (fun R3 h3 r3 v15 e15 _ => ⟨fun z => absurd (by rw [e15]; exact h3.2.2.1.1) z, fun _ => r_isN h3.2.1.2.2 (fun _ _ => ⟨fun _ => ?_, fun z => absurd z (by decide)⟩) (fun z => absurd hw3 z)⟩)) (fun z => by omega), fun z => absurd z (by decide)⟩) (fun z => absurd (by omega) z) (by decide), fun z => absurd rfl z⟩), fun z => by have := h1.2.2.1.1; omega⟩)
            unfold w_X12_readCompared_b93
            refine ⟨by omega, by omega, fun M1 e1 v2 e2 _ => ⟨by omega, by omega, fun M3 e3' v4 e4 _ => ?_⟩⟩
            have h5 : SR C0 R0 E b (k2 + 1) (n2 + 1) q it s nr_ M3 := by rw [e3', e1]; exact SR_u (SR_u h3 (by omega) (by omega) _ (by omega) (by omega)) (by omega) (by omega) _ (by omega) (by omega)
            have hv2 : v2 = wdR C0 R0 (k2 + 1) := by
              rw [e2, ← SR_wd h3 (by omega), e1, ux_c _ _ _ _ (by decide)]
            refine ⟨fun z => absurd (by rw [e4]; exact h5.2.2.1.1) z, fun _ => r_next hT h5 kL (by omega) (fun R' h6 r6 => ?_)⟩
            have o3 : ∀ j i, i ≠ b + n2 → M3 j i = R3 j i := fun j i hi => by rw [e3', e1]; unfold ux_; rw [if_neg (fun y => hi y.2), if_neg (fun y => hi y.2)]
            have lowr : ∀ j i, 66 ≤ j → j ≤ 70 → i < b + n2 → R' j i = R1 j i := fun j i j0 j4 hi => by rw [r6 j (by omega), o3 j i (by omega), r3 j (by omega), r2 j (by omega) i (by omega)]
            refine hq R' h6 (fun j i j0 j4 hi => by rw [lowr j i j0 j4 (by omega), r1 j i j0 j4 hi]) (fun j i j0 j4 hi hi2 => ?_)
            by_cases y1 : i < b + n2
            · rw [lowr j i j0 j4 y1, ncat_l j y1]; exact q1 j i j0 j4 hi y1
            · have y3 : i = b + n2 := by omega
              subst y3
              rw [ncat_h j (by omega), r6 j (by omega)]
              have m67 : M3 67 (b + n2) = x2 := by rw [e3', ux_c _ _ _ _ (by decide), e1, ux_s]
              have mo : ∀ j, 66 ≤ j → j ≤ 69 → j ≠ 67 → M3 j (b + n2) = R2 j (b + n2) := fun j a d e => by rw [e3', ux_c _ _ _ _ (by omega), e1, ux_c _ _ _ _ e, r3 j (by omega)]
              exact nnod_of (by rw [mo 66 (by omega) (by omega) (by omega), g66]) m67 (by rw [mo 68 (by omega) (by omega) (by omega), g68]) (by rw [mo 69 (by omega) (by omega) (by omega), g69]) (by rw [e3', ux_s, hv2]) j0 j4 _
        · refine Or.inr ⟨if C0 4 ((k2 + 1 : Nat) : Int) = 1 then 2 else 1, C0 5 ((k2 + 1 : Nat) : Int), by split <;> omega, fun C w wq w0 w1 hC hP Q hq => ?_, fun R hR hN Q hq => ?_⟩
          · show b_X6_readComparison c (gq_ c dp) Q C
            unfold b_X6_readComparison
            refine cO C w wq w0 w1 hC hP _ (fun C1 h1 r1 q1 _ => ⟨fun _ v4 e4 _ => ?_, fun z => absurd z (by decide)⟩)
            rw [h1.2.1.1] at e4
            rw [e4]
            exact c_cmp (fun z => absurd z hw) (fun _ _ => ⟨fun _ => c_addN h1 (by omega) n2L (fun _ C2 h2 r2 _ => ⟨fun _ => c_next hT.1 h2 k2L (by omega) (fun C3 h3 r3 => ⟨fun z => absurd rfl z, fun _ v19 e19 _ => c_emit h3 (by omega) (by omega) (fun C4 h4 r4 u1 u2 u3 u4 _ => c_pass hT.1 h4 kL (by decide) (fun z => absurd z hw3) (fun _ C5 h5 _ => hq C5 h5))⟩), fun z => absurd z (by decide)⟩) (fun z => by omega), fun z => absurd z (by decide)⟩) (fun _ z => absurd hw2 z)
          · show b_X12_readCompared (gr_ dq) Q R
            unfold b_X12_readCompared
            refine rO R hR hN _ (fun R1 h1 r1 q1 _ v3 e3 _ => ⟨fun _ => r_cmp h1.2.1.2.2 (fun z => absurd z hw) (fun _ _ => ⟨fun _ => r_isK h1.2.1.2.2 (SR_K hT h1) (x := 12) (by omega) (by omega) (fun _ _ => ⟨fun _ => r_node h1 b0 b1 (by omega) n2L (fun _ R2 h2 r2 r71 g66 g67 g68 g69 g70 g0 _ => r_next hT h2 k2L (by omega) (fun R3 h3 r3 v15 e15 _ => ⟨fun z => absurd (by rw [e15]; exact h3.2.2.1.1) z, fun _ => r_isN h3.2.1.2.2 (fun z => absurd z hw3) (fun _ _ => ⟨fun z => absurd rfl z, fun _ => r_wrong h3 (fun R4 h4 r4 => ?_)⟩)⟩)) (fun z => by omega), fun z => absurd z (by decide)⟩) (fun z => absurd (by omega) z) (by decide), fun z => absurd rfl z⟩), fun z => by have := h1.2.2.1.1; omega⟩)
            unfold w_X12_readCompared_b93
            refine ⟨by omega, by omega, fun M1 e1 v2 e2 _ => ⟨by omega, by omega, fun M3 e3' v4 e4 _ => ?_⟩⟩
            have h5 := RF_u (RF_u h4 (k := 67) (by omega) (by omega) (i := b + n2) x2 (by omega) (by omega)) (k := 70) (by omega) (by omega) (i := b + n2) v2 (by omega) (by omega)
            rw [← e1, ← e3'] at h5
            exact ⟨fun _ => hq _ _ h5, fun z => by have := h5.2.1; split at this <;> omega⟩
    · refine Or.inl ⟨k2, n2, st2, x2, P2, N2, kk, k2L, nn, n2L, ss, ⟨nlt, sb, x20, x21, hS2⟩, fun C w wq w0 w1 hC hP Q hq => ?_, fun R hR hN Q hq => ?_⟩
      · show b_X6_readComparison c (gq_ c dp) Q C
        unfold b_X6_readComparison
        refine cO C w wq w0 w1 hC hP _ (fun C1 h1 r1 q1 _ => ⟨fun _ v4 e4 _ => ?_, fun z => absurd z (by decide)⟩)
        rw [h1.2.1.1] at e4
        rw [e4]
        exact c_cmp (fun z => absurd z hw) (fun z => absurd z hw2) (fun _ _ _ => ⟨fun z => absurd rfl z, fun _ => hq C1 h1 r1 q1⟩)
      · show b_X12_readCompared (gr_ dq) Q R
        unfold b_X12_readCompared
        exact rO R hR hN _ (fun R1 h1 r1 q1 _ v3 e3 _ => ⟨fun _ => r_cmp h1.2.1.2.2 (fun z => absurd z hw) (fun _ _ => ⟨fun _ => r_isK h1.2.1.2.2 (SR_K hT h1) (x := 12) (by omega) (by omega) (fun z => absurd (by omega) hw2) (fun _ _ => ⟨fun z => absurd rfl z, fun _ => hq R1 h1 r1 q1⟩) (by decide), fun z => absurd rfl z⟩), fun z => by have := h1.2.2.1.1; omega⟩)
