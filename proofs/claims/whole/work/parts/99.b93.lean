/-! folds: the where and the body -/
theorem r_takeK {C0 R0 R : MM} {E : Nat → Int} {L : Nat} {b : Int} {k : Nat} {n q it s : Int} {nr_ : Int → Int} (hT : TX C0 R0 E L) (h : SR C0 R0 E b k n q it s nr_ R) (hk : k ≤ L) {x : Int} (x0 : 0 ≤ x) (x1 : x < 29) {y : Int} (hy : y = kp x) {Q : Int → MM → Prop} (h1 : C0 4 k = 30 + x → ∀ R', SR C0 R0 E b (k + 1) n q it s nr_ R' → (∀ j, j ≠ 0 → R' j = R j) → Q 1 R') (h0 : C0 4 k ≠ 30 + x → Q 0 R) : w_X12_takesKey Q y R := by
  unfold w_X12_takesKey w_X12_takesKey_b19 w_X12_takesKey_b20
  intro v1 e1 _
  refine ⟨fun z => absurd (by rw [e1]; exact h.2.2.1.1) z, fun _ => r_isK h.2.1.2.2 (SR_K hT h) x0 x1 (fun z _ => ⟨fun y => absurd y (by decide), fun _ => ⟨fun y => absurd y (by decide), fun _ => r_next hT h hk (by omega) (fun R' a c => ⟨Or.inr rfl, h1 z R' a c⟩)⟩⟩) (fun z _ => ⟨fun _ => ⟨fun _ => ⟨Or.inl rfl, h0 z⟩, fun y => absurd rfl y⟩, fun y => absurd rfl y⟩) hy⟩
theorem r_takeF {R : MM} {y : Int} (f0 : 0 < R 0 83) {Q : Int → MM → Prop} (h0 : Q 0 R) : w_X12_takesKey Q y R := by
  unfold w_X12_takesKey w_X12_takesKey_b19 w_X12_takesKey_b20
  exact fun v1 e1 _ => ⟨fun _ => ⟨fun _ => ⟨Or.inl rfl, h0⟩, fun y => absurd rfl y⟩, fun z => by omega⟩
variable {c : Nat} {C0 R0 : MM} {E : Nat → Int} {L : Nat} {b it : Int} {SM ST : SMt} {q : Int}
def whR (dq : Nat) (y : Int) (K : MM → Prop) (R : MM) : Prop := w_X12_takesKey (fun r9 M10 => (r9 = 0 ∨ r9 = 1) → (r9 = 0 → K M10) ∧ (¬ r9 = 0 → gr_ dq 0 (fun r12 M13 => ri_ r12 → 0 ≤ y ∧ y < 480 ∧ (∀ M14, M14 = ux_ M13 68 y r12 → K M14)) [] M10)) 3 R
theorem J_wh (hc : CloA SM) (hT : TX C0 R0 E L) (b0 : 0 ≤ b) (b1 : b ≤ 360) (q0 : 0 ≤ q) (q1 : q ≤ 10) (HE : Jt c C0 R0 E L b it SM q 0 0 14 12) (dp dq k : Nat) (n fo s st : Int) (nm nr_ sf : Int → Int) (lp y : Int) (hdp : 14 * (10 - q) + 15 ≤ dp) (hdq : 12 * (10 - q) + 2 * (120 - n) + 12 ≤ dq) (hk : k ≤ L) (n0 : 0 ≤ n) (n1 : n ≤ 120) (s0 : 0 ≤ s) (s1 : s ≤ fo) (fq : fo ≤ q) (st0 : 0 ≤ st) (st1 : st ≤ 3 * n + 30) (hn : ∀ i, 0 ≤ i → i < s → nr (nm i) (nr_ i)) (y0 : b ≤ y) (y1 : y < b + n) :
    (∃ (k' : Nat) (n' st' x : Int) (P' : CD) (N' : MM), k ≤ k' ∧ k' ≤ L ∧ n ≤ n' ∧ n' ≤ 120 ∧ st ≤ st' ∧ st' ≤ st + 3 * (n' - n) + 1 ∧ ((x = -1 ∧ st' = st) ∨ (b + n ≤ x ∧ st ≤ st' - 1 ∧ P' 1 (st' - 1) = 37 ∧ P' 3 (st' - 1) = lp ∧ SM P' N' s sf fo it x st (st' - 1) (b + n) (b + n'))) ∧
      (∀ C w wq, 0 ≤ w → w ≤ n → SC c C0 k n q fo it s w st nm sf wq C → ∀ Q, (∀ C', SC c C0 k' n' q fo it s w st' nm sf wq C' → (∀ j i, 0 < j → j ≤ 4 → i < st → C' (c + j) i = C (c + j) i) → (∀ j i, 0 < j → j ≤ 4 → st ≤ i → i < st' → C' (c + j) i = P' j i) → Q 1 C') → gq_ c dp 14 Q [lp] C) ∧
      (∀ R, SR C0 R0 E b k n q it s nr_ R → R 68 y = -1 → ∀ K : MM → Prop, (∀ R', SR C0 R0 E b k' n' q it s nr_ R' → (∀ j i, 66 ≤ j → j ≤ 70 → i < b + n → ¬ (j = 68 ∧ i = y) → R' j i = R j i) → R' 68 y = x → (∀ j i, 66 ≤ j → j ≤ 70 → b + n ≤ i → i < b + n' → R' j i = N' j i) → K R') → whR dq y K R)) ∨
    ∃ f pl, 0 < f ∧ (∀ C w wq, 0 ≤ w → w ≤ n → SC c C0 k n q fo it s w st nm sf wq C → ∀ Q, (∀ C', CF c C0 f pl C' → Q 0 C') → gq_ c dp 14 Q [lp] C) ∧ (∀ R, SR C0 R0 E b k n q it s nr_ R → ∀ K : MM → Prop, (∀ R', RF R0 b q s f pl R' → K R') → whR dq y K R) := by
  obtain ⟨dp, rfl⟩ : ∃ d', dp = d' + 1 := ⟨dp - 1, by omega⟩
  by_cases hw : C0 4 k = 34
  · have kL := TX_lt hT hk (show C0 4 k ≠ 0 by omega)
    rcases HE dp dq (k + 1) n fo s st nm nr_ sf (by omega) hdq kL n0 n1 s0 s1 fq st0 st1 hn with ⟨k2, n2, st2, x2, P2, N2, kk, k2L, nn, n2L, ss, ⟨nlt, sb, x20, x21, hS2⟩, cO, rO⟩ | ⟨f, pl, f0, cN, rN⟩
    · refine Or.inl ⟨k2, n2, st2 + 1, x2, pcat P2 st2 (pone 37 0 lp 0), N2, by omega, k2L, nn, n2L, by omega, by omega, Or.inr ⟨x20, by omega, ?_, ?_, ?_⟩, fun C w wq w0 w1 hC Q hq => ?_, fun R hR h68 K hq => ?_⟩
      · rw [pcat_h 1 (by omega)]; rfl
      · rw [pcat_h 3 (by omega)]; rfl
      · rw [show st2 + 1 - 1 = st2 from by omega]
        exact hc _ _ _ _ _ _ _ _ _ _ _ hS2 _ _ _ _ _ (fun j i _ _ _ h => pcat_l j h) (fun _ _ _ _ _ _ => rfl) (fun _ _ _ => rfl) (by omega) (by omega)
      · show b_X6_readWhere c (gq_ c dp) Q lp C
        unfold b_X6_readWhere
        refine fun v1 e1 _ => ⟨fun _ => c_next hT.1 hC hk (by omega) (fun C1 h1 r1 => cO C1 w wq w0 w1 h1 (fun j i _ _ z z2 => by omega) _ (fun C2 h2 r2 q2 _ => ⟨fun _ => c_emit h2 (by omega) (by omega) (fun C3 h3 r3 u1 u2 u3 u4 _ => hq C3 h3 (fun j i j0 j4 hi => by rw [r3 j i j0 (by omega), r2 j i j0 j4 hi, r1 j j0]) (fun j i j0 j4 hi hi2 => ?_)), fun z => absurd z (by decide)⟩)), fun z => absurd (by rw [e1, hC.2.1.1]; exact hw) z⟩
        by_cases y : i < st2
        · rw [pcat_l j y, r3 j i j0 (by omega)]; exact q2 j i j0 j4 hi y
        · have y3 : i = st2 := by omega
          subst y3
          rw [pcat_h j (by omega)]
          exact pone_of u1 u2 u3 u4 j0 j4 _
      · unfold whR
        refine r_takeK hT hR hk (x := 4) (by omega) (by omega) (by decide) (fun _ R1 h1 r1 _ => ⟨fun z => absurd z (by decide), fun _ => rO R1 h1 (fun j i _ _ z z2 => by omega) _ (fun R2 h2 r2 q2 _ => ⟨by omega, by omega, fun M14 e14 => ?_⟩)⟩) (fun z => absurd (by omega) z)
        refine hq M14 (by rw [e14]; exact SR_u h2 (by omega) (by omega) _ (by omega) (by omega)) (fun j i j0 j4 hi hne => ?_) (by rw [e14, ux_s]) (fun j i j0 j4 hi hi2 => ?_)
        · have a1 : M14 j i = R2 j i := by rw [e14]; unfold ux_; rw [if_neg hne]
          rw [a1, r2 j i j0 j4 hi, r1 j (by omega)]
        · have a1 : M14 j i = R2 j i := by rw [e14]; unfold ux_; rw [if_neg (by omega)]
          rw [a1]; exact q2 j i j0 j4 hi hi2
    · refine Or.inr ⟨f, pl, f0, fun C w wq w0 w1 hC Q hq => ?_, fun R hR K hq => ?_⟩
      · show b_X6_readWhere c (gq_ c dp) Q lp C
        unfold b_X6_readWhere
        exact fun v1 e1 _ => ⟨fun _ => c_next hT.1 hC hk (by omega) (fun C1 h1 r1 => cN C1 w wq w0 w1 h1 (fun j i _ _ z z2 => by omega) _ (fun C2 h2 _ => ⟨fun z => absurd rfl z, fun _ => hq C2 h2⟩)), fun z => absurd (by rw [e1, hC.2.1.1]; exact hw) z⟩
      · unfold whR
        refine r_takeK hT hR hk (x := 4) (by omega) (by omega) (by decide) (fun _ R1 h1 r1 _ => ⟨fun z => absurd z (by decide), fun _ => rN R1 h1 (fun j i _ _ z z2 => by omega) _ (fun x9 R2 h2 _ => ⟨by omega, by omega, fun M14 e14 => hq _ ?_⟩)⟩) (fun z => absurd (by omega) z)
        rw [e14]
        exact RF_u h2 (by omega) (by omega) _ (by omega) (by omega)
  · refine Or.inl ⟨k, n, st, -1, fun _ _ => 0, fun _ _ => 0, Nat.le_refl _, hk, Int.le_refl _, n1, Int.le_refl _, by omega, Or.inl ⟨rfl, rfl⟩, fun C w wq w0 w1 hC Q hq => ?_, fun R hR h68 K hq => ?_⟩
    · show b_X6_readWhere c (gq_ c dp) Q lp C
      unfold b_X6_readWhere
      exact fun v1 e1 _ => ⟨fun z => absurd (by rw [← hC.2.1.1, ← e1]; exact z) hw, fun _ => hq C hC (fun _ _ _ _ _ => rfl) (fun j i _ _ z z2 => by omega)⟩
    · unfold whR
      exact r_takeK hT hR hk (x := 4) (by omega) (by omega) (by decide) (fun z => absurd (by omega) hw) (fun _ _ => ⟨fun _ => hq R hR (fun _ _ _ _ _ _ => rfl) h68 (fun j i _ _ z z2 => by omega), fun z => absurd rfl z⟩)
def bdC (c dp : Nat) (kd : Int) (K : MM → Prop) (Q : Int → MM → Prop) (C : MM) : Prop := (kd = 44 → K C) ∧ (¬ kd = 44 → w_X6_pass c (fun r7 M8 => (r7 = 0 ∨ r7 = 1) → (r7 = 0 → Q 0 M8) ∧ (¬ r7 = 0 → gq_ c dp 0 (fun r10 M11 => (r10 = 0 ∨ r10 = 1) → (¬ r10 = 0 → K M11) ∧ (r10 = 0 → Q 0 M11)) [] M8)) 9 C)
def bdR (dq : Nat) (kr y : Int) (K : MM → Prop) (R : MM) : Prop := (kr = 13 → K R) ∧ (¬ kr = 13 → w_X12_needSign (fun _ M3 => (∀ v4, v4 = M3 0 83 → ri_ v4 → (¬ v4 = 0 → 0 ≤ y ∧ y < 480 ∧ (∀ M1, M1 = ux_ M3 69 y (-1) → K M1)) ∧ (v4 = 0 → gr_ dq 0 (fun r6 M7 => ri_ r6 → 0 ≤ y ∧ y < 480 ∧ (∀ M1, M1 = ux_ M7 69 y r6 → K M1)) [] M3))) 58 R)
theorem J_bd (hT : TX C0 R0 E L) (b0 : 0 ≤ b) (b1 : b ≤ 360) (q0 : 0 ≤ q) (q1 : q ≤ 10) (HE : Jt c C0 R0 E L b it SM q 0 0 14 12) (dp dq k : Nat) (n fo s st : Int) (nm nr_ sf : Int → Int) (kd y : Int) (hkd : 44 ≤ kd) (hdp : 14 * (10 - q) + 14 ≤ dp) (hdq : 12 * (10 - q) + 2 * (120 - n) + 12 ≤ dq) (hk : k ≤ L) (n0 : 0 ≤ n) (n1 : n ≤ 120) (s0 : 0 ≤ s) (s1 : s ≤ fo) (fq : fo ≤ q) (st0 : 0 ≤ st) (st1 : st ≤ 3 * n + 30) (hn : ∀ i, 0 ≤ i → i < s → nr (nm i) (nr_ i)) (y0 : b ≤ y) (y1 : y < b + n) :
    (∃ (k' : Nat) (n' st' x : Int) (P' : CD) (N' : MM), k ≤ k' ∧ k' ≤ L ∧ n ≤ n' ∧ n' ≤ 120 ∧ st ≤ st' ∧ st' ≤ st + 3 * (n' - n) ∧ ((kd = 44 ∧ st' = st) ∨ (kd ≠ 44 ∧ SM P' N' s sf fo it x st st' (b + n) (b + n'))) ∧
      (∀ C w wq, 0 ≤ w → w ≤ n → SC c C0 k n q fo it s w st nm sf wq C → ∀ (K : MM → Prop) Q, (∀ C', SC c C0 k' n' q fo it s w st' nm sf wq C' → (∀ j i, 0 < j → j ≤ 4 → i < st → C' (c + j) i = C (c + j) i) → (∀ j i, 0 < j → j ≤ 4 → st ≤ i → i < st' → C' (c + j) i = P' j i) → K C') → bdC c dp kd K Q C) ∧
      (∀ R, SR C0 R0 E b k n q it s nr_ R → ∀ K : MM → Prop, (∀ R', SR C0 R0 E b k' n' q it s nr_ R' → (∀ j i, 66 ≤ j → j ≤ 70 → i < b + n → ¬ (j = 69 ∧ i = y) → R' j i = R j i) → (kd ≠ 44 → R' 69 y = x) → (kd = 44 → R' 69 y = R 69 y) → (∀ j i, 66 ≤ j → j ≤ 70 → b + n ≤ i → i < b + n' → R' j i = N' j i) → K R') → bdR dq (kd - 31) y K R)) ∨
    ∃ f pl, 0 < f ∧ (∀ C w wq, 0 ≤ w → w ≤ n → SC c C0 k n q fo it s w st nm sf wq C → ∀ (K : MM → Prop) Q, (∀ C', CF c C0 f pl C' → Q 0 C') → bdC c dp kd K Q C) ∧ (∀ R, SR C0 R0 E b k n q it s nr_ R → ∀ K : MM → Prop, (∀ R', RF R0 b q s f pl R' → K R') → bdR dq (kd - 31) y K R) := by
  by_cases h44 : kd = 44
  · refine Or.inl ⟨k, n, st, 0, fun _ _ => 0, fun _ _ => 0, Nat.le_refl _, hk, Int.le_refl _, n1, Int.le_refl _, by omega, Or.inl ⟨h44, rfl⟩, fun C w wq w0 w1 hC K Q hq => ?_, fun R hR K hq => ?_⟩
    · unfold bdC
      exact ⟨fun _ => hq C hC (fun _ _ _ _ _ => rfl) (fun j i _ _ z z2 => by omega), fun z => absurd h44 z⟩
    · unfold bdR
      exact ⟨fun _ => hq R hR (fun _ _ _ _ _ _ => rfl) (fun z => absurd h44 z) (fun _ => rfl) (fun j i _ _ z z2 => by omega), fun z => absurd (by omega) z⟩
  · by_cases hw : C0 4 k = 9
    · have kL := TX_lt hT hk (show C0 4 k ≠ 0 by omega)
      rcases HE dp dq (k + 1) n fo s st nm nr_ sf (by omega) hdq kL n0 n1 s0 s1 fq st0 st1 hn with ⟨k2, n2, st2, x2, P2, N2, kk, k2L, nn, n2L, ss, ⟨nlt, sb, x20, x21, hS2⟩, cO, rO⟩ | ⟨f, pl, f0, cN, rN⟩
      · refine Or.inl ⟨k2, n2, st2, x2, P2, N2, by omega, k2L, nn, n2L, ss, by omega, Or.inr ⟨h44, hS2⟩, fun C w wq w0 w1 hC K Q hq => ?_, fun R hR K hq => ?_⟩
        · unfold bdC
          exact ⟨fun z => absurd z h44, fun _ => c_pass hT.1 hC hk (by decide) (fun _ C1 h1 r1 _ => ⟨fun z => absurd z (by decide), fun _ => cO C1 w wq w0 w1 h1 (fun j i _ _ z z2 => by omega) _ (fun C2 h2 r2 q2 _ => ⟨fun _ => hq C2 h2 (fun j i j0 j4 hi => by rw [r2 j i j0 j4 hi, r1 j j0]) q2, fun z => absurd z (by decide)⟩)⟩) (fun z => absurd hw z)⟩
        · unfold bdR
          refine ⟨fun z => by omega, fun _ => r_need hT hR hk (x := 5) (by omega) (by decide) (fun _ R1 h1 r1 v4 e4 _ => ⟨fun z => absurd (by rw [e4]; exact h1.2.2.1.1) z, fun _ => rO R1 h1 (fun j i _ _ z z2 => by omega) _ (fun R2 h2 r2 q2 _ => ⟨by omega, by omega, fun M1 e1 => ?_⟩)⟩) (fun z => absurd (by omega) z)⟩
          refine hq M1 (by rw [e1]; exact SR_u h2 (by omega) (by omega) _ (by omega) (by omega)) (fun j i j0 j4 hi hne => ?_) (fun _ => by rw [e1, ux_s]) (fun z => absurd z h44) (fun j i j0 j4 hi hi2 => ?_)
          · have a1 : M1 j i = R2 j i := by rw [e1]; unfold ux_; rw [if_neg hne]
            rw [a1, r2 j i j0 j4 hi, r1 j (by omega)]
          · have a1 : M1 j i = R2 j i := by rw [e1]; unfold ux_; rw [if_neg (by omega)]
            rw [a1]; exact q2 j i j0 j4 hi hi2
      · refine Or.inr ⟨f, pl, f0, fun C w wq w0 w1 hC K Q hq => ?_, fun R hR K hq => ?_⟩
        · unfold bdC
          exact ⟨fun z => absurd z h44, fun _ => c_pass hT.1 hC hk (by decide) (fun _ C1 h1 r1 _ => ⟨fun z => absurd z (by decide), fun _ => cN C1 w wq w0 w1 h1 (fun j i _ _ z z2 => by omega) _ (fun C2 h2 _ => ⟨fun z => absurd rfl z, fun _ => hq C2 h2⟩)⟩) (fun z => absurd hw z)⟩
        · unfold bdR
          refine ⟨fun z => by omega, fun _ => r_need hT hR hk (x := 5) (by omega) (by decide) (fun _ R1 h1 r1 v4 e4 _ => ⟨fun z => absurd (by rw [e4]; exact h1.2.2.1.1) z, fun _ => rN R1 h1 (fun j i _ _ z z2 => by omega) _ (fun x9 R2 h2 _ => ⟨by omega, by omega, fun M1 e1 => hq _ ?_⟩)⟩) (fun z => absurd (by omega) z)⟩
          rw [e1]
          exact RF_u h2 (by omega) (by omega) _ (by omega) (by omega)
    · refine Or.inr ⟨if C0 4 k = 1 then 2 else 1, C0 5 k, flt_pos, fun C w wq w0 w1 hC K Q hq => ?_, fun R hR K hq => ?_⟩
      · unfold bdC
        exact ⟨fun z => absurd z h44, fun _ => c_pass hT.1 hC hk (by decide) (fun z => absurd z hw) (fun _ C1 h1 _ => ⟨fun _ => hq C1 h1, fun z => absurd rfl z⟩)⟩
      · unfold bdR
        refine ⟨fun z => by omega, fun _ => r_need hT hR hk (x := 5) (by omega) (by decide) (fun z => absurd (by omega) hw) (fun _ R1 h1 v4 e4 _ => ⟨fun _ => ⟨by omega, by omega, fun M1 e1 => hq _ ?_⟩, fun z => absurd (show (0 : Int) < v4 by rw [e4, h1.2.1]; exact flt_pos) (by omega)⟩)⟩
        rw [e1]
        exact RF_u h1 (by omega) (by omega) _ (by omega) (by omega)
