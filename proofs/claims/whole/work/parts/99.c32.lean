/-! a question's where is read, on both sides -/
def whQ (dq : Nat) (K : Int → MM → Prop) (R : MM) : Prop := w_X12_takesKey (fun r11 M12 => (r11 = 0 ∨ r11 = 1) → (r11 = 0 → K (-1) M12) ∧ (¬ r11 = 0 → gr_ dq 0 (fun r14 M15 => ri_ r14 → K r14 M15) [] M12)) 3 R
theorem J_whq {c : Nat} {C0 R0 : MM} {E : Nat → Int} {L : Nat} {b it : Int} {SM : SMt} {q : Int} (hc : CloA SM) (hT : TX C0 R0 E L) (q0 : 0 ≤ q) (q1 : q ≤ 10) (HE : Jt c C0 R0 E L b it SM q 0 0 14 12) (dp dq k : Nat) (n fo s st : Int) (nm nr_ sf : Int → Int) (lp : Int) (hdp : 14 * (10 - q) + 15 ≤ dp) (hdq : 12 * (10 - q) + 2 * (120 - n) + 12 ≤ dq) (hk : k ≤ L) (n0 : 0 ≤ n) (n1 : n ≤ 120) (s0 : 0 ≤ s) (s1 : s ≤ fo) (fq : fo ≤ q) (st0 : 0 ≤ st) (st1 : st ≤ 3 * n + 30) (hn : ∀ i, 0 ≤ i → i < s → nr (nm i) (nr_ i)) :
    (∃ (k' : Nat) (n' st' x : Int) (P' : CD) (N' : MM), k ≤ k' ∧ k' ≤ L ∧ n ≤ n' ∧ n' ≤ 120 ∧ st ≤ st' ∧ st' ≤ st + 3 * (n' - n) + 1 ∧ ((x = -1 ∧ st' = st) ∨ (b + n ≤ x ∧ st ≤ st' - 1 ∧ P' 1 (st' - 1) = 37 ∧ P' 3 (st' - 1) = lp ∧ SM P' N' s sf fo it x st (st' - 1) (b + n) (b + n'))) ∧
      (∀ C w wq, 0 ≤ w → w ≤ n → SC c C0 k n q fo it s w st nm sf wq C → ∀ Q, (∀ C', SC c C0 k' n' q fo it s w st' nm sf wq C' → (∀ j i, 0 < j → j ≤ 4 → i < st → C' (c + j) i = C (c + j) i) → (∀ j i, 0 < j → j ≤ 4 → st ≤ i → i < st' → C' (c + j) i = P' j i) → Q 1 C') → gq_ c dp 14 Q [lp] C) ∧
      (∀ R, SR C0 R0 E b k n q it s nr_ R → ∀ K : Int → MM → Prop, (∀ R', SR C0 R0 E b k' n' q it s nr_ R' → (∀ j i, 66 ≤ j → j ≤ 70 → i < b + n → R' j i = R j i) → (∀ j i, 66 ≤ j → j ≤ 70 → b + n ≤ i → i < b + n' → R' j i = N' j i) → K x R') → whQ dq K R)) ∨
    ∃ f pl, 0 < f ∧ (∀ C w wq, 0 ≤ w → w ≤ n → SC c C0 k n q fo it s w st nm sf wq C → ∀ Q, (∀ C', CF c C0 f pl C' → Q 0 C') → gq_ c dp 14 Q [lp] C) ∧ (∀ R, SR C0 R0 E b k n q it s nr_ R → ∀ K : Int → MM → Prop, (∀ y R', RF R0 b q s f pl R' → K y R') → whQ dq K R) := by
  obtain ⟨dp, rfl⟩ : ∃ d', dp = d' + 1 := ⟨dp - 1, by omega⟩
  by_cases hw : C0 4 k = 34
  · have kL := TX_lt hT hk (show C0 4 k ≠ 0 by omega)
    rcases HE dp dq (k + 1) n fo s st nm nr_ sf (by omega) hdq kL n0 n1 s0 s1 fq st0 st1 hn with ⟨k2, n2, st2, x2, P2, N2, kk, k2L, nn, n2L, ss, ⟨nlt, sb, x20, x21, hS2⟩, cO, rO⟩ | ⟨f, pl, f0, cN, rN⟩
    · refine Or.inl ⟨k2, n2, st2 + 1, x2, pcat P2 st2 (pone 37 0 lp 0), N2, by omega, k2L, nn, n2L, by omega, by omega, Or.inr ⟨x20, by omega, ?_, ?_, ?_⟩, fun C w wq w0 w1 hC Q hq => ?_, fun R hR K hq => ?_⟩
      · rw [pcat_h 1 (by omega)]; rfl
      · rw [pcat_h 3 (by omega)]; rfl
      · rw [show st2 + 1 - 1 = st2 from by omega]
        exact hc _ _ _ _ _ _ _ _ _ _ _ hS2 _ _ _ _ _ (fun j i _ _ _ h => pcat_l j h) (fun _ _ _ _ _ _ => rfl) (fun _ _ _ => rfl) (by omega) (by omega)
      · show b_X6_readWhere c (gq_ c dp) Q lp C
        unfold b_X6_readWhere
        refine fun v1 e1 _ => ⟨fun _ => c_next hT.1 hC hk (by omega) (fun C1 h1 r1 => cO C1 w wq w0 w1 h1 (fun j i _ _ z z2 => by omega) _ (fun C2 h2 r2 q2 _ => ⟨fun _ => c_emit h2 (by omega) (by omega) (fun C3 h3 r3 u1 u2 u3 u4 _ => hq C3 h3 (fun j i j0 j4 hi => by rw [r3 j i j0 (by omega), r2 j i j0 j4 hi, r1 j j0]) (fun j i j0 j4 hi hi2 => ?_)), fun z => absurd z (by decide)⟩)), fun z => absurd (by rw [e1, hC.2.1.1]; exact hw) z⟩
        by_cases y : i < st2
        · rw [pcat_l j y, r3 j i j0 (by omega)]; exact q2 j i j0 j4 hi y
        · have y3 : i = st2 := by omega
          subst y3
          rw [pcat_h j (by omega)]
          exact pone_of u1 u2 u3 u4 j0 j4 _
      · unfold whQ
        exact r_takeK hT hR hk (x := 4) (by omega) (by omega) (by decide) (fun _ R1 h1 r1 _ => ⟨fun z => absurd z (by decide), fun _ => rO R1 h1 (fun j i _ _ z z2 => by omega) _ (fun R2 h2 r2 q2 _ => hq R2 h2 (fun j i j0 j4 hi => by rw [r2 j i j0 j4 hi, r1 j (by omega)]) q2)⟩) (fun z => absurd (by omega) z)
    · refine Or.inr ⟨f, pl, f0, fun C w wq w0 w1 hC Q hq => ?_, fun R hR K hq => ?_⟩
      · show b_X6_readWhere c (gq_ c dp) Q lp C
        unfold b_X6_readWhere
        exact fun v1 e1 _ => ⟨fun _ => c_next hT.1 hC hk (by omega) (fun C1 h1 r1 => cN C1 w wq w0 w1 h1 (fun j i _ _ z z2 => by omega) _ (fun C2 h2 _ => ⟨fun z => absurd rfl z, fun _ => hq C2 h2⟩)), fun z => absurd (by rw [e1, hC.2.1.1]; exact hw) z⟩
      · unfold whQ
        exact r_takeK hT hR hk (x := 4) (by omega) (by omega) (by decide) (fun _ R1 h1 r1 _ => ⟨fun z => absurd z (by decide), fun _ => rN R1 h1 (fun j i _ _ z z2 => by omega) _ (fun x9 R2 h2 _ => hq x9 R2 h2)⟩) (fun z => absurd (by omega) z)
  · refine Or.inl ⟨k, n, st, -1, fun _ _ => 0, fun _ _ => 0, Nat.le_refl _, hk, Int.le_refl _, n1, Int.le_refl _, by omega, Or.inl ⟨rfl, rfl⟩, fun C w wq w0 w1 hC Q hq => ?_, fun R hR K hq => ?_⟩
    · show b_X6_readWhere c (gq_ c dp) Q lp C
      unfold b_X6_readWhere
      exact fun v1 e1 _ => ⟨fun z => absurd (by rw [← hC.2.1.1, ← e1]; exact z) hw, fun _ => hq C hC (fun _ _ _ _ _ => rfl) (fun j i _ _ z z2 => by omega)⟩
    · unfold whQ
      exact r_takeK hT hR hk (x := 4) (by omega) (by omega) (by decide) (fun z => absurd (by omega) hw) (fun _ _ => ⟨fun _ => hq R hR (fun _ _ _ _ _ => rfl) (fun j i _ _ z z2 => by omega), fun z => absurd rfl z⟩)
