/-! a question's value is read, on both sides -/
def vlQc (c : Nat) (lp : Int) (K F : MM → Prop) (M10 : MM) : Prop := ∀ v12, v12 = M10 1 9 → ri_ v12 → (¬ v12 = 35 → w_X6_emit c (fun r14 M15 => ri_ r14 → K M15) 41 0 lp 0 M10) ∧ (v12 = 35 → w_X9_nextWord (fun _ M17 => w_X6_readE c (fun r18 M19 => (r18 = 0 ∨ r18 = 1) → (¬ r18 = 0 → w_X6_emit c (fun r21 M22 => ri_ r21 → K M22) 40 0 lp 0 M19) ∧ (r18 = 0 → F M19)) M17) M10)
def vlQr (K : Int → MM → Prop) (R : MM) : Prop := w_X12_takesKey (fun r1 M2 => (r1 = 0 ∨ r1 = 1) → (r1 = 0 → K (-1) M2) ∧ (¬ r1 = 0 → w_X12_readE (fun r4 M5 => ri_ r4 → K r4 M5) M2)) 4 R
theorem J_vlq {c : Nat} {C0 R0 : MM} {E : Nat → Int} {L : Nat} {b it : Int} {SM : SMt} {q : Int} (hc : CloA SM) (hT : TX C0 R0 E L) (q0 : 0 ≤ q) (q1 : q ≤ 10) (HE : Jt c C0 R0 E L b it SM q 0 0 14 12) (k : Nat) (n fo s st : Int) (nm nr_ sf : Int → Int) (lp : Int) (hk : k ≤ L) (n0 : 0 ≤ n) (n1 : n ≤ 120) (s0 : 0 ≤ s) (s1 : s ≤ fo) (fq : fo ≤ q) (st0 : 0 ≤ st) (st1 : st ≤ 3 * n + 30) (hn : ∀ i, 0 ≤ i → i < s → nr (nm i) (nr_ i)) :
    (∃ (k' : Nat) (n' e3 x : Int) (P' : CD) (N' : MM), k ≤ k' ∧ k' ≤ L ∧ n ≤ n' ∧ n' ≤ 120 ∧ st ≤ e3 ∧ e3 ≤ st + 3 * (n' - n) ∧ ((x = -1 ∧ e3 = st ∧ P' 1 e3 = 41) ∨ (b + n ≤ x ∧ P' 1 e3 = 40 ∧ SM P' N' s sf fo it x st e3 (b + n) (b + n'))) ∧ P' 3 e3 = lp ∧
      (∀ C w wq, 0 ≤ w → w ≤ n → SC c C0 k n q fo it s w st nm sf wq C → ∀ K F : MM → Prop, (∀ C', SC c C0 k' n' q fo it s w (e3 + 1) nm sf wq C' → (∀ j i, 0 < j → j ≤ 4 → i < st → C' (c + j) i = C (c + j) i) → (∀ j i, 0 < j → j ≤ 4 → st ≤ i → i < e3 + 1 → C' (c + j) i = P' j i) → K C') → vlQc c lp K F C) ∧
      (∀ R, SR C0 R0 E b k n q it s nr_ R → ∀ K : Int → MM → Prop, (∀ R', SR C0 R0 E b k' n' q it s nr_ R' → (∀ j i, 66 ≤ j → j ≤ 70 → i < b + n → R' j i = R j i) → (∀ j i, 66 ≤ j → j ≤ 70 → b + n ≤ i → i < b + n' → R' j i = N' j i) → K x R') → vlQr K R)) ∨
    ∃ f pl, 0 < f ∧ (∀ C w wq, 0 ≤ w → w ≤ n → SC c C0 k n q fo it s w st nm sf wq C → ∀ K F : MM → Prop, (∀ C', CF c C0 f pl C' → F C') → vlQc c lp K F C) ∧ (∀ R, SR C0 R0 E b k n q it s nr_ R → ∀ K : Int → MM → Prop, (∀ y R', RF R0 b q s f pl R' → K y R') → vlQr K R) := by
  by_cases hw : C0 4 k = 35
  · have kL := TX_lt hT hk (show C0 4 k ≠ 0 by omega)
    rcases HE 300 400 (k + 1) n fo s st nm nr_ sf (by omega) (by omega) kL n0 n1 s0 s1 fq st0 st1 hn with ⟨k2, n2, st2, x2, P2, N2, kk, k2L, nn, n2L, ss, ⟨nlt, sb, x20, x21, hS2⟩, cO, rO⟩ | ⟨f, pl, f0, cN, rN⟩
    · refine Or.inl ⟨k2, n2, st2, x2, pcat P2 st2 (pone 40 0 lp 0), N2, by omega, k2L, nn, n2L, by omega, by omega, Or.inr ⟨x20, ?_, ?_⟩, ?_, fun C w wq w0 w1 hC K F hq => ?_, fun R hR K hq => ?_⟩
      · rw [pcat_h 1 (by omega)]; rfl
      · exact hc _ _ _ _ _ _ _ _ _ _ _ hS2 _ _ _ _ _ (fun j i _ _ _ h => pcat_l j h) (fun _ _ _ _ _ _ => rfl) (fun _ _ _ => rfl) (by omega) (by omega)
      · rw [pcat_h 3 (by omega)]; rfl
      · unfold vlQc w_X6_readE
        refine fun v1 e1 _ => ⟨fun z => absurd (by rw [e1, hC.2.1.1]; exact hw) z, fun _ => c_next hT.1 hC hk (by omega) (fun C1 h1 r1 => cO C1 w wq w0 w1 h1 (fun j i _ _ z z2 => by omega) _ (fun C2 h2 r2 q2 _ => ⟨fun _ => c_emit h2 (by omega) (by omega) (fun C3 h3 r3 u1 u2 u3 u4 _ => hq C3 h3 (fun j i j0 j4 hi => by rw [r3 j i j0 (by omega), r2 j i j0 j4 hi, r1 j j0]) (fun j i j0 j4 hi hi2 => ?_)), fun z => absurd z (by decide)⟩))⟩
        by_cases y : i < st2
        · rw [pcat_l j y, r3 j i j0 (by omega)]; exact q2 j i j0 j4 hi y
        · have y3 : i = st2 := by omega
          subst y3
          rw [pcat_h j (by omega)]
          exact pone_of u1 u2 u3 u4 j0 j4 _
      · unfold vlQr w_X12_readE
        exact r_takeK hT hR hk (x := 5) (by omega) (by omega) (by decide) (fun _ R1 h1 r1 _ => ⟨fun z => absurd z (by decide), fun _ => rO R1 h1 (fun j i _ _ z z2 => by omega) _ (fun R2 h2 r2 q2 _ => hq R2 h2 (fun j i j0 j4 hi => by rw [r2 j i j0 j4 hi, r1 j (by omega)]) q2)⟩) (fun z => absurd (by omega) z)
    · refine Or.inr ⟨f, pl, f0, fun C w wq w0 w1 hC K F hq => ?_, fun R hR K hq => ?_⟩
      · unfold vlQc w_X6_readE
        exact fun v1 e1 _ => ⟨fun z => absurd (by rw [e1, hC.2.1.1]; exact hw) z, fun _ => c_next hT.1 hC hk (by omega) (fun C1 h1 r1 => cN C1 w wq w0 w1 h1 (fun j i _ _ z z2 => by omega) _ (fun C2 h2 _ => ⟨fun z => absurd rfl z, fun _ => hq C2 h2⟩))⟩
      · unfold vlQr w_X12_readE
        exact r_takeK hT hR hk (x := 5) (by omega) (by omega) (by decide) (fun _ R1 h1 r1 _ => ⟨fun z => absurd z (by decide), fun _ => rN R1 h1 (fun j i _ _ z z2 => by omega) _ (fun x9 R2 h2 _ => hq x9 R2 h2)⟩) (fun z => absurd (by omega) z)
  · refine Or.inl ⟨k, n, st, -1, pone 41 0 lp 0, fun _ _ => 0, Nat.le_refl _, hk, Int.le_refl _, n1, Int.le_refl _, by omega, Or.inl ⟨rfl, rfl, rfl⟩, rfl, fun C w wq w0 w1 hC K F hq => ?_, fun R hR K hq => ?_⟩
    · unfold vlQc
      refine fun v1 e1 _ => ⟨fun _ => c_emit hC (by omega) (by omega) (fun C3 h3 r3 u1 u2 u3 u4 _ => hq C3 h3 (fun j i j0 j4 hi => r3 j i j0 (by omega)) (fun j i j0 j4 hi hi2 => ?_)), fun z => absurd (by rw [← hC.2.1.1, ← e1]; exact z) hw⟩
      have y3 : i = st := by omega
      subst y3
      exact pone_of u1 u2 u3 u4 j0 j4 _
    · unfold vlQr
      exact r_takeK hT hR hk (x := 5) (by omega) (by omega) (by decide) (fun z => absurd (by omega) hw) (fun _ _ => ⟨fun _ => hq R hR (fun _ _ _ _ _ => rfl) (fun j i _ _ z z2 => by omega), fun z => absurd rfl z⟩)
