/-! the text of a promise is read, on both sides -/
theorem r_eb {R R0 : MM} {Q : Int → MM → Prop} {b f pl : Int} (hF : Fpr b R0 R) (h83 : R 0 83 = f) (f0 : 0 ≤ f) (h84 : 0 < f → R 0 84 = pl) (hq : ∀ R', R' = ux_ (ux_ R 0 81 f) 0 82 (if f ≤ 0 then -1 else pl) → Q 0 R') : w_X12_endText_b18 Q R := by
  unfold w_X12_endText_b18 w_X12_endText_b42
  intro v1 e1 _ M2 e2 v3 e3 _
  rw [h83] at e1
  rw [e1] at e2
  rw [e2, ux_i _ _ _ (by decide), h83] at e3
  refine ⟨fun z M1 e => hq M1 (by rw [e, e2, if_pos (by omega)]), fun z v5 e5 _ M1 e => hq M1 ?_⟩
  rw [e2, ux_i _ _ _ (by decide), h84 (by omega)] at e5
  rw [e, e2, e5, if_neg (by omega)]
theorem r_endF {R R0 : MM} {Q : Int → MM → Prop} {b q s f pl : Int} (h : RF R0 b q s f pl R) (f0 : 0 < f) (hq : ∀ R', R' = ux_ (ux_ R 0 81 f) 0 82 pl → Q 0 R') : w_X12_endText Q R := by
  unfold w_X12_endText
  intro v1 e1 _
  refine ⟨fun _ => r_eb h.1 h.2.1 (by omega) (fun _ => h.2.2.1) (fun R' e => hq R' (by rw [e, if_neg (by omega)])), fun z => ?_⟩
  rw [h.2.1] at e1; omega
theorem r_endT {C0 R0 R : MM} {E : Nat → Int} {b : Int} {k : Nat} {n q it s : Int} {nr_ : Int → Int} (h : SR C0 R0 E b k n q it s nr_ R) {Q : Int → MM → Prop} (h0 : C0 4 k = 0 → ∀ R', R' = ux_ (ux_ R 0 81 0) 0 82 (-1) → Q 0 R') (h1 : C0 4 k ≠ 0 → ∀ R1 R', RF R0 b q s (if C0 4 k = 1 then 2 else 1) (C0 5 k) R1 → R' = ux_ (ux_ R1 0 81 (if C0 4 k = 1 then 2 else 1)) 0 82 (C0 5 k) → Q 0 R') : w_X12_endText Q R := by
  unfold w_X12_endText
  intro v1 e1 _
  have h83 := h.2.2.1.1
  refine ⟨fun z => absurd (by rw [e1]; exact h83) z, fun _ v3 e3 _ => ⟨fun z => ?_, fun z => ?_⟩⟩
  · have w0 := (tk_end h.2.1.2.2).mp (by rw [← e3]; exact z)
    exact r_eb (pl := 0) h.1 h83 (by omega) (fun y => by omega) (fun R' e => h0 w0 R' (by rw [e, if_pos (by omega)]))
  · have w0 : C0 4 k ≠ 0 := fun y => z (by rw [e3]; exact (tk_end h.2.1.2.2).mpr y)
    refine r_wrong h (fun R1 hR1 _ => r_eb hR1.1 hR1.2.1 (by split <;> omega) (fun _ => hR1.2.2.1) (fun R' e => h1 w0 R1 R' hR1 ?_))
    rw [e]
    congr 1
    split <;> rfl
/-- what the reading of a promise comes to: the same program in both forms, or the same fault -/
theorem rp_spec {c : Nat} {C0 R0 : MM} {E : Nat → Int} {L : Nat} {b : Int} (hT : TX C0 R0 E L) (b0 : 0 ≤ b) (b1 : b ≤ 360) (nm nr_ sf wq : Int → Int) :
    (∃ (n' st' x : Int) (P : CD) (N : MM), 0 < n' ∧ n' ≤ 120 ∧ st' ≤ 3 * n' ∧ b ≤ x ∧ x < b + n' ∧ Sem P N 0 sf 0 0 x 0 st' b (b + n') ∧
      (∀ C, SC c C0 0 0 0 0 0 0 0 0 nm sf wq C → ∀ Q : Int → MM → Prop, (∀ C', Fpc c C0 C' → Us c st' C' → C' c 5 = st' → (∀ j i, 0 < j → j ≤ 4 → 0 ≤ i → i < st' → C' (c + j) i = P j i) → Q 1 C') → w_X6_readE c (fun r3 M4 => (r3 = 0 ∨ r3 = 1) → (r3 = 0 → Q 0 M4) ∧ (¬ r3 = 0 → (∀ v6, v6 = M4 1 9 → ri_ v6 → (v6 = 0 → Q 1 M4) ∧ (¬ v6 = 0 → w_X6_refuse c (fun r8 M9 => (r8 = 0 ∨ r8 = 1) → (r8 = 0 → Q 0 M9) ∧ (¬ r8 = 0 → Q 1 M9)) M4)))) C) ∧
      (∀ R, SR C0 R0 E b 0 0 0 0 0 nr_ R → ∀ Q : Int → MM → Prop, (∀ R1 R', Fpr b R0 R1 → R1 0 83 = 0 → R1 0 92 = n' → R1 0 91 = b → (∀ j i, 66 ≤ j → j ≤ 70 → b ≤ i → i < b + n' → R1 j i = N j i) → R' = ux_ (ux_ R1 0 81 0) 0 82 (-1) → Q x R') → w_X12_readE (fun r10 M11 => ri_ r10 → w_X12_endText (fun _ M13 => Q r10 M13) M11) R)) ∨
    ∃ f pl, 0 < f ∧ (∀ C, SC c C0 0 0 0 0 0 0 0 0 nm sf wq C → ∀ Q : Int → MM → Prop, (∀ C', CF c C0 f pl C' → Q 0 C') → w_X6_readE c (fun r3 M4 => (r3 = 0 ∨ r3 = 1) → (r3 = 0 → Q 0 M4) ∧ (¬ r3 = 0 → (∀ v6, v6 = M4 1 9 → ri_ v6 → (v6 = 0 → Q 1 M4) ∧ (¬ v6 = 0 → w_X6_refuse c (fun r8 M9 => (r8 = 0 ∨ r8 = 1) → (r8 = 0 → Q 0 M9) ∧ (¬ r8 = 0 → Q 1 M9)) M4)))) C) ∧
      (∀ R, SR C0 R0 E b 0 0 0 0 0 nr_ R → ∀ Q : Int → MM → Prop, (∀ y R1 R', Fpr b R0 R1 → R' = ux_ (ux_ R1 0 81 f) 0 82 pl → Q y R') → w_X12_readE (fun r10 M11 => ri_ r10 → w_X12_endText (fun _ M13 => Q r10 M13) M11) R) := by
  have J := (J_all (c := c) (it := 0) Sem_all hT (Or.inl rfl) b0 b1 10 0 (by decide) (by decide)).1
  rcases J 300 400 0 0 0 0 0 nm nr_ sf (by decide) (by decide) (Nat.zero_le _) (by decide) (by decide) (by decide) (by decide) (by decide) (by decide) (by decide) (fun i i0 i1 => by omega) with ⟨k', n', st', x, P, N, kk, k'L, nn, n120, ss, ⟨nlt, sb, x0, x1, hS⟩, cO, rO⟩ | ⟨f, pl, f0, cN, rN⟩
  · rw [show b + 0 = b from by omega] at x0 hS
    by_cases w0 : C0 4 k' = 0
    · refine Or.inl ⟨n', st', x, P, N, nlt, n120, by omega, x0, x1, hS, fun C hC Q hq => ?_, fun R hR Q hq => ?_⟩
      · unfold w_X6_readE
        refine cO C 0 wq (by omega) (by omega) hC (fun j i _ _ z z2 => by omega) _ (fun C' h1 _ h3 _ => ⟨fun z => absurd z (by decide), fun _ v6 e6 _ => ⟨fun _ => hq C' h1.1 h1.2.2.2.2 h1.2.2.1.2.2.2.2.2.2 h3, fun z => absurd (by rw [e6, h1.2.1.1]; exact w0) z⟩⟩)
      · unfold w_X12_readE
        refine rO R hR (fun j i _ _ z z2 => by omega) _ (fun R1 h1 _ h3 _ => r_endT h1 (fun _ R' e => hq R1 R' h1.1 h1.2.2.1.1 h1.2.2.1.2.2.1 h1.2.2.1.2.1 (fun j i j0 j1 i0 i1 => h3 j i j0 j1 (by omega) i1) e) (fun z => absurd w0 z))
    · refine Or.inr ⟨if C0 4 k' = 1 then 2 else 1, C0 5 k', flt_pos, fun C hC Q hq => ?_, fun R hR Q hq => ?_⟩
      · unfold w_X6_readE
        refine cO C 0 wq (by omega) (by omega) hC (fun j i _ _ z z2 => by omega) _ (fun C' h1 _ h3 _ => ⟨fun z => absurd z (by decide), fun _ v6 e6 _ => ⟨fun z => absurd (by rw [← h1.2.1.1, ← e6]; exact z) w0, fun _ => c_refuse h1 (fun C2 h2 _ => ⟨fun _ => hq C2 h2, fun z => absurd rfl z⟩)⟩⟩)
      · unfold w_X12_readE
        refine rO R hR (fun j i _ _ z z2 => by omega) _ (fun R1 h1 _ h3 _ => r_endT h1 (fun z => absurd z w0) (fun _ R2 R' h2 e => hq x R2 R' h2.1 e))
  · refine Or.inr ⟨f, pl, f0, fun C hC Q hq => ?_, fun R hR Q hq => ?_⟩
    · unfold w_X6_readE
      exact cN C 0 wq (by omega) (by omega) hC (fun j i _ _ z z2 => by omega) _ (fun C' h1 _ => ⟨fun _ => hq C' h1, fun z => absurd rfl z⟩)
    · unfold w_X12_readE
      exact rN R hR (fun j i _ _ z z2 => by omega) _ (fun y R1 h1 _ => r_endF h1 f0 (fun R' e => hq y R1 R' h1.1 e))
