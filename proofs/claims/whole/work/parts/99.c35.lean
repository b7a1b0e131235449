/-! a question's text is read whole, on both sides -/
def rqC (c : Nat) (Q : Int → MM → Prop) (M2 : MM) : Prop := w_X6_readSet c (fun r3 M4 => (r3 = 0 ∨ r3 = 1) → (¬ r3 = 0 → w_X6_emit c (fun r6 M7 => ri_ r6 → (∀ M8, M8 = ux_ M7 c 13 1 → w_X6_readWhere c (fun r9 M10 => (r9 = 0 ∨ r9 = 1) → (¬ r9 = 0 → vlQc c r6 (w_X6_readQuestion_b90 c Q r6) (Q 0) M10) ∧ (r9 = 0 → Q 0 M10)) r6 M8)) 36 0 0 0 M4) ∧ (r3 = 0 → Q 0 M4)) 0 M2
theorem rqC_of {c : Nat} {Q : Int → MM → Prop} {M2 : MM} (h : rqC c Q M2) : w_X6_readSet c (fun r3 M4 => (r3 = 0 ∨ r3 = 1) → (¬ r3 = 0 → w_X6_emit c (fun r6 M7 => ri_ r6 → (∀ M8, M8 = ux_ M7 c 13 1 → w_X6_readWhere c (fun r9 M10 => (r9 = 0 ∨ r9 = 1) → (¬ r9 = 0 → (∀ v12, v12 = M10 1 9 → ri_ v12 → (¬ v12 = 35 → w_X6_emit c (fun r14 M15 => ri_ r14 → w_X6_readQuestion_b90 c Q r6 M15) 41 0 r6 0 M10) ∧ (v12 = 35 → w_X9_nextWord (fun _ M17 => w_X6_readE c (fun r18 M19 => (r18 = 0 ∨ r18 = 1) → (¬ r18 = 0 → w_X6_emit c (fun r21 M22 => ri_ r21 → w_X6_readQuestion_b90 c Q r6 M22) 40 0 r6 0 M19) ∧ (r18 = 0 → Q 0 M19)) M17) M10))) ∧ (r9 = 0 → Q 0 M10)) r6 M8)) 36 0 0 0 M4) ∧ (r3 = 0 → Q 0 M4)) 0 M2 := h
theorem rq_spec {c : Nat} {C0 R0 : MM} {E : Nat → Int} {L : Nat} {b : Int} (hT : TX C0 R0 E L) (b0 : 0 ≤ b) (b1 : b ≤ 360) (nm nr_ sf wq : Int → Int) :
    (∃ (n1 n2 n' e0 e2 e3 xs x3 x4 : Int) (P : CD) (N : MM), 0 < n1 ∧ n1 ≤ n2 ∧ n2 ≤ n' ∧ n' ≤ 120 ∧ 0 ≤ e0 ∧ e0 < e2 ∧ e2 ≤ e3 ∧ e3 < 499 ∧ SemS P N 0 sf 0 0 xs 0 e0 b (b + n1) ∧ (P 1 e0 = 36 ∧ P 2 e0 = 0 ∧ P 3 e0 = e3 + 1) ∧
      (x3 = -1 ∧ e2 = e0 + 1 ∨ 0 ≤ x3 ∧ P 1 (e2 - 1) = 37 ∧ P 3 (e2 - 1) = e0 ∧ Sem P N 0 sf 0 1 x3 (e0 + 1) (e2 - 1) (b + n1) (b + n2)) ∧
      (x4 = -1 ∧ e3 = e2 ∧ P 1 e3 = 41 ∨ 0 ≤ x4 ∧ P 1 e3 = 40 ∧ Sem P N 0 sf 0 1 x4 e2 e3 (b + n2) (b + n')) ∧ P 3 e3 = e0 ∧
      (∀ C, SC c C0 0 0 0 0 0 0 0 0 nm sf wq C → ∀ Q : Int → MM → Prop, (∀ C', Fpc c C0 C' → Us c (e3 + 1) C' → C' c 5 = e3 + 1 → (∀ j i, 0 < j → j ≤ 4 → 0 ≤ i → i < e3 + 1 → C' (c + j) i = P j i) → Q 1 C') → rqC c Q C) ∧
      (∀ R, SR C0 R0 E b 0 0 0 0 0 nr_ R → ∀ K : Int → Int → Int → MM → Prop, (∀ R1 R', Fpr b R0 R1 → R1 0 83 = 0 → R1 0 92 = n' → (∀ j i, 66 ≤ j → j ≤ 70 → b ≤ i → i < b + n' → R1 j i = N j i) → R' = ux_ (ux_ R1 0 81 0) 0 82 (-1) → K xs x3 x4 R') → rqR K R)) ∨
    ∃ f pl, 0 < f ∧ (∀ C, SC c C0 0 0 0 0 0 0 0 0 nm sf wq C → ∀ Q : Int → MM → Prop, (∀ C', CF c C0 f pl C' → Q 0 C') → rqC c Q C) ∧
      (∀ R, SR C0 R0 E b 0 0 0 0 0 nr_ R → ∀ K : Int → Int → Int → MM → Prop, (∀ y3 y4 y5 R1 R', Fpr b R0 R1 → R' = ux_ (ux_ R1 0 81 f) 0 82 pl → K y3 y4 y5 R') → rqR K R) := by
  have JS := (J_all (c := c) (it := 0) Sem_all hT (Or.inl rfl) b0 b1 10 0 (by decide) (by decide)).2
  have J1 := (J_all (c := c) (it := 1) Sem_all hT (Or.inr rfl) b0 b1 10 0 (by decide) (by decide)).1
  rcases JS 300 400 0 0 0 0 0 nm nr_ sf (by decide) (by decide) (Nat.zero_le _) (by decide) (by decide) (by decide) (by decide) (by decide) (by decide) (by decide) (fun i i0 i1 => by omega) with ⟨k1, n1, e0, xs, P1, N1, kk, k1L, nn, n120, ss, ⟨nlt, sb, x0, x1, hS⟩, cO, rO⟩ | ⟨f, pl, f0, cN, rN⟩
  · rw [show b + 0 = b from by omega] at x0 hS rO
    have cgo : ∀ C, SC c C0 0 0 0 0 0 0 0 0 nm sf wq C → ∀ Q : Int → MM → Prop, (∀ C8, SC c C0 k1 n1 0 0 1 0 0 (e0 + 1) nm sf wq C8 → (∀ j i, 0 < j → j ≤ 4 → 0 ≤ i → i < e0 → C8 (c + j) i = P1 j i) → C8 (c + 1) e0 = 36 → C8 (c + 2) e0 = 0 → C8 (c + 4) e0 = 0 → w_X6_readWhere c (fun r9 M10 => (r9 = 0 ∨ r9 = 1) → (¬ r9 = 0 → vlQc c e0 (w_X6_readQuestion_b90 c Q e0) (Q 0) M10) ∧ (r9 = 0 → Q 0 M10)) e0 C8) → rqC c Q C := fun C hC Q hq => by
      unfold rqC w_X6_readSet
      refine cO C 0 wq (by omega) (by omega) hC (fun j i _ _ z z2 => by omega) _ (fun C4 h4 _ q4 _ => ⟨fun _ => c_emit h4 (by omega) (by omega) (fun C7 h7 r7 u1 u2 u3 u4 _ M8 e8 => ?_), fun z => absurd z (by decide)⟩)
      have c0 := hC.1.1
      have o8 : ∀ j, 0 < j → M8 (c + j) = C7 (c + j) := fun j hj => by rw [e8, ux_g _ _ _ (by omega)]
      exact hq M8 (by rw [e8]; exact SC_it h7 1) (fun j i j0 j4 i0 i1 => by rw [o8 j j0, r7 j i j0 (by omega)]; exact q4 j i j0 j4 i0 i1) (by rw [o8 1 (by omega)]; exact u1) (by rw [o8 2 (by omega)]; exact u2) (by rw [o8 4 (by omega)]; exact u4)
    have rgo : ∀ R, SR C0 R0 E b 0 0 0 0 0 nr_ R → ∀ K : Int → Int → Int → MM → Prop, (∀ R1, SR C0 R0 E b k1 n1 0 1 0 nr_ R1 → (∀ j i, 66 ≤ j → j ≤ 70 → b ≤ i → i < b + n1 → R1 j i = N1 j i) → whQ 400 (fun y3 M => vlQr (fun y4 M' => w_X12_endText (fun _ M2 => K xs y3 y4 M2) M') M) R1) → rqR K R := fun R hR K hq => by
      unfold rqR
      refine rO R hR (fun j i _ _ z z2 => by omega) _ (fun R1 h1 _ q1 _ M10 e10 => hq M10 (by rw [e10]; exact SR_95 h1 1) (fun j i j0 j1 i0 i1 => by rw [e10, ux_c _ _ _ _ (by omega)]; exact q1 j i j0 j1 i0 i1))
    rcases J_whq Sem_A hT (by decide) (by decide) J1 300 400 k1 n1 0 0 (e0 + 1) nm nr_ sf e0 (by decide) (by omega) k1L (by omega) n120 (by decide) (by decide) (by decide) (by omega) (by omega) (fun i i0 i1 => by omega) with ⟨k2, n2, e2, x3, P2, N2, kk2, k2L, nn2, n2L, ss2, sb2, hw, cW, rW⟩ | ⟨f, pl, f0, cN, rN⟩
    · rcases J_vlq Sem_A hT (by decide) (by decide) J1 k2 n2 0 0 e2 nm nr_ sf e0 k2L (by omega) n2L (by decide) (by decide) (by decide) (by omega) (by omega) (fun i i0 i1 => by omega) with ⟨k3, n3, e3, x4, P3, N3, kk3, k3L, nn3, n3L, ss3, sb3, hv, p3, cV, rV⟩ | ⟨f, pl, f0, cN, rN⟩
      · have cw : ∀ C, SC c C0 0 0 0 0 0 0 0 0 nm sf wq C → ∀ Q : Int → MM → Prop, (∀ C8 C' : MM, SC c C0 k3 n3 0 0 1 0 0 (e3 + 1) nm sf wq C' → C8 (c + 1) e0 = 36 → C8 (c + 2) e0 = 0 → C8 (c + 4) e0 = 0 → (∀ j i, 0 < j → j ≤ 4 → 0 ≤ i → i < e0 → C' (c + j) i = P1 j i) → (∀ j, 0 < j → j ≤ 4 → C' (c + j) e0 = C8 (c + j) e0) → (∀ j i, 0 < j → j ≤ 4 → e0 + 1 ≤ i → i < e2 → C' (c + j) i = P2 j i) → (∀ j i, 0 < j → j ≤ 4 → e2 ≤ i → i < e3 + 1 → C' (c + j) i = P3 j i) → w_X6_readQuestion_b90 c Q e0 C') → rqC c Q C := fun C hC Q hq => by
          refine cgo C hC Q (fun C8 h8 q8 u1 u2 u4 => ?_)
          unfold w_X6_readWhere
          refine cW C8 0 wq (by omega) (by omega) h8 _ (fun C9 h9 r9 q9 _ => ⟨fun _ => cV C9 0 wq (by omega) (by omega) h9 _ _ (fun C' h' r' q' => hq C8 C' h' u1 u2 u4 (fun j i j0 j4 i0 i1 => by rw [r' j i j0 j4 (by omega), r9 j i j0 j4 (by omega)]; exact q8 j i j0 j4 i0 i1) (fun j j0 j4 => by rw [r' j e0 j0 j4 (by omega), r9 j e0 j0 j4 (by omega)]) (fun j i j0 j4 i0 i1 => by rw [r' j i j0 j4 i1]; exact q9 j i j0 j4 i0 i1) q'), fun z => absurd z (by decide)⟩)
        have rw_ : ∀ R, SR C0 R0 E b 0 0 0 0 0 nr_ R → ∀ K : Int → Int → Int → MM → Prop, (∀ R', SR C0 R0 E b k3 n3 0 1 0 nr_ R' → (∀ j i, 66 ≤ j → j ≤ 70 → b ≤ i → i < b + n1 → R' j i = N1 j i) → (∀ j i, 66 ≤ j → j ≤ 70 → b + n1 ≤ i → i < b + n2 → R' j i = N2 j i) → (∀ j i, 66 ≤ j → j ≤ 70 → b + n2 ≤ i → i < b + n3 → R' j i = N3 j i) → w_X12_endText (fun _ M2 => K xs x3 x4 M2) R') → rqR K R := fun R hR K hq => by
          refine rgo R hR K (fun R1 h1 q1 => rW R1 h1 _ (fun R2 h2 r2 q2 => rV R2 h2 _ (fun R' h' r' q' => hq R' h' (fun j i j0 j1 i0 i1 => by rw [r' j i j0 j1 (by omega), r2 j i j0 j1 (by omega)]; exact q1 j i j0 j1 i0 i1) (fun j i j0 j1 i0 i1 => by rw [r' j i j0 j1 i1]; exact q2 j i j0 j1 i0 i1) q')))
        by_cases w0 : C0 4 k3 = 0
        · obtain ⟨P, hP⟩ : ∃ P : CD, P = fun j i => if i < e0 then P1 j i else if i = e0 then (if j = 1 then 36 else if j = 3 then e3 + 1 else 0) else if i < e2 then P2 j i else P3 j i := ⟨_, rfl⟩
          obtain ⟨N, hN⟩ : ∃ N : MM, N = fun j i => if i < b + n1 then N1 j i else if i < b + n2 then N2 j i else N3 j i := ⟨_, rfl⟩
          have a1 : ∀ j i, i < e0 → P j i = P1 j i := fun j i h => by rw [hP]; simp only []; rw [if_pos h]
          have a0 : ∀ j, P j e0 = if j = 1 then 36 else if j = 3 then e3 + 1 else 0 := fun j => by rw [hP]; show (if e0 < e0 then P1 j e0 else if e0 = e0 then (if j = 1 then 36 else if j = 3 then e3 + 1 else 0) else if e0 < e2 then P2 j e0 else P3 j e0) = _; rw [if_neg (by omega), if_pos rfl]
          have a2 : ∀ j i, e0 + 1 ≤ i → i < e2 → P j i = P2 j i := fun j i h h' => by rw [hP]; simp only []; rw [if_neg (by omega), if_neg (by omega), if_pos h']
          have a3 : ∀ j i, e2 ≤ i → P j i = P3 j i := fun j i h => by rw [hP]; simp only []; rw [if_neg (by omega), if_neg (by omega), if_neg (by omega)]
          have m1 : ∀ j i, i < b + n1 → N j i = N1 j i := fun j i h => by rw [hN]; simp only []; rw [if_pos h]
          have m2 : ∀ j i, b + n1 ≤ i → i < b + n2 → N j i = N2 j i := fun j i h h' => by rw [hN]; simp only []; rw [if_neg (by omega), if_pos h']
          have m3 : ∀ j i, b + n2 ≤ i → N j i = N3 j i := fun j i h => by rw [hN]; simp only []; rw [if_neg (by omega), if_neg (by omega)]
          refine Or.inl ⟨n1, n2, n3, e0, e2, e3, xs, x3, x4, P, N, nlt, nn2, nn3, n3L, ss, by omega, ss3, by omega, ?_, ⟨by rw [a0]; rfl, by rw [a0]; rfl, by rw [a0]; rfl⟩, ?_, ?_, by rw [a3 3 e3 ss3]; exact p3, fun C hC Q hq => ?_, fun R hR K hq => ?_⟩
          · exact SemS_A _ _ _ _ _ _ _ _ _ _ _ hS _ _ _ _ _ (fun j i _ _ _ h => a1 j i h) (fun j i _ _ _ h => m1 j i h) (fun _ _ _ => rfl) (Int.le_refl _) (Int.le_refl _)
          · rcases hw with ⟨z1, z2⟩ | ⟨z1, z2, z3, z4, z5⟩
            · exact Or.inl ⟨z1, z2⟩
            · exact Or.inr ⟨by omega, by rw [a2 1 _ (by omega) (by omega)]; exact z3, by rw [a2 3 _ (by omega) (by omega)]; exact z4, Sem_A _ _ _ _ _ _ _ _ _ _ _ z5 _ _ _ _ _ (fun j i _ _ h h' => a2 j i h (by omega)) (fun j i _ _ h h' => m2 j i h h') (fun _ _ _ => rfl) (Int.le_refl _) (Int.le_refl _)⟩
          · rcases hv with ⟨z1, z2, z3⟩ | ⟨z1, z2, z3⟩
            · exact Or.inl ⟨z1, z2, by rw [a3 1 e3 ss3]; exact z3⟩
            · exact Or.inr ⟨by omega, by rw [a3 1 e3 ss3]; exact z2, Sem_A _ _ _ _ _ _ _ _ _ _ _ z3 _ _ _ _ _ (fun j i _ _ h h' => a3 j i h) (fun j i _ _ h h' => m3 j i h) (fun _ _ _ => rfl) (Int.le_refl _) (Int.le_refl _)⟩
          · refine cw C hC Q (fun C8 C' h' u1 u2 u4 g1 g2 g3 g4 => ?_)
            have c0 := h'.1.1
            unfold w_X6_readQuestion_b90
            intro v1 ev1 _
            have ev : v1 = e3 + 1 := by rw [ev1]; exact h'.2.2.1.2.2.2.2.2.2
            refine ⟨ss, by omega, fun M2 e2' v3 e3' _ => ?_⟩
            rw [ev] at e2'
            have hT2 : SC c C0 k3 n3 0 0 1 0 0 (e3 + 1) nm sf wq M2 := by rw [e2']; exact SC_tgt h' e0 (e3 + 1)
            refine ⟨fun _ => hq M2 hT2.1 hT2.2.2.2.2 hT2.2.2.1.2.2.2.2.2.2 (fun j i j0 j4 i0 i1 => ?_), fun z => absurd (by rw [e3', hT2.2.1.1]; exact w0) z⟩
            by_cases y0 : i < e0
            · rw [a1 j i y0, e2']; unfold ux_; rw [if_neg (by omega)]; exact g1 j i j0 j4 i0 y0
            · by_cases y1 : i = e0
              · subst y1
                rw [a0 j, e2']
                have jj : j = 1 ∨ j = 2 ∨ j = 3 ∨ j = 4 := by omega
                rcases jj with rfl | rfl | rfl | rfl
                · rw [ux_c _ _ _ _ (by omega), g2 1 (by omega) (by omega), u1]; rfl
                · rw [ux_c _ _ _ _ (by omega), g2 2 (by omega) (by omega), u2]; rfl
                · rw [ux_s]; rfl
                · rw [ux_c _ _ _ _ (by omega), g2 4 (by omega) (by omega), u4]; rfl
              · by_cases y2 : i < e2
                · rw [a2 j i (by omega) y2, e2']; unfold ux_; rw [if_neg (by omega)]; exact g3 j i j0 j4 (by omega) y2
                · rw [a3 j i (by omega), e2']; unfold ux_; rw [if_neg (by omega)]; exact g4 j i j0 j4 (by omega) i1
          · refine rw_ R hR K (fun R' h' g1 g2 g3 => r_endT h' (fun _ R2 e => hq R' R2 h'.1 h'.2.2.1.1 h'.2.2.1.2.2.1 (fun j i j0 j1 i0 i1 => ?_) e) (fun z => absurd w0 z))
            by_cases y0 : i < b + n1
            · rw [m1 j i y0]; exact g1 j i j0 j1 i0 y0
            · by_cases y1 : i < b + n2
              · rw [m2 j i (by omega) y1]; exact g2 j i j0 j1 (by omega) y1
              · rw [m3 j i (by omega)]; exact g3 j i j0 j1 (by omega) i1
        · refine Or.inr ⟨if C0 4 k3 = 1 then 2 else 1, C0 5 k3, flt_pos, fun C hC Q hq => ?_, fun R hR K hq => ?_⟩
          · refine cw C hC Q (fun C8 C' h' u1 u2 u4 g1 g2 g3 g4 => ?_)
            unfold w_X6_readQuestion_b90
            intro v1 ev1 _
            refine ⟨ss, by omega, fun M2 e2' v3 e3' _ => ?_⟩
            have hT2 : SC c C0 k3 n3 0 0 1 0 0 (e3 + 1) nm sf wq M2 := by rw [e2']; exact SC_tgt h' e0 v1
            exact ⟨fun z => absurd (by rw [← hT2.2.1.1, ← e3']; exact z) w0, fun _ => c_refuse hT2 (fun C2 h2 _ => ⟨fun _ => hq C2 h2, fun z => absurd rfl z⟩)⟩
          · exact rw_ R hR K (fun R' h' g1 g2 g3 => r_endT h' (fun z => absurd z w0) (fun _ R2 R3 h2 e => hq _ _ _ R2 R3 h2.1 e))
      · refine Or.inr ⟨f, pl, f0, fun C hC Q hq => ?_, fun R hR K hq => ?_⟩
        · refine cgo C hC Q (fun C8 h8 q8 u1 u2 u4 => ?_)
          unfold w_X6_readWhere
          exact cW C8 0 wq (by omega) (by omega) h8 _ (fun C9 h9 r9 q9 _ => ⟨fun _ => cN C9 0 wq (by omega) (by omega) h9 _ _ (fun C' h' => hq C' h'), fun z => absurd z (by decide)⟩)
        · exact rgo R hR K (fun R1 h1 q1 => rW R1 h1 _ (fun R2 h2 r2 q2 => rN R2 h2 _ (fun y R' h' => r_endF h' f0 (fun R3 e => hq _ _ _ R' R3 h'.1 e))))
    · refine Or.inr ⟨f, pl, f0, fun C hC Q hq => ?_, fun R hR K hq => ?_⟩
      · refine cgo C hC Q (fun C8 h8 q8 u1 u2 u4 => ?_)
        unfold w_X6_readWhere
        exact cN C8 0 wq (by omega) (by omega) h8 _ (fun C' h' _ => ⟨fun z => absurd rfl z, fun _ => hq C' h'⟩)
      · exact rgo R hR K (fun R1 h1 q1 => rN R1 h1 _ (fun y R' h' => rq_fv h' f0 (fun y2 R3 e => hq _ _ _ R' R3 h'.1 e)))
  · refine Or.inr ⟨f, pl, f0, fun C hC Q hq => ?_, fun R hR K hq => ?_⟩
    · unfold rqC w_X6_readSet
      exact cN C 0 wq (by omega) (by omega) hC (fun j i _ _ z z2 => by omega) _ (fun C' h' _ => ⟨fun z => absurd rfl z, fun _ => hq C' h'⟩)
    · unfold rqR
      refine rN R hR (fun j i _ _ z z2 => by omega) _ (fun y R1 h1 _ M10 e10 => ?_)
      have h2 := RF_95 h1 1
      rw [← e10] at h2
      exact rq_fw h2 f0 (fun y3 y4 R3 e => hq _ _ _ M10 R3 h2.1 e)
