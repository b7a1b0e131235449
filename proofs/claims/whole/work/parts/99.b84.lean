/-! or and and, read over and over -/
variable {c : Nat} {C0 R0 : MM} {E : Nat → Int} {L : Nat} {b it : Int} {SM ST : SMt} {q : Int}
set_option maxHeartbeats 1600000 in
theorem J_orL (hc : Clo SM ST) (hT : TX C0 R0 E L) (b0 : 0 ≤ b) (b1 : b ≤ 360) (q0 : 0 ≤ q) (q1 : q ≤ 10) (HA : Jt c C0 R0 E L b it SM q 1 1 13 11) : ∀ (m dp dq k t : Nat) (n fo s st : Int) (nm nr_ sf : Int → Int) (a : Int) (P : CD) (lo x : Int) (N : MM) (i : Int), 120 - n ≤ m → 14 * (10 - q) + 13 ≤ dp → 12 * (10 - q) + 2 * (120 - n) + 11 ≤ dq → k ≤ L → 0 ≤ n → n ≤ 120 → 0 ≤ s → s ≤ fo → fo ≤ q → 0 ≤ st → st ≤ 3 * n + 30 → (∀ i, 0 ≤ i → i < s → nr (nm i) (nr_ i)) → 122 - n ≤ t → 0 ≤ i → i ≤ n → 0 ≤ a → a ≤ st → b ≤ lo → lo ≤ x → x < b + n → SM P N s sf fo it x a st lo (b + n) →
    Out c C0 R0 E L b it k n q fo s st nm nr_ sf a P lo N (SE SM b n s fo st sf it a lo) (fun Q C => jit (fun _ _ => False) (wb_X6_readE_b11 c (gq_ c dp) Q) t i C) (fun Q R => jit (fun _ _ => False) (wb_X12_readE_b5 (gr_ dq) Q) t x R) := by
  intro m
  induction m using Nat.strongRecOn with
  | ind m ih =>
  intro dp dq k t n fo s st nm nr_ sf a P lo x N i hm hdp hdq hk n0 n1 s0 s1 fq st0 st1 hn ht i0 i1 a0 a1 lb lx xh hS
  obtain ⟨t, rfl⟩ : ∃ t', t = t' + 1 := ⟨t - 1, by omega⟩
  have ex : ∀ (f pl : Int), 0 < f → ∀ (Q : Int → MM → Prop), (∀ x R', RF R0 b q s f pl R' → Q x R') → 1 ≤ t → ∀ y R1, RF R0 b q s f pl R1 → jit (fun _ _ => False) (wb_X12_readE_b5 (gr_ dq) Q) t y R1 := fun f pl f0 Q hq t1 y R1 hR1 => by
    obtain ⟨t, rfl⟩ : ∃ t', t = t' + 1 := ⟨t - 1, by omega⟩
    show wb_X12_readE_b5 (gr_ dq) Q (jit (fun _ _ => False) (wb_X12_readE_b5 (gr_ dq) Q) t) y R1
    rw [wb_X12_readE_b5]
    intro v1 e1 _
    exact ⟨fun _ => hq y R1 hR1, fun z => by have := hR1.2.1; omega⟩
  by_cases hw : C0 4 k = 37
  · by_cases n120 : n = 120
    · refine Or.inr ⟨4, C0 5 k, by omega, fun C w wq w0 w1 hC hP Q hq => ?_, fun R hR hN Q hq => ?_⟩
      · show wb_X6_readE_b11 c (gq_ c dp) Q (jit (fun _ _ => False) (wb_X6_readE_b11 c (gq_ c dp) Q) t) i C
        rw [wb_X6_readE_b11]
        exact ⟨fun z => by omega, fun _ v2 e2 _ => ⟨fun z => absurd (by rw [e2, hC.2.1.1]; exact hw) z, fun _ => c_addN hC n0 n1 (fun z => by omega) (fun _ C' hC' _ => ⟨fun z => absurd rfl z, fun _ => hq C' hC'⟩)⟩⟩
      · have hx := ex 4 (C0 5 k) (by omega) Q hq (by omega)
        show wb_X12_readE_b5 (gr_ dq) Q (jit (fun _ _ => False) (wb_X12_readE_b5 (gr_ dq) Q) t) x R
        rw [wb_X12_readE_b5]
        refine fun v1 e1 _ => ⟨fun z => absurd (by rw [e1]; exact hR.2.2.1.1) z, fun _ => r_isK hR.2.1.2.2 (SR_K hT hR) (x := 7) (by omega) (by omega) (fun _ _ => ⟨fun z => absurd z (by decide), fun _ => r_node hR b0 b1 n0 n1 (fun z => by omega) (fun _ R1 h1 h78 r1 _ => r_adv hT h1.1 h78 (TX_lt hT hk (by omega)) (fun R2 hA _ => ⟨b0, by omega, fun M10 e10 => ?_⟩))⟩) (fun z => absurd (by omega) z) (by decide)⟩
        have hR2 := RF_u (RF_A h1 hA) (k := 67) (by omega) (by omega) (i := b) x (by omega) (by omega)
        rw [← e10] at hR2
        refine z1 (by omega) hR2.2.1 (by omega) hR2.2.2.2.1 (fun _ => ⟨b0, by omega, fun M13 e13 => hx _ _ ?_⟩)
        rw [e13]
        exact RF_u hR2 (by omega) (by omega) _ (by omega) (by omega)
    · have W2 : 2 ≤ C0 4 k := by omega
      rcases HA dp dq (k + 1) (n + 1) fo s (st + 1) nm nr_ sf hdp (by omega) (TX_lt hT hk (by omega)) (by omega) (by omega) s0 s1 fq (by omega) (by omega) hn with ⟨k2, n2, st2, x2, P2, N2, kk, k2L, nn, n2L, ss, ⟨nlt, sb, x20, x21, hS2⟩, cO, rO⟩ | ⟨f, pl, f0, cN, rN⟩
      · obtain ⟨P', hP'⟩ : ∃ P' : CD, P' = fun j i => if i < st then P j i else if i = st then (if j = 1 then 34 else if j = 3 then st2 + 1 else 0) else if i < st2 then P2 j i else (if j = 1 then 35 else 0) := ⟨_, rfl⟩
        obtain ⟨N', hN'⟩ : ∃ N' : MM, N' = fun j i => if i < b + n then N j i else if i = b + n then (if j = 66 then 6 else if j = 67 then x else if j = 68 then x2 else if j = 69 then -1 else wdR C0 R0 k) else N2 j i := ⟨_, rfl⟩
        have pl : ∀ j i, i < st → P' j i = P j i := fun j i h => by rw [hP']; show (if i < st then _ else _) = _; rw [if_pos h]
        have pm : ∀ j, P' j st = (if j = 1 then 34 else if j = 3 then st2 + 1 else 0) := fun j => by rw [hP']; show (if st < st then _ else _) = _; rw [if_neg (by omega), if_pos rfl]
        have ph : ∀ j i, st + 1 ≤ i → i < st2 → P' j i = P2 j i := fun j i h h2 => by rw [hP']; show (if i < st then _ else _) = _; rw [if_neg (by omega), if_neg (by omega), if_pos h2]
        have pe : ∀ j, P' j st2 = (if j = 1 then 35 else 0) := fun j => by rw [hP']; show (if st2 < st then _ else _) = _; rw [if_neg (by omega), if_neg (by omega), if_neg (by omega)]
        have nl : ∀ j i, i < b + n → N' j i = N j i := fun j i h => by rw [hN']; show (if i < b + n then _ else _) = _; rw [if_pos h]
        have nm' : ∀ j, N' j (b + n) = (if j = 66 then 6 else if j = 67 then x else if j = 68 then x2 else if j = 69 then -1 else wdR C0 R0 k) := fun j => by rw [hN']; show (if b + n < b + n then _ else _) = _; rw [if_neg (by omega), if_pos rfl]
        have nh : ∀ j i, b + (n + 1) ≤ i → N' j i = N2 j i := fun j i h => by rw [hN']; show (if i < b + n then _ else _) = _; rw [if_neg (by omega), if_neg (by omega)]
        have hS' : SM P' N' s sf fo it (b + n) a (st2 + 1) lo (b + n2) := by
          refine hc.2.2.2.2.2.1 P' N' s sf fo it (b + n) a st st2 lo (b + n2) x lo (b + n) x2 (b + (n + 1)) (b + n2) (hc.1 _ _ _ _ _ _ _ _ _ _ _ hS _ _ _ _ _ (fun j i _ _ _ h => pl j i h) (fun j i _ _ _ h => nl j i h) (fun _ _ _ => rfl) (by omega) (by omega)) (hc.1 _ _ _ _ _ _ _ _ _ _ _ hS2 _ _ _ _ _ (fun j i _ _ h h2 => ph j i h h2) (fun j i _ _ h _ => nh j i h) (fun _ _ _ => rfl) (by omega) (by omega)) ?_ ?_ ?_ ?_ ?_ (by omega) (by omega) (by omega) (by omega) (by omega) (by omega) (by omega)
          · rw [pm, nm', if_pos rfl, if_pos rfl]; decide
          · rw [pm]; rfl
          · rw [pe]; rfl
          · rw [nm']; rfl
          · rw [nm']; rfl
        -- the rest, behind this one
        have cls : ∀ C w wq, 0 ≤ w → w ≤ n → SC c C0 k n q fo it s w st nm sf wq C → (∀ j i, 0 < j → j ≤ 4 → a ≤ i → i < st → C (c + j) i = P j i) → ∀ (Q : Int → MM → Prop) (g : Int → MM → Prop), (∀ C6, SC c C0 k2 n2 q fo it s w (st2 + 1) nm sf wq C6 → (∀ j i, 0 < j → j ≤ 4 → i < a → C6 (c + j) i = C (c + j) i) → (∀ j i, 0 < j → j ≤ 4 → a ≤ i → i < st2 + 1 → C6 (c + j) i = P' j i) → g (i + 1) C6) → wb_X6_readE_b11 c (gq_ c dp) Q g i C := fun C w wq w0 w1 hC hP Q g hg => by
          rw [wb_X6_readE_b11]
          refine ⟨fun z => by omega, fun _ v2 e2 _ => ⟨fun z => absurd (by rw [e2, hC.2.1.1]; exact hw) z, fun _ => c_addN hC n0 n1 (fun _ C1 hC1 r1 _ => ⟨fun _ => c_emit hC1 st0 (by omega) (fun C2 hC2 r2 p1 p2 p3 p4 _ => c_next hT.1 hC2 hk (by omega) (fun C3 hC3 r3 => cO C3 w wq w0 (by omega) hC3 (fun j i _ _ z z2 => by omega) _ (fun C4 hC4 r4 q4 _ => ⟨fun _ => c_emit hC4 (by omega) (by omega) (fun C5 hC5 r5 u1 u2 u3 u4 _ v16 e16 _ => ⟨st0, by omega, fun C6 e6 => ⟨by unfold ri_; omega, ?_⟩⟩), fun z => absurd z (by decide)⟩))), fun z => absurd z (by decide)⟩) (fun z => by omega)⟩⟩
          have hv : v16 = st2 + 1 := by rw [e16]; exact hC5.2.2.1.2.2.2.2.2.2
          have o6 : ∀ j i, i ≠ st → C6 (c + j) i = C5 (c + j) i := fun j i hi => by rw [e6]; unfold ux_; rw [if_neg (fun y => hi y.2)]
          have lowr : ∀ j i, 0 < j → j ≤ 4 → i < st → C6 (c + j) i = C (c + j) i := fun j i j0 j4 hi => by
            rw [o6 j i (by omega), r5 j i j0 (by omega), r4 j i j0 j4 (by omega), r3 j j0, r2 j i j0 (by omega), r1 j j0]
          have mid : ∀ j, 0 < j → j ≤ 4 → C5 (c + j) st = C2 (c + j) st := fun j j0 j4 => by
            rw [r5 j st j0 (by omega), r4 j st j0 j4 (by omega), r3 j j0]
          refine hg C6 (by rw [e6]; exact SC_tgt hC5 _ _) (fun j i j0 j4 hi => lowr j i j0 j4 (by omega)) (fun j i j0 j4 ha hi => ?_)
          by_cases y1 : i < st
          · rw [lowr j i j0 j4 y1, pl j i y1]; exact hP j i j0 j4 ha y1
          · by_cases y2 : i = st
            · subst y2
              rw [pm]
              by_cases j3 : j = 3
              · subst j3
                rw [e6, ux_s, hv]; rfl
              · have : C6 (c + j) i = C2 (c + j) i := by rw [e6, ux_c _ _ _ _ (by omega), mid j j0 j4]
                rw [this, if_neg j3]
                have jj : j = 1 ∨ j = 2 ∨ j = 4 := by omega
                rcases jj with rfl | rfl | rfl
                · rw [p1]; rfl
                · rw [p2]; rfl
                · rw [p4]; rfl
            · rw [o6 j i y2]
              by_cases y3 : i = st2
              · subst y3
                rw [pe]
                have jj : j = 1 ∨ j = 2 ∨ j = 3 ∨ j = 4 := by omega
                rcases jj with rfl | rfl | rfl | rfl
                · rw [u1]; rfl
                · rw [u2]; rfl
                · rw [u3]; rfl
                · rw [u4]; rfl
              · rw [r5 j i j0 y3, ph j i (by omega) (by omega)]
                exact q4 j i j0 j4 (by omega) (by omega)
        have ref : ∀ R, SR C0 R0 E b k n q it s nr_ R → (∀ j i, 66 ≤ j → j ≤ 70 → lo ≤ i → i < b + n → R j i = N j i) → ∀ (Q : Int → MM → Prop) (g : Int → MM → Prop), (∀ R6, SR C0 R0 E b k2 n2 q it s nr_ R6 → (∀ j i, 66 ≤ j → j ≤ 70 → i < lo → R6 j i = R j i) → (∀ j i, 66 ≤ j → j ≤ 70 → lo ≤ i → i < b + n2 → R6 j i = N' j i) → g (b + n) R6) → wb_X12_readE_b5 (gr_ dq) Q g x R := fun R hR hN Q g hg => by
          rw [wb_X12_readE_b5]
          refine fun v1 e1 _ => ⟨fun z => absurd (by rw [e1]; exact hR.2.2.1.1) z, fun _ => r_isK hR.2.1.2.2 (SR_K hT hR) (x := 7) (by omega) (by omega) (fun _ _ => ⟨fun z => absurd z (by decide), fun _ => r_node hR b0 b1 n0 n1 (fun _ R1 h1 r1 r71 g66 g67 g68 g69 g70 g0 _ => r_next hT h1 hk (by omega) (fun R2 h2 r2 => ⟨by omega, by omega, fun M10 e10 => ?_⟩)) (fun z => by omega)⟩) (fun z => absurd (by omega) z) (by decide)⟩
          have h10 := SR_u h2 (j := 67) (by omega) (by omega) (i := b + n) x (by omega) (by omega)
          rw [← e10] at h10
          refine rO M10 h10 (fun j i _ _ z z2 => by omega) _ (fun R3 h3 r3 q3 _ => ⟨by omega, by omega, fun M13 e13 => ?_⟩)
          have lowr : ∀ j i, 66 ≤ j → j ≤ 70 → i < b + n → M13 j i = R j i := fun j i j0 j4 hi => by
            have a1 : M13 j i = R3 j i := by rw [e13]; unfold ux_; rw [if_neg (by omega)]
            have a2 : M10 j i = R2 j i := by rw [e10]; unfold ux_; rw [if_neg (by omega)]
            rw [a1, r3 j i j0 j4 (by omega), a2, r2 j (by omega), r1 j (by omega) i (by omega)]
          refine hg M13 (by rw [e13]; exact SR_u h3 (by omega) (by omega) _ (by omega) (by omega)) (fun j i j0 j4 hi => lowr j i j0 j4 (by omega)) (fun j i j0 j4 ha hi => ?_)
          by_cases y1 : i < b + n
          · rw [lowr j i j0 j4 y1, nl j i y1]; exact hN j i j0 j4 ha y1
          · by_cases y2 : i = b + n
            · subst y2
              rw [nm']
              by_cases j68 : j = 68
              · subst j68
                rw [e13, ux_s]; rfl
              · have a1 : M13 j (b + n) = M10 j (b + n) := by rw [e13, ux_c _ _ _ _ j68, r3 j (b + n) j0 j4 (by omega)]
                rw [a1]
                by_cases j67 : j = 67
                · subst j67
                  rw [e10, ux_s]; rfl
                · have a2 : M10 j (b + n) = R1 j (b + n) := by rw [e10, ux_c _ _ _ _ j67, r2 j (by omega)]
                  rw [a2, if_neg j67, if_neg j68]
                  have jj : j = 66 ∨ j = 69 ∨ j = 70 := by omega
                  rcases jj with rfl | rfl | rfl
                  · rw [g66]; rfl
                  · rw [g69]; rfl
                  · rw [g70, SR_wd hR W2]; rfl
            · have a1 : M13 j i = R3 j i := by rw [e13]; unfold ux_; rw [if_neg (by omega)]
              rw [a1, nh j i (by omega)]
              exact q3 j i j0 j4 (by omega) (by omega)
        rcases ih (m - 1) (by omega) dp dq k2 t n2 fo s (st2 + 1) nm nr_ sf a P' lo (b + n) N' (i + 1) (by omega) hdp (by omega) k2L (by omega) n2L s0 s1 fq (by omega) (by omega) hn (by omega) (by omega) (by omega) a0 (by omega) lb (by omega) (by omega) hS' with ⟨k3, n3, st3, x3, P3, N3, kk3, k3L, nn3, n3L, ss3, ⟨sb3, x30, x31, hS3⟩, cO3, rO3⟩ | ⟨f, pl, f0, cN, rN⟩
        · refine Or.inl ⟨k3, n3, st3, x3, P3, N3, by omega, k3L, by omega, n3L, by omega, ⟨by omega, x30, x31, hS3⟩, fun C w wq w0 w1 hC hP Q hq => ?_, fun R hR hN Q hq => ?_⟩
          · exact cls C w wq w0 w1 hC hP Q _ (fun C6 h6 r6 q6 => cO3 C6 w wq w0 (by omega) h6 q6 Q (fun C' h1 h2 h3 => hq C' h1 (fun j i j0 j4 hi => by rw [h2 j i j0 j4 hi, r6 j i j0 j4 hi]) h3))
          · exact ref R hR hN Q _ (fun R6 h6 r6 q6 => rO3 R6 h6 q6 Q (fun R' h1 h2 h3 => hq R' h1 (fun j i j0 j4 hi => by rw [h2 j i j0 j4 hi, r6 j i j0 j4 hi]) h3))
        · refine Or.inr ⟨f, pl, f0, fun C w wq w0 w1 hC hP Q hq => ?_, fun R hR hN Q hq => ?_⟩
          · exact cls C w wq w0 w1 hC hP Q _ (fun C6 h6 _ q6 => cN C6 w wq w0 (by omega) h6 q6 Q hq)
          · exact ref R hR hN Q _ (fun R6 h6 _ q6 => rN R6 h6 q6 Q hq)
      · refine Or.inr ⟨f, pl, f0, fun C w wq w0 w1 hC hP Q hq => ?_, fun R hR hN Q hq => ?_⟩
        · show wb_X6_readE_b11 c (gq_ c dp) Q (jit (fun _ _ => False) (wb_X6_readE_b11 c (gq_ c dp) Q) t) i C
          rw [wb_X6_readE_b11]
          exact ⟨fun z => by omega, fun _ v2 e2 _ => ⟨fun z => absurd (by rw [e2, hC.2.1.1]; exact hw) z, fun _ => c_addN hC n0 n1 (fun _ C1 hC1 r1 _ => ⟨fun _ => c_emit hC1 st0 (by omega) (fun C2 hC2 r2 p1 p2 p3 p4 _ => c_next hT.1 hC2 hk (by omega) (fun C3 hC3 r3 => cN C3 w wq w0 (by omega) hC3 (fun j i _ _ z z2 => by omega) _ (fun C4 hC4 _ => ⟨fun z => absurd rfl z, fun _ => hq C4 hC4⟩))), fun z => absurd z (by decide)⟩) (fun z => by omega)⟩⟩
        · have hx := ex f pl f0 Q hq (by omega)
          show wb_X12_readE_b5 (gr_ dq) Q (jit (fun _ _ => False) (wb_X12_readE_b5 (gr_ dq) Q) t) x R
          rw [wb_X12_readE_b5]
          refine fun v1 e1 _ => ⟨fun z => absurd (by rw [e1]; exact hR.2.2.1.1) z, fun _ => r_isK hR.2.1.2.2 (SR_K hT hR) (x := 7) (by omega) (by omega) (fun _ _ => ⟨fun z => absurd z (by decide), fun _ => r_node hR b0 b1 n0 n1 (fun _ R1 h1 r1 r71 g66 g67 g68 g69 g70 g0 _ => r_next hT h1 hk (by omega) (fun R2 h2 r2 => ⟨by omega, by omega, fun M10 e10 => ?_⟩)) (fun z => by omega)⟩) (fun z => absurd (by omega) z) (by decide)⟩
          have h10 := SR_u h2 (j := 67) (by omega) (by omega) (i := b + n) x (by omega) (by omega)
          rw [← e10] at h10
          refine rN M10 h10 (fun j i _ _ z z2 => by omega) _ (fun x9 R3 h3 _ => ⟨by omega, by omega, fun M13 e13 => hx _ _ ?_⟩)
          rw [e13]
          exact RF_u h3 (by omega) (by omega) _ (by omega) (by omega)
  · refine Or.inl ⟨k, n, st, x, P, N, Nat.le_refl _, hk, Int.le_refl _, n1, Int.le_refl _, ⟨by omega, lx, xh, hS⟩, fun C w wq w0 w1 hC hP Q hq => ?_, fun R hR hN Q hq => ?_⟩
    · show wb_X6_readE_b11 c (gq_ c dp) Q (jit (fun _ _ => False) (wb_X6_readE_b11 c (gq_ c dp) Q) t) i C
      rw [wb_X6_readE_b11]
      exact ⟨fun z => by omega, fun _ v2 e2 _ => ⟨fun _ => hq C hC (fun _ _ _ _ _ => rfl) hP, fun z => absurd (by rw [← hC.2.1.1, ← e2]; exact z) hw⟩⟩
    · show wb_X12_readE_b5 (gr_ dq) Q (jit (fun _ _ => False) (wb_X12_readE_b5 (gr_ dq) Q) t) x R
      rw [wb_X12_readE_b5]
      exact fun v1 e1 _ => ⟨fun z => absurd (by rw [e1]; exact hR.2.2.1.1) z, fun _ => r_isK hR.2.1.2.2 (SR_K hT hR) (x := 7) (by omega) (by omega) (fun z => absurd (by omega) hw) (fun _ _ => ⟨fun _ => hq R hR (fun _ _ _ _ _ => rfl) hN, fun z => absurd rfl z⟩) (by decide)⟩
set_option maxHeartbeats 1600000 in
theorem J_andL (hc : Clo SM ST) (hT : TX C0 R0 E L) (b0 : 0 ≤ b) (b1 : b ≤ 360) (q0 : 0 ≤ q) (q1 : q ≤ 10) (HA : Jt c C0 R0 E L b it SM q 2 2 12 10) : ∀ (m dp dq k t : Nat) (n fo s st : Int) (nm nr_ sf : Int → Int) (a : Int) (P : CD) (lo x : Int) (N : MM) (i : Int), 120 - n ≤ m → 14 * (10 - q) + 12 ≤ dp → 12 * (10 - q) + 2 * (120 - n) + 10 ≤ dq → k ≤ L → 0 ≤ n → n ≤ 120 → 0 ≤ s → s ≤ fo → fo ≤ q → 0 ≤ st → st ≤ 3 * n + 30 → (∀ i, 0 ≤ i → i < s → nr (nm i) (nr_ i)) → 122 - n ≤ t → 0 ≤ i → i ≤ n → 0 ≤ a → a ≤ st → b ≤ lo → lo ≤ x → x < b + n → SM P N s sf fo it x a st lo (b + n) →
    Out c C0 R0 E L b it k n q fo s st nm nr_ sf a P lo N (SE SM b n s fo st sf it a lo) (fun Q C => jit (fun _ _ => False) (wb_X6_readAnds_b11 c (gq_ c dp) Q) t i C) (fun Q R => jit (fun _ _ => False) (wb_X12_readAnd_b5 (gr_ dq) Q) t x R) := by
  intro m
  induction m using Nat.strongRecOn with
  | ind m ih =>
  intro dp dq k t n fo s st nm nr_ sf a P lo x N i hm hdp hdq hk n0 n1 s0 s1 fq st0 st1 hn ht i0 i1 a0 a1 lb lx xh hS
  obtain ⟨t, rfl⟩ : ∃ t', t = t' + 1 := ⟨t - 1, by omega⟩
  have ex : ∀ (f pl : Int), 0 < f → ∀ (Q : Int → MM → Prop), (∀ x R', RF R0 b q s f pl R' → Q x R') → 1 ≤ t → ∀ y R1, RF R0 b q s f pl R1 → jit (fun _ _ => False) (wb_X12_readAnd_b5 (gr_ dq) Q) t y R1 := fun f pl f0 Q hq t1 y R1 hR1 => by
    obtain ⟨t, rfl⟩ : ∃ t', t = t' + 1 := ⟨t - 1, by omega⟩
    show wb_X12_readAnd_b5 (gr_ dq) Q (jit (fun _ _ => False) (wb_X12_readAnd_b5 (gr_ dq) Q) t) y R1
    rw [wb_X12_readAnd_b5]
    intro v1 e1 _
    exact ⟨fun _ => hq y R1 hR1, fun z => by have := hR1.2.1; omega⟩
  by_cases hw : C0 4 k = 36
  · by_cases n120 : n = 120
    · refine Or.inr ⟨4, C0 5 k, by omega, fun C w wq w0 w1 hC hP Q hq => ?_, fun R hR hN Q hq => ?_⟩
      · show wb_X6_readAnds_b11 c (gq_ c dp) Q (jit (fun _ _ => False) (wb_X6_readAnds_b11 c (gq_ c dp) Q) t) i C
        rw [wb_X6_readAnds_b11]
        exact ⟨fun z => by omega, fun _ v2 e2 _ => ⟨fun z => absurd (by rw [e2, hC.2.1.1]; exact hw) z, fun _ => c_addN hC n0 n1 (fun z => by omega) (fun _ C' hC' _ => ⟨fun z => absurd rfl z, fun _ => hq C' hC'⟩)⟩⟩
      · have hx := ex 4 (C0 5 k) (by omega) Q hq (by omega)
        show wb_X12_readAnd_b5 (gr_ dq) Q (jit (fun _ _ => False) (wb_X12_readAnd_b5 (gr_ dq) Q) t) x R
        rw [wb_X12_readAnd_b5]
        refine fun v1 e1 _ => ⟨fun z => absurd (by rw [e1]; exact hR.2.2.1.1) z, fun _ => r_isK hR.2.1.2.2 (SR_K hT hR) (x := 6) (by omega) (by omega) (fun _ _ => ⟨fun z => absurd z (by decide), fun _ => r_node hR b0 b1 n0 n1 (fun z => by omega) (fun _ R1 h1 h78 r1 _ => r_adv hT h1.1 h78 (TX_lt hT hk (by omega)) (fun R2 hA _ => ⟨b0, by omega, fun M10 e10 => ?_⟩))⟩) (fun z => absurd (by omega) z) (by decide)⟩
        have hR2 := RF_u (RF_A h1 hA) (k := 67) (by omega) (by omega) (i := b) x (by omega) (by omega)
        rw [← e10] at hR2
        refine z2 (by omega) hR2.2.1 (by omega) hR2.2.2.2.1 (fun _ => ⟨b0, by omega, fun M13 e13 => hx _ _ ?_⟩)
        rw [e13]
        exact RF_u hR2 (by omega) (by omega) _ (by omega) (by omega)
    · have W2 : 2 ≤ C0 4 k := by omega
      rcases HA dp dq (k + 1) (n + 1) fo s (st + 1) nm nr_ sf hdp (by omega) (TX_lt hT hk (by omega)) (by omega) (by omega) s0 s1 fq (by omega) (by omega) hn with ⟨k2, n2, st2, x2, P2, N2, kk, k2L, nn, n2L, ss, ⟨nlt, sb, x20, x21, hS2⟩, cO, rO⟩ | ⟨f, pl, f0, cN, rN⟩
      · obtain ⟨P', hP'⟩ : ∃ P' : CD, P' = fun j i => if i < st then P j i else if i = st then (if j = 1 then 33 else if j = 3 then st2 + 1 else 0) else if i < st2 then P2 j i else (if j = 1 then 35 else 0) := ⟨_, rfl⟩
        obtain ⟨N', hN'⟩ : ∃ N' : MM, N' = fun j i => if i < b + n then N j i else if i = b + n then (if j = 66 then 5 else if j = 67 then x else if j = 68 then x2 else if j = 69 then -1 else wdR C0 R0 k) else N2 j i := ⟨_, rfl⟩
        have pl : ∀ j i, i < st → P' j i = P j i := fun j i h => by rw [hP']; show (if i < st then _ else _) = _; rw [if_pos h]
        have pm : ∀ j, P' j st = (if j = 1 then 33 else if j = 3 then st2 + 1 else 0) := fun j => by rw [hP']; show (if st < st then _ else _) = _; rw [if_neg (by omega), if_pos rfl]
        have ph : ∀ j i, st + 1 ≤ i → i < st2 → P' j i = P2 j i := fun j i h h2 => by rw [hP']; show (if i < st then _ else _) = _; rw [if_neg (by omega), if_neg (by omega), if_pos h2]
        have pe : ∀ j, P' j st2 = (if j = 1 then 35 else 0) := fun j => by rw [hP']; show (if st2 < st then _ else _) = _; rw [if_neg (by omega), if_neg (by omega), if_neg (by omega)]
        have nl : ∀ j i, i < b + n → N' j i = N j i := fun j i h => by rw [hN']; show (if i < b + n then _ else _) = _; rw [if_pos h]
        have nm' : ∀ j, N' j (b + n) = (if j = 66 then 5 else if j = 67 then x else if j = 68 then x2 else if j = 69 then -1 else wdR C0 R0 k) := fun j => by rw [hN']; show (if b + n < b + n then _ else _) = _; rw [if_neg (by omega), if_pos rfl]
        have nh : ∀ j i, b + (n + 1) ≤ i → N' j i = N2 j i := fun j i h => by rw [hN']; show (if i < b + n then _ else _) = _; rw [if_neg (by omega), if_neg (by omega)]
        have hS' : SM P' N' s sf fo it (b + n) a (st2 + 1) lo (b + n2) := by
          refine hc.2.2.2.2.2.1 P' N' s sf fo it (b + n) a st st2 lo (b + n2) x lo (b + n) x2 (b + (n + 1)) (b + n2) (hc.1 _ _ _ _ _ _ _ _ _ _ _ hS _ _ _ _ _ (fun j i _ _ _ h => pl j i h) (fun j i _ _ _ h => nl j i h) (fun _ _ _ => rfl) (by omega) (by omega)) (hc.1 _ _ _ _ _ _ _ _ _ _ _ hS2 _ _ _ _ _ (fun j i _ _ h h2 => ph j i h h2) (fun j i _ _ h _ => nh j i h) (fun _ _ _ => rfl) (by omega) (by omega)) ?_ ?_ ?_ ?_ ?_ (by omega) (by omega) (by omega) (by omega) (by omega) (by omega) (by omega)
          · rw [pm, nm', if_pos rfl, if_pos rfl]; decide
          · rw [pm]; rfl
          · rw [pe]; rfl
          · rw [nm']; rfl
          · rw [nm']; rfl
        -- the rest, behind this one
        have cls : ∀ C w wq, 0 ≤ w → w ≤ n → SC c C0 k n q fo it s w st nm sf wq C → (∀ j i, 0 < j → j ≤ 4 → a ≤ i → i < st → C (c + j) i = P j i) → ∀ (Q : Int → MM → Prop) (g : Int → MM → Prop), (∀ C6, SC c C0 k2 n2 q fo it s w (st2 + 1) nm sf wq C6 → (∀ j i, 0 < j → j ≤ 4 → i < a → C6 (c + j) i = C (c + j) i) → (∀ j i, 0 < j → j ≤ 4 → a ≤ i → i < st2 + 1 → C6 (c + j) i = P' j i) → g (i + 1) C6) → wb_X6_readAnds_b11 c (gq_ c dp) Q g i C := fun C w wq w0 w1 hC hP Q g hg => by
          rw [wb_X6_readAnds_b11]
          refine ⟨fun z => by omega, fun _ v2 e2 _ => ⟨fun z => absurd (by rw [e2, hC.2.1.1]; exact hw) z, fun _ => c_addN hC n0 n1 (fun _ C1 hC1 r1 _ => ⟨fun _ => c_emit hC1 st0 (by omega) (fun C2 hC2 r2 p1 p2 p3 p4 _ => c_next hT.1 hC2 hk (by omega) (fun C3 hC3 r3 => cO C3 w wq w0 (by omega) hC3 (fun j i _ _ z z2 => by omega) _ (fun C4 hC4 r4 q4 _ => ⟨fun _ => c_emit hC4 (by omega) (by omega) (fun C5 hC5 r5 u1 u2 u3 u4 _ v16 e16 _ => ⟨st0, by omega, fun C6 e6 => ⟨by unfold ri_; omega, ?_⟩⟩), fun z => absurd z (by decide)⟩))), fun z => absurd z (by decide)⟩) (fun z => by omega)⟩⟩
          have hv : v16 = st2 + 1 := by rw [e16]; exact hC5.2.2.1.2.2.2.2.2.2
          have o6 : ∀ j i, i ≠ st → C6 (c + j) i = C5 (c + j) i := fun j i hi => by rw [e6]; unfold ux_; rw [if_neg (fun y => hi y.2)]
          have lowr : ∀ j i, 0 < j → j ≤ 4 → i < st → C6 (c + j) i = C (c + j) i := fun j i j0 j4 hi => by
            rw [o6 j i (by omega), r5 j i j0 (by omega), r4 j i j0 j4 (by omega), r3 j j0, r2 j i j0 (by omega), r1 j j0]
          have mid : ∀ j, 0 < j → j ≤ 4 → C5 (c + j) st = C2 (c + j) st := fun j j0 j4 => by
            rw [r5 j st j0 (by omega), r4 j st j0 j4 (by omega), r3 j j0]
          refine hg C6 (by rw [e6]; exact SC_tgt hC5 _ _) (fun j i j0 j4 hi => lowr j i j0 j4 (by omega)) (fun j i j0 j4 ha hi => ?_)
          by_cases y1 : i < st
          · rw [lowr j i j0 j4 y1, pl j i y1]; exact hP j i j0 j4 ha y1
          · by_cases y2 : i = st
            · subst y2
              rw [pm]
              by_cases j3 : j = 3
              · subst j3
                rw [e6, ux_s, hv]; rfl
              · have : C6 (c + j) i = C2 (c + j) i := by rw [e6, ux_c _ _ _ _ (by omega), mid j j0 j4]
                rw [this, if_neg j3]
                have jj : j = 1 ∨ j = 2 ∨ j = 4 := by omega
                rcases jj with rfl | rfl | rfl
                · rw [p1]; rfl
                · rw [p2]; rfl
                · rw [p4]; rfl
            · rw [o6 j i y2]
              by_cases y3 : i = st2
              · subst y3
                rw [pe]
                have jj : j = 1 ∨ j = 2 ∨ j = 3 ∨ j = 4 := by omega
                rcases jj with rfl | rfl | rfl | rfl
                · rw [u1]; rfl
                · rw [u2]; rfl
                · rw [u3]; rfl
                · rw [u4]; rfl
              · rw [r5 j i j0 y3, ph j i (by omega) (by omega)]
                exact q4 j i j0 j4 (by omega) (by omega)
        have ref : ∀ R, SR C0 R0 E b k n q it s nr_ R → (∀ j i, 66 ≤ j → j ≤ 70 → lo ≤ i → i < b + n → R j i = N j i) → ∀ (Q : Int → MM → Prop) (g : Int → MM → Prop), (∀ R6, SR C0 R0 E b k2 n2 q it s nr_ R6 → (∀ j i, 66 ≤ j → j ≤ 70 → i < lo → R6 j i = R j i) → (∀ j i, 66 ≤ j → j ≤ 70 → lo ≤ i → i < b + n2 → R6 j i = N' j i) → g (b + n) R6) → wb_X12_readAnd_b5 (gr_ dq) Q g x R := fun R hR hN Q g hg => by
          rw [wb_X12_readAnd_b5]
          refine fun v1 e1 _ => ⟨fun z => absurd (by rw [e1]; exact hR.2.2.1.1) z, fun _ => r_isK hR.2.1.2.2 (SR_K hT hR) (x := 6) (by omega) (by omega) (fun _ _ => ⟨fun z => absurd z (by decide), fun _ => r_node hR b0 b1 n0 n1 (fun _ R1 h1 r1 r71 g66 g67 g68 g69 g70 g0 _ => r_next hT h1 hk (by omega) (fun R2 h2 r2 => ⟨by omega, by omega, fun M10 e10 => ?_⟩)) (fun z => by omega)⟩) (fun z => absurd (by omega) z) (by decide)⟩
          have h10 := SR_u h2 (j := 67) (by omega) (by omega) (i := b + n) x (by omega) (by omega)
          rw [← e10] at h10
          refine rO M10 h10 (fun j i _ _ z z2 => by omega) _ (fun R3 h3 r3 q3 _ => ⟨by omega, by omega, fun M13 e13 => ?_⟩)
          have lowr : ∀ j i, 66 ≤ j → j ≤ 70 → i < b + n → M13 j i = R j i := fun j i j0 j4 hi => by
            have a1 : M13 j i = R3 j i := by rw [e13]; unfold ux_; rw [if_neg (by omega)]
            have a2 : M10 j i = R2 j i := by rw [e10]; unfold ux_; rw [if_neg (by omega)]
            rw [a1, r3 j i j0 j4 (by omega), a2, r2 j (by omega), r1 j (by omega) i (by omega)]
          refine hg M13 (by rw [e13]; exact SR_u h3 (by omega) (by omega) _ (by omega) (by omega)) (fun j i j0 j4 hi => lowr j i j0 j4 (by omega)) (fun j i j0 j4 ha hi => ?_)
          by_cases y1 : i < b + n
          · rw [lowr j i j0 j4 y1, nl j i y1]; exact hN j i j0 j4 ha y1
          · by_cases y2 : i = b + n
            · subst y2
              rw [nm']
              by_cases j68 : j = 68
              · subst j68
                rw [e13, ux_s]; rfl
              · have a1 : M13 j (b + n) = M10 j (b + n) := by rw [e13, ux_c _ _ _ _ j68, r3 j (b + n) j0 j4 (by omega)]
                rw [a1]
                by_cases j67 : j = 67
                · subst j67
                  rw [e10, ux_s]; rfl
                · have a2 : M10 j (b + n) = R1 j (b + n) := by rw [e10, ux_c _ _ _ _ j67, r2 j (by omega)]
                  rw [a2, if_neg j67, if_neg j68]
                  have jj : j = 66 ∨ j = 69 ∨ j = 70 := by omega
                  rcases jj with rfl | rfl | rfl
                  · rw [g66]; rfl
                  · rw [g69]; rfl
                  · rw [g70, SR_wd hR W2]; rfl
            · have a1 : M13 j i = R3 j i := by rw [e13]; unfold ux_; rw [if_neg (by omega)]
              rw [a1, nh j i (by omega)]
              exact q3 j i j0 j4 (by omega) (by omega)
        rcases ih (m - 1) (by omega) dp dq k2 t n2 fo s (st2 + 1) nm nr_ sf a P' lo (b + n) N' (i + 1) (by omega) hdp (by omega) k2L (by omega) n2L s0 s1 fq (by omega) (by omega) hn (by omega) (by omega) (by omega) a0 (by omega) lb (by omega) (by omega) hS' with ⟨k3, n3, st3, x3, P3, N3, kk3, k3L, nn3, n3L, ss3, ⟨sb3, x30, x31, hS3⟩, cO3, rO3⟩ | ⟨f, pl, f0, cN, rN⟩
        · refine Or.inl ⟨k3, n3, st3, x3, P3, N3, by omega, k3L, by omega, n3L, by omega, ⟨by omega, x30, x31, hS3⟩, fun C w wq w0 w1 hC hP Q hq => ?_, fun R hR hN Q hq => ?_⟩
          · exact cls C w wq w0 w1 hC hP Q _ (fun C6 h6 r6 q6 => cO3 C6 w wq w0 (by omega) h6 q6 Q (fun C' h1 h2 h3 => hq C' h1 (fun j i j0 j4 hi => by rw [h2 j i j0 j4 hi, r6 j i j0 j4 hi]) h3))
          · exact ref R hR hN Q _ (fun R6 h6 r6 q6 => rO3 R6 h6 q6 Q (fun R' h1 h2 h3 => hq R' h1 (fun j i j0 j4 hi => by rw [h2 j i j0 j4 hi, r6 j i j0 j4 hi]) h3))
        · refine Or.inr ⟨f, pl, f0, fun C w wq w0 w1 hC hP Q hq => ?_, fun R hR hN Q hq => ?_⟩
          · exact cls C w wq w0 w1 hC hP Q _ (fun C6 h6 _ q6 => cN C6 w wq w0 (by omega) h6 q6 Q hq)
          · exact ref R hR hN Q _ (fun R6 h6 _ q6 => rN R6 h6 q6 Q hq)
      · refine Or.inr ⟨f, pl, f0, fun C w wq w0 w1 hC hP Q hq => ?_, fun R hR hN Q hq => ?_⟩
        · show wb_X6_readAnds_b11 c (gq_ c dp) Q (jit (fun _ _ => False) (wb_X6_readAnds_b11 c (gq_ c dp) Q) t) i C
          rw [wb_X6_readAnds_b11]
          exact ⟨fun z => by omega, fun _ v2 e2 _ => ⟨fun z => absurd (by rw [e2, hC.2.1.1]; exact hw) z, fun _ => c_addN hC n0 n1 (fun _ C1 hC1 r1 _ => ⟨fun _ => c_emit hC1 st0 (by omega) (fun C2 hC2 r2 p1 p2 p3 p4 _ => c_next hT.1 hC2 hk (by omega) (fun C3 hC3 r3 => cN C3 w wq w0 (by omega) hC3 (fun j i _ _ z z2 => by omega) _ (fun C4 hC4 _ => ⟨fun z => absurd rfl z, fun _ => hq C4 hC4⟩))), fun z => absurd z (by decide)⟩) (fun z => by omega)⟩⟩
        · have hx := ex f pl f0 Q hq (by omega)
          show wb_X12_readAnd_b5 (gr_ dq) Q (jit (fun _ _ => False) (wb_X12_readAnd_b5 (gr_ dq) Q) t) x R
          rw [wb_X12_readAnd_b5]
          refine fun v1 e1 _ => ⟨fun z => absurd (by rw [e1]; exact hR.2.2.1.1) z, fun _ => r_isK hR.2.1.2.2 (SR_K hT hR) (x := 6) (by omega) (by omega) (fun _ _ => ⟨fun z => absurd z (by decide), fun _ => r_node hR b0 b1 n0 n1 (fun _ R1 h1 r1 r71 g66 g67 g68 g69 g70 g0 _ => r_next hT h1 hk (by omega) (fun R2 h2 r2 => ⟨by omega, by omega, fun M10 e10 => ?_⟩)) (fun z => by omega)⟩) (fun z => absurd (by omega) z) (by decide)⟩
          have h10 := SR_u h2 (j := 67) (by omega) (by omega) (i := b + n) x (by omega) (by omega)
          rw [← e10] at h10
          refine rN M10 h10 (fun j i _ _ z z2 => by omega) _ (fun x9 R3 h3 _ => ⟨by omega, by omega, fun M13 e13 => hx _ _ ?_⟩)
          rw [e13]
          exact RF_u h3 (by omega) (by omega) _ (by omega) (by omega)
  · refine Or.inl ⟨k, n, st, x, P, N, Nat.le_refl _, hk, Int.le_refl _, n1, Int.le_refl _, ⟨by omega, lx, xh, hS⟩, fun C w wq w0 w1 hC hP Q hq => ?_, fun R hR hN Q hq => ?_⟩
    · show wb_X6_readAnds_b11 c (gq_ c dp) Q (jit (fun _ _ => False) (wb_X6_readAnds_b11 c (gq_ c dp) Q) t) i C
      rw [wb_X6_readAnds_b11]
      exact ⟨fun z => by omega, fun _ v2 e2 _ => ⟨fun _ => hq C hC (fun _ _ _ _ _ => rfl) hP, fun z => absurd (by rw [← hC.2.1.1, ← e2]; exact z) hw⟩⟩
    · show wb_X12_readAnd_b5 (gr_ dq) Q (jit (fun _ _ => False) (wb_X12_readAnd_b5 (gr_ dq) Q) t) x R
      rw [wb_X12_readAnd_b5]
      exact fun v1 e1 _ => ⟨fun z => absurd (by rw [e1]; exact hR.2.2.1.1) z, fun _ => r_isK hR.2.1.2.2 (SR_K hT hR) (x := 6) (by omega) (by omega) (fun z => absurd (by omega) hw) (fun _ _ => ⟨fun _ => hq R hR (fun _ _ _ _ _ => rfl) hN, fun z => absurd rfl z⟩) (by decide)⟩
