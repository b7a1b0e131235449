/-! sums and products, read over and over -/
def ariC (gi : Nat) (c : Nat) (G : Nat → (Int → MM → Prop) → List Int → MM → Prop) (Q K : Int → MM → Prop) (x1 s0 : Int) (M : MM) : Prop := w_X6_addNode c (fun r1 M2 => (r1 = 0 ∨ r1 = 1) → (¬ r1 = 0 → w_X9_nextWord (fun _ M5 => G gi (fun r6 M7 => (r6 = 0 ∨ r6 = 1) → (¬ r6 = 0 → w_X6_emit c (fun r9 M10 => ri_ r9 → ri_ (x1 + 1) ∧ (K (x1 + 1) M10)) s0 0 0 0 M7) ∧ (r6 = 0 → Q 0 M7)) [] M5) M2) ∧ (r1 = 0 → Q 0 M2)) M
def ariR (gi : Nat) (G : Nat → (Int → MM → Prop) → List Int → MM → Prop) (K : Int → MM → Prop) (x1 s0 : Int) (M : MM) : Prop := w_X12_node (fun r1 M2 => ri_ r1 → w_X12_advance (fun _ M4 => 0 ≤ r1 ∧ r1 < 480 ∧ (∀ M5, M5 = ux_ M4 67 r1 x1 → G gi (fun r6 M7 => ri_ r6 → 0 ≤ r1 ∧ r1 < 480 ∧ (∀ M8, M8 = ux_ M7 68 r1 r6 → K r1 M8)) [] M5)) M2) s0 M
variable {c : Nat} {C0 R0 : MM} {E : Nat → Int} {L : Nat} {b it : Int} {SM ST : SMt} {q : Int}
set_option maxHeartbeats 1600000 in
theorem J_ari (gi gr : Nat) (ec er : Int) (op : Int → Prop) (dp dq : Nat) (wc wr : (Int → MM → Prop) → (Int → MM → Prop) → Int → MM → Prop)
    (hop : ∀ W, op W → 15 ≤ W ∧ W ≤ 19)
    (HC1 : ∀ Q g i C, i ≤ 120 → op (C 1 9) → ariC gi c (gq_ c dp) Q g i (C 1 9 + 7) C → wc Q g i C)
    (HC0 : ∀ (Q g : Int → MM → Prop) i C, ¬ op (C 1 9) → Q 1 C → wc Q g i C)
    (HR1 : ∀ Q g x R W D, R 0 83 = 0 → tk R W D → op W → ariR gr (gr_ dq) g x (W + 93) R → wr Q g x R)
    (HR0 : ∀ (Q g : Int → MM → Prop) x R W D, R 0 83 = 0 → tk R W D → ¬ op W → Q x R → wr Q g x R)
    (HRF : ∀ (Q g : Int → MM → Prop) x R, 0 < R 0 83 → Q x R → wr Q g x R)
    (zz : ∀ (Q : Int → MM → Prop) R f, R 0 83 = f → 0 < f → R 0 91 = b → Q b R → gr_ dq gr Q [] R)
    (hc : Clo SM ST) (hT : TX C0 R0 E L) (b0 : 0 ≤ b) (b1 : b ≤ 360) (q0 : 0 ≤ q) (q1 : q ≤ 10) (HA : Jt c C0 R0 E L b it SM q gi gr ec er) : ∀ (m k t : Nat) (n fo s st : Int) (nm nr_ sf : Int → Int) (a : Int) (P : CD) (lo x : Int) (N : MM) (i : Int), 120 - n ≤ m → 14 * (10 - q) + ec ≤ dp → 12 * (10 - q) + 2 * (120 - n) + er ≤ dq → k ≤ L → 0 ≤ n → n ≤ 120 → 0 ≤ s → s ≤ fo → fo ≤ q → 0 ≤ st → st ≤ 3 * n + 30 → (∀ i, 0 ≤ i → i < s → nr (nm i) (nr_ i)) → 122 - n ≤ t → 0 ≤ i → i ≤ n → 0 ≤ a → a ≤ st → b ≤ lo → lo ≤ x → x < b + n → SM P N s sf fo it x a st lo (b + n) →
    Out c C0 R0 E L b it k n q fo s st nm nr_ sf a P lo N (SE SM b n s fo st sf it a lo) (fun Q C => jit (fun _ _ => False) (wc Q) t i C) (fun Q R => jit (fun _ _ => False) (wr Q) t x R) := by
  intro m
  induction m using Nat.strongRecOn with
  | ind m ih =>
  intro k t n fo s st nm nr_ sf a P lo x N i hm hdp hdq hk n0 n1 s0 s1 fq st0 st1 hn ht i0 i1 a0 a1 lb lx xh hS
  obtain ⟨t, rfl⟩ : ∃ t', t = t' + 1 := ⟨t - 1, by omega⟩
  have ex : ∀ (f pl : Int), 0 < f → ∀ (Q : Int → MM → Prop), (∀ x R', RF R0 b q s f pl R' → Q x R') → 1 ≤ t → ∀ y R1, RF R0 b q s f pl R1 → jit (fun _ _ => False) (wr Q) t y R1 := fun f pl f0 Q hq t1 y R1 hR1 => by
    obtain ⟨t, rfl⟩ : ∃ t', t = t' + 1 := ⟨t - 1, by omega⟩
    exact HRF Q _ y R1 (by rw [hR1.2.1]; exact f0) (hq y R1 hR1)
  by_cases hw : op (C0 4 k)
  · have hW := hop _ hw
    by_cases n120 : n = 120
    · refine Or.inr ⟨4, C0 5 k, by omega, fun C w wq w0 w1 hC hP Q hq => ?_, fun R hR hN Q hq => ?_⟩
      · refine HC1 Q _ i C (by omega) (by rw [hC.2.1.1]; exact hw) ?_
        unfold ariC
        exact c_addN hC n0 n1 (fun z => by omega) (fun _ C' hC' _ => ⟨fun z => absurd rfl z, fun _ => hq C' hC'⟩)
      · have hx := ex 4 (C0 5 k) (by omega) Q hq (by omega)
        refine HR1 Q _ x R _ _ hR.2.2.1.1 hR.2.1.2.2 hw ?_
        unfold ariR
        refine r_node hR b0 b1 n0 n1 (fun z => by omega) (fun _ R1 h1 h78 r1 _ => r_adv hT h1.1 h78 (TX_lt hT hk (by omega)) (fun R2 hA _ => ⟨b0, by omega, fun M10 e10 => ?_⟩))
        have hR2 := RF_u (RF_A h1 hA) (k := 67) (by omega) (by omega) (i := b) x (by omega) (by omega)
        rw [← e10] at hR2
        refine zz _ _ _ hR2.2.1 (by omega) hR2.2.2.2.1 (fun _ => ⟨b0, by omega, fun M13 e13 => hx _ _ ?_⟩)
        rw [e13]
        exact RF_u hR2 (by omega) (by omega) _ (by omega) (by omega)
    · rcases HA dp dq (k + 1) (n + 1) fo s st nm nr_ sf hdp (by omega) (TX_lt hT hk (by omega)) (by omega) (by omega) s0 s1 fq (by omega) (by omega) hn with ⟨k2, n2, st2, x2, P2, N2, kk, k2L, nn, n2L, ss, ⟨nlt, sb, x20, x21, hS2⟩, cO, rO⟩ | ⟨f, pl, f0, cN, rN⟩
      · obtain ⟨P', hP'⟩ : ∃ P' : CD, P' = fun j i => if i < st then P j i else if i < st2 then P2 j i else (if j = 1 then C0 4 k + 7 else 0) := ⟨_, rfl⟩
        obtain ⟨N', hN'⟩ : ∃ N' : MM, N' = fun j i => if i < b + n then N j i else if i = b + n then (if j = 66 then C0 4 k + 93 else if j = 67 then x else if j = 68 then x2 else if j = 69 then -1 else wdR C0 R0 k) else N2 j i := ⟨_, rfl⟩
        have pl : ∀ j i, i < st → P' j i = P j i := fun j i h => by rw [hP']; show (if i < st then _ else _) = _; rw [if_pos h]
        have ph : ∀ j i, st ≤ i → i < st2 → P' j i = P2 j i := fun j i h h2 => by rw [hP']; show (if i < st then _ else _) = _; rw [if_neg (by omega), if_pos h2]
        have pe : ∀ j, P' j st2 = (if j = 1 then C0 4 k + 7 else 0) := fun j => by rw [hP']; show (if st2 < st then _ else _) = _; rw [if_neg (by omega), if_neg (by omega)]
        have nl : ∀ j i, i < b + n → N' j i = N j i := fun j i h => by rw [hN']; show (if i < b + n then _ else _) = _; rw [if_pos h]
        have nm' : ∀ j, N' j (b + n) = (if j = 66 then C0 4 k + 93 else if j = 67 then x else if j = 68 then x2 else if j = 69 then -1 else wdR C0 R0 k) := fun j => by rw [hN']; show (if b + n < b + n then _ else _) = _; rw [if_neg (by omega), if_pos rfl]
        have nh : ∀ j i, b + (n + 1) ≤ i → N' j i = N2 j i := fun j i h => by rw [hN']; show (if i < b + n then _ else _) = _; rw [if_neg (by omega), if_neg (by omega)]
        have hS' : SM P' N' s sf fo it (b + n) a (st2 + 1) lo (b + n2) := by
          refine hc.2.2.2.2.1 P' N' s sf fo it (b + n) a st st2 lo (b + n2) x lo (b + n) x2 (b + (n + 1)) (b + n2) (hc.1 _ _ _ _ _ _ _ _ _ _ _ hS _ _ _ _ _ (fun j i _ _ _ h => pl j i h) (fun j i _ _ _ h => nl j i h) (fun _ _ _ => rfl) (by omega) (by omega)) (hc.1 _ _ _ _ _ _ _ _ _ _ _ hS2 _ _ _ _ _ (fun j i _ _ h h2 => ph j i h h2) (fun j i _ _ h _ => nh j i h) (fun _ _ _ => rfl) (by omega) (by omega)) ?_ ?_ ?_ (by omega) (by omega) (by omega) (by omega) (by omega) (by omega) (by omega)
          · unfold twoK
            rw [pe, nm', if_pos rfl, if_pos rfl]
            exact Or.inr ⟨by omega, by omega, by omega⟩
          · rw [nm']; rfl
          · rw [nm']; rfl
        have cls : ∀ C w wq, 0 ≤ w → w ≤ n → SC c C0 k n q fo it s w st nm sf wq C → (∀ j i, 0 < j → j ≤ 4 → a ≤ i → i < st → C (c + j) i = P j i) → ∀ (Q : Int → MM → Prop) (g : Int → MM → Prop), (∀ C6, SC c C0 k2 n2 q fo it s w (st2 + 1) nm sf wq C6 → (∀ j i, 0 < j → j ≤ 4 → i < a → C6 (c + j) i = C (c + j) i) → (∀ j i, 0 < j → j ≤ 4 → a ≤ i → i < st2 + 1 → C6 (c + j) i = P' j i) → g (i + 1) C6) → wc Q g i C := fun C w wq w0 w1 hC hP Q g hg => by
          refine HC1 Q _ i C (by omega) (by rw [hC.2.1.1]; exact hw) ?_
          unfold ariC
          rw [hC.2.1.1]
          refine c_addN hC n0 n1 (fun _ C1 hC1 r1 _ => ⟨fun _ => c_next hT.1 hC1 hk (by omega) (fun C3 hC3 r3 => cO C3 w wq w0 (by omega) hC3 (fun j i _ _ z z2 => by omega) _ (fun C4 hC4 r4 q4 _ => ⟨fun _ => c_emit hC4 (by omega) (by omega) (fun C6 hC5 r5 u1 u2 u3 u4 _ => ⟨by unfold ri_; omega, ?_⟩), fun z => absurd z (by decide)⟩)), fun z => absurd z (by decide)⟩) (fun z => by omega)
          have lowr : ∀ j i, 0 < j → j ≤ 4 → i < st → C6 (c + j) i = C (c + j) i := fun j i j0 j4 hi => by
            rw [r5 j i j0 (by omega), r4 j i j0 j4 (by omega), r3 j j0, r1 j j0]
          refine hg C6 hC5 (fun j i j0 j4 hi => lowr j i j0 j4 (by omega)) (fun j i j0 j4 ha hi => ?_)
          by_cases y1 : i < st
          · rw [lowr j i j0 j4 y1, pl j i y1]; exact hP j i j0 j4 ha y1
          · by_cases y3 : i = st2
            · subst y3
              rw [pe]
              have jj : j = 1 ∨ j = 2 ∨ j = 3 ∨ j = 4 := by omega
              rcases jj with rfl | rfl | rfl | rfl
              · rw [u1]; rfl
              · rw [u2]; rfl
              · rw [u3]; rfl
              · rw [u4]; rfl
            · rw [r5 j i j0 y3, ph j i (by omega) (by omega)]
              exact q4 j i j0 j4 (by omega) (by omega)
        have ref : ∀ R, SR C0 R0 E b k n q it s nr_ R → (∀ j i, 66 ≤ j → j ≤ 70 → lo ≤ i → i < b + n → R j i = N j i) → ∀ (Q : Int → MM → Prop) (g : Int → MM → Prop), (∀ R6, SR C0 R0 E b k2 n2 q it s nr_ R6 → (∀ j i, 66 ≤ j → j ≤ 70 → i < lo → R6 j i = R j i) → (∀ j i, 66 ≤ j → j ≤ 70 → lo ≤ i → i < b + n2 → R6 j i = N' j i) → g (b + n) R6) → wr Q g x R := fun R hR hN Q g hg => by
          refine HR1 Q _ x R _ _ hR.2.2.1.1 hR.2.1.2.2 hw ?_
          unfold ariR
          refine r_node hR b0 b1 n0 n1 (fun _ R1 h1 r1 r71 g66 g67 g68 g69 g70 g0 _ => r_next hT h1 hk (by omega) (fun R2 h2 r2 => ⟨by omega, by omega, fun M10 e10 => ?_⟩)) (fun z => by omega)
          have h10 := SR_u h2 (j := 67) (by omega) (by omega) (i := b + n) x (by omega) (by omega)
          rw [← e10] at h10
          refine rO M10 h10 (fun j i _ _ z z2 => by omega) _ (fun R3 h3 r3 q3 _ => ⟨by omega, by omega, fun M13 e13 => ?_⟩)
          have lowr : ∀ j i, 66 ≤ j → j ≤ 70 → i < b + n → M13 j i = R j i := fun j i j0 j4 hi => by
            have a1 : M13 j i = R3 j i := by rw [e13]; unfold ux_; rw [if_neg (by omega)]
            have a2 : M10 j i = R2 j i := by rw [e10]; unfold ux_; rw [if_neg (by omega)]
            rw [a1, r3 j i j0 j4 (by omega), a2, r2 j (by omega), r1 j (by omega) i (by omega)]
          refine hg M13 (by rw [e13]; exact SR_u h3 (by omega) (by omega) _ (by omega) (by omega)) (fun j i j0 j4 hi => lowr j i j0 j4 (by omega)) (fun j i j0 j4 ha hi => ?_)
          by_cases y1 : i < b + n
          · rw [lowr j i j0 j4 y1, nl j i y1]; exact hN j i j0 j4 ha y1
          · by_cases y2 : i = b + n
            · subst y2
              rw [nm']
              by_cases j68 : j = 68
              · subst j68
                rw [e13, ux_s]; rfl
              · have a1 : M13 j (b + n) = M10 j (b + n) := by rw [e13, ux_c _ _ _ _ j68, r3 j (b + n) j0 j4 (by omega)]
                rw [a1]
                by_cases j67 : j = 67
                · subst j67
                  rw [e10, ux_s]; rfl
                · have a2 : M10 j (b + n) = R1 j (b + n) := by rw [e10, ux_c _ _ _ _ j67, r2 j (by omega)]
                  rw [a2, if_neg j67, if_neg j68]
                  have jj : j = 66 ∨ j = 69 ∨ j = 70 := by omega
                  rcases jj with rfl | rfl | rfl
                  · rw [g66]; rfl
                  · rw [g69]; rfl
                  · rw [g70, SR_wd hR (by omega)]; rfl
            · have a1 : M13 j i = R3 j i := by rw [e13]; unfold ux_; rw [if_neg (by omega)]
              rw [a1, nh j i (by omega)]
              exact q3 j i j0 j4 (by omega) (by omega)
        rcases ih (m - 1) (by omega) k2 t n2 fo s (st2 + 1) nm nr_ sf a P' lo (b + n) N' (i + 1) (by omega) hdp (by omega) k2L (by omega) n2L s0 s1 fq (by omega) (by omega) hn (by omega) (by omega) (by omega) a0 (by omega) lb (by omega) (by omega) hS' with ⟨k3, n3, st3, x3, P3, N3, kk3, k3L, nn3, n3L, ss3, ⟨sb3, x30, x31, hS3⟩, cO3, rO3⟩ | ⟨f, pl, f0, cN, rN⟩
        · refine Or.inl ⟨k3, n3, st3, x3, P3, N3, by omega, k3L, by omega, n3L, by omega, ⟨by omega, x30, x31, hS3⟩, fun C w wq w0 w1 hC hP Q hq => ?_, fun R hR hN Q hq => ?_⟩
          · exact cls C w wq w0 w1 hC hP Q _ (fun C6 h6 r6 q6 => cO3 C6 w wq w0 (by omega) h6 q6 Q (fun C' h1 h2 h3 => hq C' h1 (fun j i j0 j4 hi => by rw [h2 j i j0 j4 hi, r6 j i j0 j4 hi]) h3))
          · exact ref R hR hN Q _ (fun R6 h6 r6 q6 => rO3 R6 h6 q6 Q (fun R' h1 h2 h3 => hq R' h1 (fun j i j0 j4 hi => by rw [h2 j i j0 j4 hi, r6 j i j0 j4 hi]) h3))
        · refine Or.inr ⟨f, pl, f0, fun C w wq w0 w1 hC hP Q hq => ?_, fun R hR hN Q hq => ?_⟩
          · exact cls C w wq w0 w1 hC hP Q _ (fun C6 h6 _ q6 => cN C6 w wq w0 (by omega) h6 q6 Q hq)
          · exact ref R hR hN Q _ (fun R6 h6 _ q6 => rN R6 h6 q6 Q hq)
      · refine Or.inr ⟨f, pl, f0, fun C w wq w0 w1 hC hP Q hq => ?_, fun R hR hN Q hq => ?_⟩
        · refine HC1 Q _ i C (by omega) (by rw [hC.2.1.1]; exact hw) ?_
          unfold ariC
          exact c_addN hC n0 n1 (fun _ C1 hC1 r1 _ => ⟨fun _ => c_next hT.1 hC1 hk (by omega) (fun C3 hC3 r3 => cN C3 w wq w0 (by omega) hC3 (fun j i _ _ z z2 => by omega) _ (fun C4 hC4 _ => ⟨fun z => absurd rfl z, fun _ => hq C4 hC4⟩)), fun z => absurd z (by decide)⟩) (fun z => by omega)
        · have hx := ex f pl f0 Q hq (by omega)
          refine HR1 Q _ x R _ _ hR.2.2.1.1 hR.2.1.2.2 hw ?_
          unfold ariR
          refine r_node hR b0 b1 n0 n1 (fun _ R1 h1 r1 r71 g66 g67 g68 g69 g70 g0 _ => r_next hT h1 hk (by omega) (fun R2 h2 r2 => ⟨by omega, by omega, fun M10 e10 => ?_⟩)) (fun z => by omega)
          have h10 := SR_u h2 (j := 67) (by omega) (by omega) (i := b + n) x (by omega) (by omega)
          rw [← e10] at h10
          refine rN M10 h10 (fun j i _ _ z z2 => by omega) _ (fun x9 R3 h3 _ => ⟨by omega, by omega, fun M13 e13 => hx _ _ ?_⟩)
          rw [e13]
          exact RF_u h3 (by omega) (by omega) _ (by omega) (by omega)
  · refine Or.inl ⟨k, n, st, x, P, N, Nat.le_refl _, hk, Int.le_refl _, n1, Int.le_refl _, ⟨by omega, lx, xh, hS⟩, fun C w wq w0 w1 hC hP Q hq => ?_, fun R hR hN Q hq => ?_⟩
    · exact HC0 Q _ i C (by rw [hC.2.1.1]; exact hw) (hq C hC (fun _ _ _ _ _ => rfl) hP)
    · exact HR0 Q _ x R _ _ hR.2.2.1.1 hR.2.1.2.2 hw (hq R hR (fun _ _ _ _ _ => rfl) hN)
/-- sums -/
theorem sumC1 {G : Nat → (Int → MM → Prop) → List Int → MM → Prop} : ∀ (Q g : Int → MM → Prop) i C, i ≤ 120 → (C 1 9 = 15 ∨ C 1 9 = 16) → ariC 5 c G Q g i (C 1 9 + 7) C → wb_X6_readSums_b11 c G Q g i C := fun Q g i C hi hw h => by
  unfold wb_X6_readSums_b11 w_X6_readSums_b41
  unfold ariC at h
  refine ⟨fun z => by omega, fun _ v2 e2 _ => ⟨fun z v1 e1 _ => ⟨fun y => absurd (by omega) y, fun _ => ?_⟩, fun z v4 e4 _ => ⟨fun y => by omega, fun _ v1 e1 _ => ⟨fun _ => ?_, fun y => by omega⟩⟩⟩⟩
  · unfold w_X6_readSums_b60
    rw [← e2, z] at h
    exact h
  · unfold w_X6_readSums_b60
    rw [show C 1 9 = 16 from by omega] at h
    exact h
theorem sumC0 {G : Nat → (Int → MM → Prop) → List Int → MM → Prop} : ∀ (Q g : Int → MM → Prop) i C, ¬ (C 1 9 = 15 ∨ C 1 9 = 16) → Q 1 C → wb_X6_readSums_b11 c G Q g i C := fun Q g i C hw h => by
  unfold wb_X6_readSums_b11
  exact ⟨fun _ => h, fun _ v2 e2 _ => ⟨fun z => absurd (Or.inl (by omega)) hw, fun z v4 e4 _ => ⟨fun _ => h, fun y => absurd (Or.inr (by omega)) hw⟩⟩⟩
theorem sumR1 {G : Nat → (Int → MM → Prop) → List Int → MM → Prop} : ∀ (Q g : Int → MM → Prop) x R W D, R 0 83 = 0 → tk R W D → (W = 15 ∨ W = 16) → ariR 5 G g x (W + 93) R → wb_X12_readSum_b5 G Q g x R := fun Q g x R W D h83 ht hw h => by
  unfold wb_X12_readSum_b5 w_X12_readSum_b32 w_X12_readSum_b50
  unfold ariR at h
  refine fun v1 e1 _ => ⟨fun z => absurd (by omega) z, fun _ => ?_⟩
  rcases hw with rfl | rfl
  · exact r_isS ht (x := 11) (by omega) (fun _ _ => ⟨fun _ => r_isS ht (x := 11) (by omega) (fun _ _ => ⟨fun y => absurd y (by decide), fun _ => h⟩) (fun y => absurd (by omega) y) (by decide), fun y => absurd y (by decide)⟩) (fun y => absurd (by omega) y) (by decide)
  · exact r_isS ht (x := 11) (by omega) (fun y => by omega) (fun _ _ => ⟨fun y => absurd rfl y, fun _ => r_isS ht (x := 12) (by omega) (fun _ _ => ⟨fun y => absurd y (by decide), fun _ => r_isS ht (x := 11) (by omega) (fun y => by omega) (fun _ _ => ⟨fun _ => h, fun y => absurd rfl y⟩) (by decide)⟩) (fun y => absurd (by omega) y) (by decide)⟩) (by decide)
theorem sumR0 {G : Nat → (Int → MM → Prop) → List Int → MM → Prop} : ∀ (Q g : Int → MM → Prop) x R W D, R 0 83 = 0 → tk R W D → ¬ (W = 15 ∨ W = 16) → Q x R → wb_X12_readSum_b5 G Q g x R := fun Q g x R W D h83 ht hw h => by
  unfold wb_X12_readSum_b5
  exact fun v1 e1 _ => ⟨fun z => absurd (by omega) z, fun _ => r_isS ht (x := 11) (by omega) (fun y => by omega) (fun _ _ => ⟨fun y => absurd rfl y, fun _ => r_isS ht (x := 12) (by omega) (fun y => by omega) (fun _ _ => ⟨fun _ => h, fun y => absurd rfl y⟩) (by decide)⟩) (by decide)⟩
theorem sumRF {G : Nat → (Int → MM → Prop) → List Int → MM → Prop} : ∀ (Q g : Int → MM → Prop) x R, 0 < R 0 83 → Q x R → wb_X12_readSum_b5 G Q g x R := fun Q g x R h83 h => by
  unfold wb_X12_readSum_b5
  exact fun v1 e1 _ => ⟨fun _ => h, fun z => by omega⟩
/-- products -/
theorem proC1 {G : Nat → (Int → MM → Prop) → List Int → MM → Prop} : ∀ (Q g : Int → MM → Prop) i C, i ≤ 120 → (17 ≤ C 1 9 ∧ C 1 9 ≤ 19) → ariC 6 c G Q g i (C 1 9 + 7) C → wb_X6_readProducts_b11 c G Q g i C := fun Q g i C hi hw h => by
  unfold wb_X6_readProducts_b11
  unfold ariC at h
  refine ⟨fun z => by omega, fun _ v2 e2 _ => ⟨fun z => by omega, fun _ v4 e4 _ => ⟨fun z => by omega, fun _ v6 e6 _ => ⟨by unfold ri_; omega, by unfold ri_; omega, ?_⟩⟩⟩⟩
  rw [show 24 + v6 - 17 = C 1 9 + 7 from by omega]
  exact h
theorem proC0 {G : Nat → (Int → MM → Prop) → List Int → MM → Prop} : ∀ (Q g : Int → MM → Prop) i C, ¬ (17 ≤ C 1 9 ∧ C 1 9 ≤ 19) → Q 1 C → wb_X6_readProducts_b11 c G Q g i C := fun Q g i C hw h => by
  unfold wb_X6_readProducts_b11
  exact ⟨fun _ => h, fun _ v2 e2 _ => ⟨fun _ => h, fun _ v4 e4 _ => ⟨fun _ => h, fun y => absurd ⟨by omega, by omega⟩ hw⟩⟩⟩
theorem proR1 {G : Nat → (Int → MM → Prop) → List Int → MM → Prop} : ∀ (Q g : Int → MM → Prop) x R W D, R 0 83 = 0 → tk R W D → (17 ≤ W ∧ W ≤ 19) → ariR 6 G g x (W + 93) R → wb_X12_readProduct_b5 G Q g x R := fun Q g x R W D h83 ht hw h => by
  unfold wb_X12_readProduct_b5
  have b42 : w_X12_readProduct_b42 G Q g x R := by
    unfold w_X12_readProduct_b42 w_X12_readProduct_b75
    unfold ariR at h
    have hw' : W = 17 ∨ W = 18 ∨ W = 19 := by omega
    rcases hw' with rfl | rfl | rfl
    · exact r_isS ht (x := 13) (by omega) (fun _ _ => ⟨fun y => absurd y (by decide), fun _ => h⟩) (fun y => absurd (by omega) y) (by decide)
    · exact r_isS ht (x := 13) (by omega) (fun y => by omega) (fun _ _ => ⟨fun _ => r_isS ht (x := 14) (by omega) (fun _ _ => ⟨fun y => absurd y (by decide), fun _ => h⟩) (fun y => absurd (by omega) y) (by decide), fun y => absurd rfl y⟩) (by decide)
    · exact r_isS ht (x := 13) (by omega) (fun y => by omega) (fun _ _ => ⟨fun _ => r_isS ht (x := 14) (by omega) (fun y => by omega) (fun _ _ => ⟨fun _ => h, fun y => absurd rfl y⟩) (by decide), fun y => absurd rfl y⟩) (by decide)
  exact fun v1 e1 _ => ⟨fun z => absurd (by omega) z, fun _ => r_isS ht (x := 13) (by omega) (fun _ _ => ⟨fun _ => b42, fun y => absurd y (by decide)⟩) (fun y1 _ => ⟨fun y => absurd rfl y, fun _ => r_isS ht (x := 14) (by omega) (fun _ _ => ⟨fun _ => b42, fun y => absurd y (by decide)⟩) (fun y2 _ => ⟨fun y => absurd rfl y, fun _ => r_isS ht (x := 15) (by omega) (fun _ _ => ⟨fun y => absurd y (by decide), fun _ => b42⟩) (fun y3 => by omega) (by decide)⟩) (by decide)⟩) (by decide)⟩
theorem proR0 {G : Nat → (Int → MM → Prop) → List Int → MM → Prop} : ∀ (Q g : Int → MM → Prop) x R W D, R 0 83 = 0 → tk R W D → ¬ (17 ≤ W ∧ W ≤ 19) → Q x R → wb_X12_readProduct_b5 G Q g x R := fun Q g x R W D h83 ht hw h => by
  unfold wb_X12_readProduct_b5
  exact fun v1 e1 _ => ⟨fun z => absurd (by omega) z, fun _ => r_isS ht (x := 13) (by omega) (fun y => by omega) (fun _ _ => ⟨fun y => absurd rfl y, fun _ => r_isS ht (x := 14) (by omega) (fun y => by omega) (fun _ _ => ⟨fun y => absurd rfl y, fun _ => r_isS ht (x := 15) (by omega) (fun y => by omega) (fun _ _ => ⟨fun _ => h, fun y => absurd rfl y⟩) (by decide)⟩) (by decide)⟩) (by decide)⟩
theorem proRF {G : Nat → (Int → MM → Prop) → List Int → MM → Prop} : ∀ (Q g : Int → MM → Prop) x R, 0 < R 0 83 → Q x R → wb_X12_readProduct_b5 G Q g x R := fun Q g x R h83 h => by
  unfold wb_X12_readProduct_b5
  exact fun v1 e1 _ => ⟨fun _ => h, fun z => by omega⟩
