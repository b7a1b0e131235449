/-! fields and elements behind a value -/
theorem r_nest {C0 R0 R : MM} {E : Nat → Int} {b : Int} {k : Nat} {n q it s : Int} {nr_ : Int → Int} (h : SR C0 R0 E b k n q it s nr_ R) (q0 : 0 ≤ q) (q1 : q ≤ 10) {Q : Int → MM → Prop} (h1 : q < 10 → ∀ R', SR C0 R0 E b k n (q + 1) it s nr_ R' → (∀ j, j ≠ 0 → R' j = R j) → Q 0 R') (h0 : q = 10 → ∀ R', RF R0 b (q + 1) s 4 (C0 5 k) R' → Q 0 R') : w_X12_nest Q R := by
  have g1 := h.2.2.1.1
  have g4 := h.2.2.1.2.2.2.1
  unfold w_X12_nest
  intro v1 e1 _
  refine ⟨fun z => by omega, fun _ v3 e3 _ => ⟨fun z => ?_, fun z v5 e5 _ => r_fail h (by rw [e5]; exact h.2.1.2.1) fun R' a c d g => ?_⟩⟩
  · unfold w_X12_nest_b25
    intro v1 e1 _
    refine ⟨by unfold ri_; omega, fun M3 e3 => h1 (by omega) M3 ?_ (fun j hj => by rw [e3]; exact ux_g _ _ _ hj)⟩
    rw [e3, e1, g4]
    exact SR_93 h _
  · unfold w_X12_nest_b25
    intro v1 e1 _
    have := a.2.2.2.2.1
    refine ⟨by unfold ri_; omega, fun M3 e3 => h0 (by omega) M3 ?_⟩
    rw [e3, e1, this]
    exact RF_93 a _
theorem r_nestF {R0 R : MM} {b q s f pl : Int} (h : RF R0 b q s f pl R) (f0 : 0 < f) (q0 : 0 ≤ q) (q1 : q ≤ 10) {Q : Int → MM → Prop} (h0 : ∀ R', RF R0 b (q + 1) s f pl R' → Q 0 R') : w_X12_nest Q R := by
  have g1 := h.2.1
  have g4 := h.2.2.2.2.1
  unfold w_X12_nest
  intro v1 e1 _
  refine ⟨fun _ => ?_, fun z => by omega⟩
  unfold w_X12_nest_b25
  intro v1 e1 _
  refine ⟨by unfold ri_; omega, fun M3 e3 => h0 M3 ?_⟩
  rw [e3, e1, g4]
  exact RF_93 h _
theorem r_need {C0 R0 R : MM} {E : Nat → Int} {L : Nat} {b : Int} {k : Nat} {n q it s : Int} {nr_ : Int → Int} (hT : TX C0 R0 E L) (h : SR C0 R0 E b k n q it s nr_ R) (hk : k ≤ L) {x : Nat} (hx : x < 16) {y : Int} (hy : y = sgb x) {Q : Int → MM → Prop} (h1 : C0 4 k = 4 + x → ∀ R', SR C0 R0 E b (k + 1) n q it s nr_ R' → (∀ j, j ≠ 0 → R' j = R j) → Q 0 R') (h0 : C0 4 k ≠ 4 + x → ∀ R', RF R0 b q s (if C0 4 k = 1 then 2 else 1) (C0 5 k) R' → Q 0 R') : w_X12_needSign Q y R := by
  unfold w_X12_needSign
  intro v1 e1 _
  refine ⟨fun _ => r_isS h.2.1.2.2 hx (fun z _ => ⟨fun y => absurd y (by decide), fun _ => r_next hT h hk (by omega) (fun R' a c => h1 z R' a c)⟩) (fun z _ => ⟨fun _ => r_wrong h (fun R' a c => h0 z R' a), fun y => absurd rfl y⟩) hy, fun z => by have := h.2.2.1.1; omega⟩
theorem r_needF {R : MM} {y : Int} (f0 : 0 < R 0 83) {Q : Int → MM → Prop} (h0 : Q 0 R) : w_X12_needSign Q y R := by
  unfold w_X12_needSign
  exact fun v1 e1 _ => ⟨fun z => by omega, fun _ => h0⟩
theorem flt_pos {W : Int} : 0 < (if W = 1 then (2 : Int) else 1) := by split <;> omega
variable {c : Nat} {C0 R0 : MM} {E : Nat → Int} {L : Nat} {b it : Int} {SM ST : SMt} {q : Int}
/-- where a fault stands, the loop over fields and elements ends -/
theorem tailF {Q : Int → MM → Prop} {G : Nat → (Int → MM → Prop) → List Int → MM → Prop} {t : Nat} (t1 : 1 ≤ t) {x : Int} {R : MM} (f0 : 0 < R 0 83) (h : Q x R) : jit (fun _ _ => False) (wb_X12_readP_b5 G Q) t x R := by
  obtain ⟨t, rfl⟩ : ∃ t', t = t' + 1 := ⟨t - 1, by omega⟩
  show wb_X12_readP_b5 G Q (jit (fun _ _ => False) (wb_X12_readP_b5 G Q) t) x R
  rw [wb_X12_readP_b5]
  exact fun v1 e1 _ => ⟨fun _ => h, fun z => by omega⟩
/-- behind the [ of an element, where a fault stands -/
theorem r_b148F {Q K : Int → MM → Prop} {G : Nat → (Int → MM → Prop) → List Int → MM → Prop} {R R0 : MM} {s f pl y v : Int} (h : RF R0 b (q + 1) s f pl R) (f0 : 0 < f) (q0 : 0 ≤ q) (q1 : q ≤ 10) (y0 : b ≤ y) (y1 : y < b + 120) (b0 : 0 ≤ b) (b1 : b ≤ 360) (hK : ∀ R', RF R0 b q s f pl R' → K y R') : w_X12_readP_b148 G Q K y v y R := by
  unfold w_X12_readP_b148 w_X12_readP_b166
  refine ⟨by omega, by omega, fun M1 e1 => ?_⟩
  have h1 := RF_u h (k := 68) (by omega) (by omega) (i := y) v (by omega) (by omega)
  rw [← e1] at h1
  refine r_needF (by rw [h1.2.1]; exact f0) (fun v4 e4 _ => ⟨by rw [h1.2.2.2.2.1] at e4; unfold ri_; omega, fun M6 e6 => hK M6 ?_⟩)
  rw [e6, e4, h1.2.2.2.2.1, Int.add_sub_cancel]
  exact RF_93 h1 _
theorem r_b75F {Q K : Int → MM → Prop} {G : Nat → (Int → MM → Prop) → List Int → MM → Prop} {R R0 : MM} {s f pl y x : Int} (h : RF R0 b (q + 1) s f pl R) (f0 : 0 < f) (q0 : 0 ≤ q) (q1 : q ≤ 10) (y0 : b ≤ y) (y1 : y < b + 120) (b0 : 0 ≤ b) (b1 : b ≤ 360) (hK : ∀ R', RF R0 b q s f pl R' → K y R') : w_X12_readP_b64 G Q K x 0 y R := by
  unfold w_X12_readP_b64 w_X12_readP_b75
  refine fun v1 e1 _ => ⟨fun _ => ⟨by omega, by omega, fun M1 e1' => ⟨fun _ v3 e3 _ => ⟨fun _ => ?_, fun z => ?_⟩, fun z => absurd rfl z⟩⟩, fun z => by have := h.2.1; omega⟩
  · have h1 := RF_u h (k := 67) (by omega) (by omega) (i := y) x (by omega) (by omega)
    rw [← e1'] at h1
    exact r_b148F h1 f0 q0 q1 y0 y1 b0 b1 hK
  · rw [e1', ux_c _ _ _ _ (by decide), h.2.1] at e3; omega
set_option maxHeartbeats 3200000 in
theorem J_tailL (hc : Clo SM ST) (hT : TX C0 R0 E L) (b0 : 0 ≤ b) (b1 : b ≤ 360) (q0 : 0 ≤ q) (q1 : q ≤ 10) (HE : q < 10 → Jt c C0 R0 E L b it SM (q + 1) 0 0 14 12) : ∀ (m dp dq k t : Nat) (n fo s st : Int) (nm nr_ sf : Int → Int) (a : Int) (P : CD) (lo x : Int) (N : MM) (i : Int), 120 - n ≤ m → 14 * (10 - q) ≤ dp → 12 * (10 - q) + 2 * (120 - n) ≤ dq → k ≤ L → 0 ≤ n → n ≤ 120 → 0 ≤ s → s ≤ fo → fo ≤ q → 0 ≤ st → st ≤ 3 * n + 30 → (∀ i, 0 ≤ i → i < s → nr (nm i) (nr_ i)) → 122 - n ≤ t → 0 ≤ i → i ≤ n → 0 ≤ a → a ≤ st → b ≤ lo → lo ≤ x → x < b + n → SM P N s sf fo it x a st lo (b + n) →
    Out c C0 R0 E L b it k n q fo s st nm nr_ sf a P lo N (fun k' n' st' x P N => C0 4 k' ≠ 11 ∧ C0 4 k' ≠ 6 ∧ SE SM b n s fo st sf it a lo k' n' st' x P N) (fun Q C => jit (fun _ _ => False) (wb_X6_readTail_b2 c (gq_ c dp) Q) t i C) (fun Q R => jit (fun _ _ => False) (wb_X12_readP_b5 (gr_ dq) Q) t x R) := by
  intro m
  induction m using Nat.strongRecOn with
  | ind m ih =>
  intro dp dq k t n fo s st nm nr_ sf a P lo x N i hm hdp hdq hk n0 n1 s0 s1 fq st0 st1 hn ht i0 i1 a0 a1 lb lx xh hS
  obtain ⟨t, rfl⟩ : ∃ t', t = t' + 1 := ⟨t - 1, by omega⟩
  -- the ways in
  have cD : ∀ (Q g : Int → MM → Prop) C, C 1 9 = 11 → w_X6_readTail_b49 c (gq_ c dp) Q g i 0 C → wb_X6_readTail_b2 c (gq_ c dp) Q g i C := fun Q g C h h2 => by
    rw [wb_X6_readTail_b2]
    unfold w_X6_readTail_b32
    exact ⟨fun z => by omega, fun _ v2 e2 _ => ⟨fun _ v1 e1 _ => ⟨fun _ => h2, fun z => by omega⟩, fun z => absurd (by omega) z⟩⟩
  have cB : ∀ (Q g : Int → MM → Prop) C, C 1 9 = 6 → w_X6_readTail_b49 c (gq_ c dp) Q g i 1 C → wb_X6_readTail_b2 c (gq_ c dp) Q g i C := fun Q g C h h2 => by
    rw [wb_X6_readTail_b2]
    unfold w_X6_readTail_b32
    exact ⟨fun z => by omega, fun _ v2 e2 _ => ⟨fun z => by omega, fun _ v4 e4 _ => ⟨fun z => absurd (by omega) z, fun _ v1 e1 _ => ⟨fun z => absurd (by omega) z, fun _ => h2⟩⟩⟩⟩
  have rD : ∀ (Q g : Int → MM → Prop) R W D, R 0 83 = 0 → tk R W D → W = 11 → w_X12_readP_b52 (gr_ dq) Q g x 1 114 R → wb_X12_readP_b5 (gr_ dq) Q g x R := fun Q g R W D h83 ht hw h => by
    rw [wb_X12_readP_b5]
    unfold w_X12_readP_b32
    exact fun v1 e1 _ => ⟨fun z => absurd (by omega) z, fun _ => r_isS ht (x := 7) (by omega) (fun _ _ => ⟨fun _ => r_isS ht (x := 7) (by omega) (fun _ _ => ⟨fun z => absurd z (by decide), fun _ => h⟩) (fun z => absurd (by omega) z) (by decide), fun z => absurd z (by decide)⟩) (fun z => absurd (by omega) z) (by decide)⟩
  have rB : ∀ (Q g : Int → MM → Prop) R W D, R 0 83 = 0 → tk R W D → W = 6 → w_X12_readP_b52 (gr_ dq) Q g x 0 115 R → wb_X12_readP_b5 (gr_ dq) Q g x R := fun Q g R W D h83 ht hw h => by
    rw [wb_X12_readP_b5]
    unfold w_X12_readP_b32
    exact fun v1 e1 _ => ⟨fun z => absurd (by omega) z, fun _ => r_isS ht (x := 7) (by omega) (fun z => by omega) (fun _ _ => ⟨fun z => absurd rfl z, fun _ => r_isS ht (x := 2) (by omega) (fun _ _ => ⟨fun z => absurd z (by decide), fun _ => r_isS ht (x := 7) (by omega) (fun z => by omega) (fun _ _ => ⟨fun _ => h, fun z => absurd rfl z⟩) (by decide)⟩) (fun z => absurd (by omega) z) (by decide)⟩) (by decide)⟩
  by_cases hw : C0 4 k = 11
  · have kL := TX_lt hT hk (show C0 4 k ≠ 0 by omega)
    by_cases n120 : n = 120
    · refine Or.inr ⟨4, C0 5 k, by omega, fun C w wq w0 w1 hC hP Q hq => ?_, fun R hR hN Q hq => ?_⟩
      · refine cD Q _ C (by rw [hC.2.1.1]; exact hw) ?_
        unfold w_X6_readTail_b49
        exact c_addN hC n0 n1 (fun z => by omega) (fun _ C' hC' _ => ⟨fun _ => hq C' hC', fun z => absurd rfl z⟩)
      · refine rD Q _ R _ _ hR.2.2.1.1 hR.2.1.2.2 hw ?_
        unfold w_X12_readP_b52
        refine r_node hR b0 b1 n0 n1 (fun z => by omega) (fun _ R1 h1 h78 r1 _ => ⟨fun _ => ?_, fun z => absurd z (by decide)⟩)
        unfold w_X12_readP_b64 w_X12_readP_b75 w_X12_readP_b104 w_X12_readP_b166
        refine fun v1 e1 _ => ⟨fun _ => ⟨b0, by omega, fun M1 e1' => ⟨fun z => absurd z (by decide), fun _ v7 e7 _ => ⟨fun _ v1 e1 _ => ⟨b0, by omega, fun M2 e2 v3 e3 _ => ?_⟩, fun z => ?_⟩⟩⟩, fun z => by have := h1.2.1; omega⟩
        · have h2 := RF_u (RF_u h1 (k := 67) (by omega) (by omega) (i := b) x (by omega) (by omega)) (k := 70) (by omega) (by omega) (i := b) v1 (by omega) (by omega)
          rw [← e1', ← e2] at h2
          exact ⟨fun _ => tailF (by omega) (by rw [h2.2.1]; omega) (hq _ _ h2), fun z => by have := h2.2.1; omega⟩
        · rw [e1', ux_c _ _ _ _ (by decide), h1.2.1] at e7; omega
    · by_cases hw3 : C0 4 ((k + 1 : Nat) : Int) = 2
      · have kL2 := TX_lt hT kL (show C0 4 ((k + 1 : Nat) : Int) ≠ 0 by omega)
        have hS' : SM (pcat P st (pone 11 0 0 (C0 6 ((k + 1 : Nat) : Int)))) (ncat N (b + n) (nnod 114 x (-1) (-1) (wdR C0 R0 (k + 1)))) s sf fo it (b + n) a (st + 1) lo (b + (n + 1)) := by
          have ny : ∀ j, ncat N (b + n) (nnod 114 x (-1) (-1) (wdR C0 R0 (k + 1))) j (b + n) = nnod 114 x (-1) (-1) (wdR C0 R0 (k + 1)) j 0 := fun j => by rw [ncat_h j (by omega)]; rfl
          refine hc.2.2.2.1 _ _ s sf fo it (b + n) a st lo (b + (n + 1)) x lo (b + n) (hc.1 _ _ _ _ _ _ _ _ _ _ _ hS _ _ _ _ _ (fun j i _ _ _ h => pcat_l j h) (fun j i _ _ _ h => ncat_l j h) (fun _ _ _ => rfl) (by omega) (by omega)) (Or.inr (Or.inl ⟨?_, ?_, ?_⟩)) ?_ (by omega) (by omega) (by omega) (by omega) (by omega)
          · rw [pcat_h 1 (by omega)]; rfl
          · rw [ny]; rfl
          · rw [ny, pcat_h 4 (by omega)]
            exact wd_nr hT.1 kL hw3
          · rw [ny]; rfl
        have cls : ∀ C w wq, 0 ≤ w → w ≤ n → SC c C0 k n q fo it s w st nm sf wq C → (∀ j i, 0 < j → j ≤ 4 → a ≤ i → i < st → C (c + j) i = P j i) → ∀ (Q g : Int → MM → Prop), (∀ C6, SC c C0 (k + 2) (n + 1) q fo it s w (st + 1) nm sf wq C6 → (∀ j i, 0 < j → j ≤ 4 → i < a → C6 (c + j) i = C (c + j) i) → (∀ j i, 0 < j → j ≤ 4 → a ≤ i → i < st + 1 → C6 (c + j) i = pcat P st (pone 11 0 0 (C0 6 ((k + 1 : Nat) : Int))) j i) → g (i + 1) C6) → wb_X6_readTail_b2 c (gq_ c dp) Q g i C := fun C w wq w0 w1 hC hP Q g hg => by
          refine cD Q _ C (by rw [hC.2.1.1]; exact hw) ?_
          unfold w_X6_readTail_b49
          refine c_addN hC n0 n1 (fun _ C1 h1 r1 _ => ⟨fun z => absurd z (by decide), fun _ => ⟨fun _ => ?_, fun z => absurd rfl z⟩⟩) (fun z => by omega)
          unfold w_X6_readTail_b70 w_X6_readTail_b145
          refine c_next hT.1 h1 hk (by omega) (fun C2 h2 r2 => ⟨fun z => absurd rfl z, fun _ v15 e15 _ => c_emit h2 st0 (by omega) (fun C3 h3 r3 u1 u2 u3 u4 _ => c_pass hT.1 h3 kL (by decide) (fun _ C4 h4 r4 _ => ⟨fun _ => ⟨by unfold ri_; omega, ?_⟩, fun z => absurd z (by decide)⟩) (fun z => absurd hw3 z))⟩)
          have lowr : ∀ j i, 0 < j → j ≤ 4 → i < st → C4 (c + j) i = C (c + j) i := fun j i j0 j4 hi => by rw [r4 j j0, r3 j i j0 (by omega), r2 j j0, r1 j j0]
          refine hg C4 h4 (fun j i j0 j4 hi => lowr j i j0 j4 (by omega)) (fun j i j0 j4 hi hi2 => ?_)
          by_cases y1 : i < st
          · rw [lowr j i j0 j4 y1, pcat_l j y1]; exact hP j i j0 j4 hi y1
          · have y3 : i = st := by omega
            subst y3
            rw [pcat_h j (by omega), r4 j j0]
            exact pone_of u1 u2 u3 (by rw [u4, e15]; exact h2.2.1.2.2.1) j0 j4 _
        have ref : ∀ R, SR C0 R0 E b k n q it s nr_ R → (∀ j i, 66 ≤ j → j ≤ 70 → lo ≤ i → i < b + n → R j i = N j i) → ∀ (Q g : Int → MM → Prop), (∀ R6, SR C0 R0 E b (k + 2) (n + 1) q it s nr_ R6 → (∀ j i, 66 ≤ j → j ≤ 70 → i < lo → R6 j i = R j i) → (∀ j i, 66 ≤ j → j ≤ 70 → lo ≤ i → i < b + (n + 1) → R6 j i = ncat N (b + n) (nnod 114 x (-1) (-1) (wdR C0 R0 (k + 1))) j i) → g (b + n) R6) → wb_X12_readP_b5 (gr_ dq) Q g x R := fun R hR hN Q g hg => by
          refine rD Q _ R _ _ hR.2.2.1.1 hR.2.1.2.2 hw ?_
          unfold w_X12_readP_b52
          refine r_node hR b0 b1 n0 n1 (fun _ R1 h1 r1 r71 g66 g67 g68 g69 g70 g0 _ => ⟨fun _ => ?_, fun z => absurd z (by decide)⟩) (fun z => by omega)
          unfold w_X12_readP_b64 w_X12_readP_b75
          refine fun v1 e1 _ => ⟨fun z => absurd (by rw [e1]; exact h1.2.2.1.1) z, fun _ => r_next hT h1 hk (by omega) (fun R2 h2 r2 => ⟨by omega, by omega, fun M1 e1' => ⟨fun z => absurd z (by decide), fun _ v7 e7 _ => ?_⟩⟩)⟩
          have h3 := SR_u h2 (j := 67) (by omega) (by omega) (i := b + n) x (by omega) (by omega)
          rw [← e1'] at h3
          refine ⟨fun z => absurd (by rw [e7]; exact h3.2.2.1.1) z, fun _ => r_isN h3.2.1.2.2 (fun _ _ => ⟨fun _ => ?_, fun z => absurd z (by decide)⟩) (fun z => absurd hw3 z)⟩
          unfold w_X12_readP_b104 w_X12_readP_b166
          refine fun v1 e1 _ => ⟨by omega, by omega, fun M2 e2 v3 e3 _ => ?_⟩
          have h4 := SR_u h3 (j := 70) (by omega) (by omega) (i := b + n) v1 (by omega) (by omega)
          rw [← e2] at h4
          refine ⟨fun z => absurd (by rw [e3]; exact h4.2.2.1.1) z, fun _ => r_next hT h4 kL (by omega) (fun R' h6 r6 => ?_)⟩
          have o3 : ∀ j i, i ≠ b + n → M2 j i = R2 j i := fun j i hi => by rw [e2, e1']; unfold ux_; rw [if_neg (fun y => hi y.2), if_neg (fun y => hi y.2)]
          have lowr : ∀ j i, 66 ≤ j → j ≤ 70 → i < b + n → R' j i = R j i := fun j i j0 j4 hi => by rw [r6 j (by omega), o3 j i (by omega), r2 j (by omega), r1 j (by omega) i (by omega)]
          refine hg R' h6 (fun j i j0 j4 hi => lowr j i j0 j4 (by omega)) (fun j i j0 j4 hi hi2 => ?_)
          by_cases y1 : i < b + n
          · rw [lowr j i j0 j4 y1, ncat_l j y1]; exact hN j i j0 j4 hi y1
          · have y3 : i = b + n := by omega
            subst y3
            rw [ncat_h j (by omega), r6 j (by omega)]
            have m67 : M2 67 (b + n) = x := by rw [e2, ux_c _ _ _ _ (by decide), e1', ux_s]
            have mo : ∀ j, 66 ≤ j → j ≤ 69 → j ≠ 67 → M2 j (b + n) = R1 j (b + n) := fun j a d e => by rw [e2, ux_c _ _ _ _ (by omega), e1', ux_c _ _ _ _ e, r2 j (by omega)]
            exact nnod_of (by rw [mo 66 (by omega) (by omega) (by omega), g66]) m67 (by rw [mo 68 (by omega) (by omega) (by omega), g68]) (by rw [mo 69 (by omega) (by omega) (by omega), g69]) (by rw [e2, ux_s, e1, SR_wd h3 (by omega)]) j0 j4 _
        rcases ih (m - 1) (by omega) dp dq (k + 2) t (n + 1) fo s (st + 1) nm nr_ sf a _ lo (b + n) _ (i + 1) (by omega) hdp (by omega) kL2 (by omega) (by omega) s0 s1 fq (by omega) (by omega) hn (by omega) (by omega) (by omega) a0 (by omega) lb (by omega) (by omega) hS' with ⟨k3, n3, st3, x3, P3, N3, kk3, k3L, nn3, n3L, ss3, ⟨t1, t2, sb3, x30, x31, hS3⟩, cO3, rO3⟩ | ⟨f, pl, f0, cN, rN⟩
        · refine Or.inl ⟨k3, n3, st3, x3, P3, N3, by omega, k3L, by omega, n3L, by omega, ⟨t1, t2, by omega, x30, x31, hS3⟩, fun C w wq w0 w1 hC hP Q hq => ?_, fun R hR hN Q hq => ?_⟩
          · exact cls C w wq w0 w1 hC hP Q _ (fun C6 h6 r6 q6 => cO3 C6 w wq w0 (by omega) h6 q6 Q (fun C' h1 h2 h3 => hq C' h1 (fun j i j0 j4 hi => by rw [h2 j i j0 j4 hi, r6 j i j0 j4 hi]) h3))
          · exact ref R hR hN Q _ (fun R6 h6 r6 q6 => rO3 R6 h6 q6 Q (fun R' h1 h2 h3 => hq R' h1 (fun j i j0 j4 hi => by rw [h2 j i j0 j4 hi, r6 j i j0 j4 hi]) h3))
        · refine Or.inr ⟨f, pl, f0, fun C w wq w0 w1 hC hP Q hq => ?_, fun R hR hN Q hq => ?_⟩
          · exact cls C w wq w0 w1 hC hP Q _ (fun C6 h6 _ q6 => cN C6 w wq w0 (by omega) h6 q6 Q hq)
          · exact ref R hR hN Q _ (fun R6 h6 _ q6 => rN R6 h6 q6 Q hq)
      · refine Or.inr ⟨if C0 4 ((k + 1 : Nat) : Int) = 1 then 2 else 1, C0 5 ((k + 1 : Nat) : Int), flt_pos, fun C w wq w0 w1 hC hP Q hq => ?_, fun R hR hN Q hq => ?_⟩
        · refine cD Q _ C (by rw [hC.2.1.1]; exact hw) ?_
          unfold w_X6_readTail_b49
          refine c_addN hC n0 n1 (fun _ C1 h1 r1 _ => ⟨fun z => absurd z (by decide), fun _ => ⟨fun _ => ?_, fun z => absurd rfl z⟩⟩) (fun z => by omega)
          unfold w_X6_readTail_b70
          exact c_next hT.1 h1 hk (by omega) (fun C2 h2 r2 => ⟨fun z => absurd rfl z, fun _ v15 e15 _ => c_emit h2 st0 (by omega) (fun C3 h3 r3 u1 u2 u3 u4 _ => c_pass hT.1 h3 kL (by decide) (fun z => absurd z hw3) (fun _ C4 h4 _ => ⟨fun z => absurd rfl z, fun _ => hq C4 h4⟩))⟩)
        · refine rD Q _ R _ _ hR.2.2.1.1 hR.2.1.2.2 hw ?_
          unfold w_X12_readP_b52
          refine r_node hR b0 b1 n0 n1 (fun _ R1 h1 r1 r71 g66 g67 g68 g69 g70 g0 _ => ⟨fun _ => ?_, fun z => absurd z (by decide)⟩) (fun z => by omega)
          unfold w_X12_readP_b64 w_X12_readP_b75
          refine fun v1 e1 _ => ⟨fun z => absurd (by rw [e1]; exact h1.2.2.1.1) z, fun _ => r_next hT h1 hk (by omega) (fun R2 h2 r2 => ⟨by omega, by omega, fun M1 e1' => ⟨fun z => absurd z (by decide), fun _ v7 e7 _ => ?_⟩⟩)⟩
          have h3 := SR_u h2 (j := 67) (by omega) (by omega) (i := b + n) x (by omega) (by omega)
          rw [← e1'] at h3
          refine ⟨fun z => absurd (by rw [e7]; exact h3.2.2.1.1) z, fun _ => r_isN h3.2.1.2.2 (fun z => absurd z hw3) (fun _ _ => ⟨fun z => absurd rfl z, fun _ => r_wrong h3 (fun R4 h4 r4 => ?_)⟩)⟩
          unfold w_X12_readP_b104 w_X12_readP_b166
          refine fun v1 e1 _ => ⟨by omega, by omega, fun M2 e2 v3 e3 _ => ?_⟩
          have h5 := RF_u h4 (k := 70) (by omega) (by omega) (i := b + n) v1 (by omega) (by omega)
          rw [← e2] at h5
          exact ⟨fun _ => tailF (by omega) (by rw [h5.2.1]; exact flt_pos) (hq _ _ h5), fun z => absurd (show (0 : Int) < v3 by rw [e3, h5.2.1]; exact flt_pos) (by omega)⟩
  · by_cases hw6 : C0 4 k = 6
    · have kL := TX_lt hT hk (show C0 4 k ≠ 0 by omega)
      by_cases n120 : n = 120
      · refine Or.inr ⟨4, C0 5 k, by omega, fun C w wq w0 w1 hC hP Q hq => ?_, fun R hR hN Q hq => ?_⟩
        · refine cB Q _ C (by rw [hC.2.1.1]; exact hw6) ?_
          unfold w_X6_readTail_b49
          exact c_addN hC n0 n1 (fun z => by omega) (fun _ C' hC' _ => ⟨fun _ => hq C' hC', fun z => absurd rfl z⟩)
        · refine rB Q _ R _ _ hR.2.2.1.1 hR.2.1.2.2 hw6 ?_
          unfold w_X12_readP_b52
          exact r_node hR b0 b1 n0 n1 (fun z => by omega) (fun _ R1 h1 h78 r1 _ => ⟨fun z => absurd rfl z, fun _ => r_nestF h1 (by omega) q0 q1 (fun R2 h2 => r_b75F h2 (by omega) q0 q1 (by omega) (by omega) b0 b1 (fun R3 h3 => tailF (by omega) (by rw [h3.2.1]; omega) (hq _ _ h3)))⟩)
      · by_cases q10 : q = 10
        · refine Or.inr ⟨4, C0 5 k, by omega, fun C w wq w0 w1 hC hP Q hq => ?_, fun R hR hN Q hq => ?_⟩
          · refine cB Q _ C (by rw [hC.2.1.1]; exact hw6) ?_
            unfold w_X6_readTail_b49
            exact c_addN hC n0 n1 (fun _ C1 h1 r1 _ => ⟨fun z => absurd z (by decide), fun _ => ⟨fun z => absurd z (by decide), fun _ => c_addQ h1 q0 q1 (fun z => by omega) (fun _ C2 h2 _ => ⟨fun z => absurd rfl z, fun _ => hq C2 h2⟩)⟩⟩) (fun z => by omega)
          · refine rB Q _ R _ _ hR.2.2.1.1 hR.2.1.2.2 hw6 ?_
            unfold w_X12_readP_b52
            exact r_node hR b0 b1 n0 n1 (fun _ R1 h1 r1 r71 g66 g67 g68 g69 g70 g0 _ => ⟨fun z => absurd rfl z, fun _ => r_nest h1 q0 q1 (fun z => by omega) (fun _ R2 h2 => r_b75F h2 (by omega) q0 q1 (by omega) (by omega) b0 b1 (fun R3 h3 => tailF (by omega) (by rw [h3.2.1]; omega) (hq _ _ h3)))⟩) (fun z => by omega)
        · have q9 : q < 10 := by omega
          rcases HE q9 dp dq (k + 1) (n + 1) fo s st nm nr_ sf (by omega) (by omega) kL (by omega) (by omega) s0 s1 (by omega) st0 (by omega) hn with ⟨k2, n2, st2, x2, P2, N2, kk, k2L, nn, n2L, ss, ⟨nlt, sb, x20, x21, hS2⟩, cO, rO⟩ | ⟨f, pl, f0, cN, rN⟩
          · by_cases hw7 : C0 4 k2 = 7
            · have kL2 := TX_lt hT k2L (show C0 4 k2 ≠ 0 by omega)
              have hS' : SM (pcat P st (pcat P2 st2 (pone 15 0 0 0))) (ncat N (b + n) (ncat (nnod 115 x x2 (-1) (wdR C0 R0 k)) (b + (n + 1)) N2)) s sf fo it (b + n) a (st2 + 1) lo (b + n2) := by
                have ny : ∀ j, ncat N (b + n) (ncat (nnod 115 x x2 (-1) (wdR C0 R0 k)) (b + (n + 1)) N2) j (b + n) = nnod 115 x x2 (-1) (wdR C0 R0 k) j 0 := fun j => by rw [ncat_h j (by omega), ncat_l j (by omega)]; rfl
                refine hc.2.2.2.2.1 _ _ s sf fo it (b + n) a st st2 lo (b + n2) x lo (b + n) x2 (b + (n + 1)) (b + n2) (hc.1 _ _ _ _ _ _ _ _ _ _ _ hS _ _ _ _ _ (fun j i _ _ _ h => pcat_l j h) (fun j i _ _ _ h => ncat_l j h) (fun _ _ _ => rfl) (by omega) (by omega)) (hc.1 _ _ _ _ _ _ _ _ _ _ _ hS2 _ _ _ _ _ (fun j i _ _ h h2 => by rw [pcat_h j h, pcat_l j h2]) (fun j i _ _ h h2 => by rw [ncat_h j (by omega), ncat_h j h]) (fun _ _ _ => rfl) (by omega) (by omega)) (Or.inl ⟨?_, ?_⟩) ?_ ?_ (by omega) (by omega) (by omega) (by omega) (by omega) (by omega) (by omega)
                · rw [pcat_h 1 (by omega), pcat_h 1 (by omega)]; rfl
                · rw [ny]; rfl
                · rw [ny]; rfl
                · rw [ny]; rfl
              have cls : ∀ C w wq, 0 ≤ w → w ≤ n → SC c C0 k n q fo it s w st nm sf wq C → (∀ j i, 0 < j → j ≤ 4 → a ≤ i → i < st → C (c + j) i = P j i) → ∀ (Q g : Int → MM → Prop), (∀ C6, SC c C0 (k2 + 1) n2 q fo it s w (st2 + 1) nm sf wq C6 → (∀ j i, 0 < j → j ≤ 4 → i < a → C6 (c + j) i = C (c + j) i) → (∀ j i, 0 < j → j ≤ 4 → a ≤ i → i < st2 + 1 → C6 (c + j) i = pcat P st (pcat P2 st2 (pone 15 0 0 0)) j i) → g (i + 1) C6) → wb_X6_readTail_b2 c (gq_ c dp) Q g i C := fun C w wq w0 w1 hC hP Q g hg => by
                refine cB Q _ C (by rw [hC.2.1.1]; exact hw6) ?_
                unfold w_X6_readTail_b49
                refine c_addN hC n0 n1 (fun _ C1 h1 r1 _ => ⟨fun z => absurd z (by decide), fun _ => ⟨fun z => absurd z (by decide), fun _ => c_addQ h1 q0 q1 (fun _ C2 h2 r2 _ => ⟨fun _ => ?_, fun z => absurd z (by decide)⟩) (fun z => by omega)⟩⟩) (fun z => by omega)
                unfold w_X6_readTail_b70 w_X6_readTail_b145
                refine c_next hT.1 h2 hk (by omega) (fun C3 h3 r3 => ⟨fun _ => cO C3 w wq w0 (by omega) h3 (fun j i _ _ z z2 => by omega) _ (fun C4 h4 r4 q4 _ => ⟨fun z => absurd z (by decide), fun _ => c_pass hT.1 h4 k2L (by decide) (fun _ C5 h5 r5 _ => ⟨fun _ v10 e10 _ => ⟨by rw [h5.2.2.1.2.1] at e10; unfold ri_; omega, fun M12 e12 => ?_⟩, fun z => absurd z (by decide)⟩) (fun z => absurd hw7 z)⟩), fun z => absurd z (by decide)⟩)
                have h6 := SC_nest h5 q
                rw [show M12 = ux_ C5 c 11 q from by rw [e12, e10, h5.2.2.1.2.1, Int.add_sub_cancel]]
                refine c_emit h6 (by omega) (by omega) (fun C7 h7 r7 u1 u2 u3 u4 _ => ⟨by unfold ri_; omega, ?_⟩)
                have r6 : ∀ j, 0 < j → ux_ C5 c 11 q (c + j) = C5 (c + j) := fun j j0 => ux_g _ _ _ (by omega)
                have lowr : ∀ j i, 0 < j → j ≤ 4 → i < st → C7 (c + j) i = C (c + j) i := fun j i j0 j4 hi => by rw [r7 j i j0 (by omega), r6 j j0, r5 j j0, r4 j i j0 j4 hi, r3 j j0, r2 j j0, r1 j j0]
                refine hg C7 h7 (fun j i j0 j4 hi => lowr j i j0 j4 (by omega)) (fun j i j0 j4 hi hi2 => ?_)
                by_cases y1 : i < st
                · rw [lowr j i j0 j4 y1, pcat_l j y1]; exact hP j i j0 j4 hi y1
                · by_cases y2 : i < st2
                  · rw [pcat_h j (by omega), pcat_l j y2, r7 j i j0 (by omega), r6 j j0, r5 j j0]; exact q4 j i j0 j4 (by omega) y2
                  · have y3 : i = st2 := by omega
                    subst y3
                    rw [pcat_h j (by omega), pcat_h j (by omega)]
                    exact pone_of u1 u2 u3 u4 j0 j4 _
              have ref : ∀ R, SR C0 R0 E b k n q it s nr_ R → (∀ j i, 66 ≤ j → j ≤ 70 → lo ≤ i → i < b + n → R j i = N j i) → ∀ (Q g : Int → MM → Prop), (∀ R6, SR C0 R0 E b (k2 + 1) n2 q it s nr_ R6 → (∀ j i, 66 ≤ j → j ≤ 70 → i < lo → R6 j i = R j i) → (∀ j i, 66 ≤ j → j ≤ 70 → lo ≤ i → i < b + n2 → R6 j i = ncat N (b + n) (ncat (nnod 115 x x2 (-1) (wdR C0 R0 k)) (b + (n + 1)) N2) j i) → g (b + n) R6) → wb_X12_readP_b5 (gr_ dq) Q g x R := fun R hR hN Q g hg => by
                refine rB Q _ R _ _ hR.2.2.1.1 hR.2.1.2.2 hw6 ?_
                unfold w_X12_readP_b52
                refine r_node hR b0 b1 n0 n1 (fun _ R1 h1 r1 r71 g66 g67 g68 g69 g70 g0 _ => ⟨fun z => absurd rfl z, fun _ => r_nest h1 q0 q1 (fun _ R2 h2 r2 => ?_) (fun z => by omega)⟩) (fun z => by omega)
                unfold w_X12_readP_b64 w_X12_readP_b75
                refine fun v1 e1 _ => ⟨fun z => absurd (by rw [e1]; exact h2.2.2.1.1) z, fun _ => r_next hT h2 hk (by omega) (fun R3 h3 r3 => ⟨by omega, by omega, fun M1 e1' => ⟨fun _ v7 e7 _ => ?_, fun z => absurd rfl z⟩⟩)⟩
                have h4 := SR_u h3 (j := 67) (by omega) (by omega) (i := b + n) x (by omega) (by omega)
                rw [← e1'] at h4
                refine ⟨fun z => absurd (by rw [e7]; exact h4.2.2.1.1) z, fun _ => rO M1 h4 (fun j i _ _ z z2 => by omega) _ (fun R4 h5 r5 q5 _ => ?_)⟩
                unfold w_X12_readP_b148 w_X12_readP_b166
                refine ⟨by omega, by omega, fun M6 e6 => ?_⟩
                have h6 := SR_u h5 (j := 68) (by omega) (by omega) (i := b + n) x2 (by omega) (by omega)
                rw [← e6] at h6
                refine r_need hT h6 k2L (x := 3) (by omega) (by decide) (fun _ R7 h7 r7 v4 e4 _ => ⟨by rw [h7.2.2.1.2.2.2.1] at e4; unfold ri_; omega, fun M8 e8 => ?_⟩) (fun z => absurd (by omega) z)
                have h8 := SR_93 h7 q
                rw [show ux_ R7 0 93 q = M8 from by rw [e8, e4, h7.2.2.1.2.2.2.1, Int.add_sub_cancel]] at h8
                have r8 : ∀ j, j ≠ 0 → M8 j = M6 j := fun j hj => by rw [e8, ux_g _ _ _ hj, r7 j hj]
                have lowr : ∀ j i, 66 ≤ j → j ≤ 70 → i < b + n → M8 j i = R j i := fun j i j0 j4 hi => by
                  have a1 : M6 j i = R4 j i := by rw [e6]; unfold ux_; rw [if_neg (by omega)]
                  have a2 : M1 j i = R3 j i := by rw [e1']; unfold ux_; rw [if_neg (by omega)]
                  rw [r8 j (by omega), a1, r5 j i j0 j4 (by omega), a2, r3 j (by omega), r2 j (by omega), r1 j (by omega) i (by omega)]
                refine hg M8 h8 (fun j i j0 j4 hi => lowr j i j0 j4 (by omega)) (fun j i j0 j4 hi hi2 => ?_)
                by_cases y1 : i < b + n
                · rw [lowr j i j0 j4 y1, ncat_l j y1]; exact hN j i j0 j4 hi y1
                · rw [r8 j (by omega)]
                  by_cases y2 : i = b + n
                  · subst y2
                    rw [ncat_h j (by omega), ncat_l j (by omega)]
                    have m67 : M1 67 (b + n) = x := by rw [e1', ux_s]
                    have mo : ∀ j, 66 ≤ j → j ≤ 70 → j ≠ 68 → M6 j (b + n) = M1 j (b + n) := fun j a d e => by rw [e6, ux_c _ _ _ _ e, r5 j _ a d (by omega)]
                    have mo2 : ∀ j, 66 ≤ j → j ≤ 70 → j ≠ 67 → M1 j (b + n) = R1 j (b + n) := fun j a d e => by rw [e1', ux_c _ _ _ _ e, r3 j (by omega), r2 j (by omega)]
                    exact nnod_of (by rw [mo 66 (by omega) (by omega) (by omega), mo2 66 (by omega) (by omega) (by omega), g66]) (by rw [mo 67 (by omega) (by omega) (by omega), m67]) (by rw [e6, ux_s]) (by rw [mo 69 (by omega) (by omega) (by omega), mo2 69 (by omega) (by omega) (by omega), g69]) (by rw [mo 70 (by omega) (by omega) (by omega), mo2 70 (by omega) (by omega) (by omega), g70, SR_wd hR (by omega)]) j0 j4 _
                  · have a1 : M6 j i = R4 j i := by rw [e6]; unfold ux_; rw [if_neg (by omega)]
                    rw [a1, ncat_h j (by omega), ncat_h j (by omega)]
                    exact q5 j i j0 j4 (by omega) (by omega)
              rcases ih (m - 1) (by omega) dp dq (k2 + 1) t n2 fo s (st2 + 1) nm nr_ sf a _ lo (b + n) _ (i + 1) (by omega) hdp (by omega) kL2 (by omega) (by omega) s0 s1 fq (by omega) (by omega) hn (by omega) (by omega) (by omega) a0 (by omega) lb (by omega) (by omega) hS' with ⟨k3, n3, st3, x3, P3, N3, kk3, k3L, nn3, n3L, ss3, ⟨t1, t2, sb3, x30, x31, hS3⟩, cO3, rO3⟩ | ⟨f, pl, f0, cN, rN⟩
              · refine Or.inl ⟨k3, n3, st3, x3, P3, N3, by omega, k3L, by omega, n3L, by omega, ⟨t1, t2, by omega, x30, x31, hS3⟩, fun C w wq w0 w1 hC hP Q hq => ?_, fun R hR hN Q hq => ?_⟩
                · exact cls C w wq w0 w1 hC hP Q _ (fun C6 h6 r6 q6 => cO3 C6 w wq w0 (by omega) h6 q6 Q (fun C' h1 h2 h3 => hq C' h1 (fun j i j0 j4 hi => by rw [h2 j i j0 j4 hi, r6 j i j0 j4 hi]) h3))
                · exact ref R hR hN Q _ (fun R6 h6 r6 q6 => rO3 R6 h6 q6 Q (fun R' h1 h2 h3 => hq R' h1 (fun j i j0 j4 hi => by rw [h2 j i j0 j4 hi, r6 j i j0 j4 hi]) h3))
              · refine Or.inr ⟨f, pl, f0, fun C w wq w0 w1 hC hP Q hq => ?_, fun R hR hN Q hq => ?_⟩
                · exact cls C w wq w0 w1 hC hP Q _ (fun C6 h6 _ q6 => cN C6 w wq w0 (by omega) h6 q6 Q hq)
                · exact ref R hR hN Q _ (fun R6 h6 _ q6 => rN R6 h6 q6 Q hq)
            · refine Or.inr ⟨if C0 4 k2 = 1 then 2 else 1, C0 5 k2, flt_pos, fun C w wq w0 w1 hC hP Q hq => ?_, fun R hR hN Q hq => ?_⟩
              · refine cB Q _ C (by rw [hC.2.1.1]; exact hw6) ?_
                unfold w_X6_readTail_b49
                refine c_addN hC n0 n1 (fun _ C1 h1 r1 _ => ⟨fun z => absurd z (by decide), fun _ => ⟨fun z => absurd z (by decide), fun _ => c_addQ h1 q0 q1 (fun _ C2 h2 r2 _ => ⟨fun _ => ?_, fun z => absurd z (by decide)⟩) (fun z => by omega)⟩⟩) (fun z => by omega)
                unfold w_X6_readTail_b70
                exact c_next hT.1 h2 hk (by omega) (fun C3 h3 r3 => ⟨fun _ => cO C3 w wq w0 (by omega) h3 (fun j i _ _ z z2 => by omega) _ (fun C4 h4 r4 q4 _ => ⟨fun z => absurd z (by decide), fun _ => c_pass hT.1 h4 k2L (by decide) (fun z => absurd z hw7) (fun _ C5 h5 _ => ⟨fun z => absurd rfl z, fun _ => hq C5 h5⟩)⟩), fun z => absurd z (by decide)⟩)
              · refine rB Q _ R _ _ hR.2.2.1.1 hR.2.1.2.2 hw6 ?_
                unfold w_X12_readP_b52
                refine r_node hR b0 b1 n0 n1 (fun _ R1 h1 r1 r71 g66 g67 g68 g69 g70 g0 _ => ⟨fun z => absurd rfl z, fun _ => r_nest h1 q0 q1 (fun _ R2 h2 r2 => ?_) (fun z => by omega)⟩) (fun z => by omega)
                unfold w_X12_readP_b64 w_X12_readP_b75
                refine fun v1 e1 _ => ⟨fun z => absurd (by rw [e1]; exact h2.2.2.1.1) z, fun _ => r_next hT h2 hk (by omega) (fun R3 h3 r3 => ⟨by omega, by omega, fun M1 e1' => ⟨fun _ v7 e7 _ => ?_, fun z => absurd rfl z⟩⟩)⟩
                have h4 := SR_u h3 (j := 67) (by omega) (by omega) (i := b + n) x (by omega) (by omega)
                rw [← e1'] at h4
                refine ⟨fun z => absurd (by rw [e7]; exact h4.2.2.1.1) z, fun _ => rO M1 h4 (fun j i _ _ z z2 => by omega) _ (fun R4 h5 r5 q5 _ => ?_)⟩
                unfold w_X12_readP_b148 w_X12_readP_b166
                refine ⟨by omega, by omega, fun M6 e6 => ?_⟩
                have h6 := SR_u h5 (j := 68) (by omega) (by omega) (i := b + n) x2 (by omega) (by omega)
                rw [← e6] at h6
                refine r_need hT h6 k2L (x := 3) (by omega) (by decide) (fun z => absurd (by omega) hw7) (fun _ R7 h7 v4 e4 _ => ⟨by rw [h7.2.2.2.2.1] at e4; unfold ri_; omega, fun M8 e8 => ?_⟩)
                have h8 := RF_93 h7 q
                rw [show ux_ R7 0 93 q = M8 from by rw [e8, e4, h7.2.2.2.2.1, Int.add_sub_cancel]] at h8
                exact tailF (by omega) (by rw [h8.2.1]; exact flt_pos) (hq _ _ h8)
          · refine Or.inr ⟨f, pl, f0, fun C w wq w0 w1 hC hP Q hq => ?_, fun R hR hN Q hq => ?_⟩
            · refine cB Q _ C (by rw [hC.2.1.1]; exact hw6) ?_
              unfold w_X6_readTail_b49
              refine c_addN hC n0 n1 (fun _ C1 h1 r1 _ => ⟨fun z => absurd z (by decide), fun _ => ⟨fun z => absurd z (by decide), fun _ => c_addQ h1 q0 q1 (fun _ C2 h2 r2 _ => ⟨fun _ => ?_, fun z => absurd z (by decide)⟩) (fun z => by omega)⟩⟩) (fun z => by omega)
              unfold w_X6_readTail_b70
              exact c_next hT.1 h2 hk (by omega) (fun C3 h3 r3 => ⟨fun _ => cN C3 w wq w0 (by omega) h3 (fun j i _ _ z z2 => by omega) _ (fun C4 h4 _ => ⟨fun _ => hq C4 h4, fun z => absurd rfl z⟩), fun z => absurd z (by decide)⟩)
            · refine rB Q _ R _ _ hR.2.2.1.1 hR.2.1.2.2 hw6 ?_
              unfold w_X12_readP_b52
              refine r_node hR b0 b1 n0 n1 (fun _ R1 h1 r1 r71 g66 g67 g68 g69 g70 g0 _ => ⟨fun z => absurd rfl z, fun _ => r_nest h1 q0 q1 (fun _ R2 h2 r2 => ?_) (fun z => by omega)⟩) (fun z => by omega)
              unfold w_X12_readP_b64 w_X12_readP_b75
              refine fun v1 e1 _ => ⟨fun z => absurd (by rw [e1]; exact h2.2.2.1.1) z, fun _ => r_next hT h2 hk (by omega) (fun R3 h3 r3 => ⟨by omega, by omega, fun M1 e1' => ⟨fun _ v7 e7 _ => ?_, fun z => absurd rfl z⟩⟩)⟩
              have h4 := SR_u h3 (j := 67) (by omega) (by omega) (i := b + n) x (by omega) (by omega)
              rw [← e1'] at h4
              exact ⟨fun z => absurd (by rw [e7]; exact h4.2.2.1.1) z, fun _ => rN M1 h4 (fun j i _ _ z z2 => by omega) _ (fun x9 R4 h5 _ => r_b148F h5 f0 q0 q1 (by omega) (by omega) b0 b1 (fun R5 h6 => tailF (by omega) (by rw [h6.2.1]; exact f0) (hq _ _ h6)))⟩
    · refine Or.inl ⟨k, n, st, x, P, N, Nat.le_refl _, hk, Int.le_refl _, n1, Int.le_refl _, ⟨hw, hw6, by omega, lx, xh, hS⟩, fun C w wq w0 w1 hC hP Q hq => ?_, fun R hR hN Q hq => ?_⟩
      · show wb_X6_readTail_b2 c (gq_ c dp) Q (jit (fun _ _ => False) (wb_X6_readTail_b2 c (gq_ c dp) Q) t) i C
        rw [wb_X6_readTail_b2]
        have e := hC.2.1.1
        exact ⟨fun z => by omega, fun _ v2 e2 _ => ⟨fun z => by omega, fun _ v4 e4 _ => ⟨fun _ => hq C hC (fun _ _ _ _ _ => rfl) hP, fun z => by omega⟩⟩⟩
      · show wb_X12_readP_b5 (gr_ dq) Q (jit (fun _ _ => False) (wb_X12_readP_b5 (gr_ dq) Q) t) x R
        rw [wb_X12_readP_b5]
        have ht := hR.2.1.2.2
        exact fun v1 e1 _ => ⟨fun z => absurd (by rw [e1]; exact hR.2.2.1.1) z, fun _ => r_isS ht (x := 7) (by omega) (fun z => absurd (by omega) hw) (fun _ _ => ⟨fun z => absurd rfl z, fun _ => r_isS ht (x := 2) (by omega) (fun z => absurd (by omega) hw6) (fun _ _ => ⟨fun _ => hq R hR (fun _ _ _ _ _ => rfl) hN, fun z => absurd rfl z⟩) (by decide)⟩) (by decide)⟩
