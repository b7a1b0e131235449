/-! sets -/
variable {c : Nat} {C0 R0 : MM} {E : Nat → Int} {L : Nat} {b it : Int} {SM ST : SMt} {q : Int}
def JtS (c : Nat) (C0 R0 : MM) (E : Nat → Int) (L : Nat) (b it : Int) (ST : SMt) (q : Int) : Prop :=
  ∀ (dp dq : Nat) (k : Nat) (n fo s st : Int) (nm nr_ sf : Int → Int), 14 * (10 - q) + 8 ≤ dp → 12 * (10 - q) + 2 * (120 - n) + 6 ≤ dq → k ≤ L → 0 ≤ n → n ≤ 120 → 0 ≤ s → s ≤ fo → fo ≤ q → 0 ≤ st → st ≤ 3 * n + 30 → (∀ i, 0 ≤ i → i < s → nr (nm i) (nr_ i)) →
  Out c C0 R0 E L b it k n q fo s st nm nr_ sf st (fun _ _ => 0) (b + n) (fun _ _ => 0) (fun _ n' st' x P N => n < n' ∧ st' ≤ st + 3 * (n' - n) - 2 ∧ b + n ≤ x ∧ x < b + n' ∧ ST P N s sf fo it x st st' (b + n) (b + n')) (fun Q C => gq_ c dp 13 Q [fo] C) (fun Q R => gr_ dq 10 Q [] R)
def isSt (W : Int) : Prop := W = 30 ∨ W = 31 ∨ W = 32 ∨ W = 55 ∨ W = 56 ∨ W = 57
theorem c_setIn {Q : Int → MM → Prop} {G : Nat → (Int → MM → Prop) → List Int → MM → Prop} {C : MM} {W fo : Int} (h9 : C 1 9 = W) (hs : isSt W) (h : w_X6_readSet_b49 c G Q fo W C) : b_X6_readSet c G Q fo C := by
  unfold b_X6_readSet
  intro v1 e1 _
  have hv : v1 = W := by rw [e1, h9]
  rw [hv]
  unfold isSt at hs
  exact ⟨fun _ => h, fun _ => ⟨fun _ => h, fun _ => ⟨fun _ => h, fun _ => ⟨fun _ => h, fun _ => ⟨fun _ => h, fun _ => ⟨fun _ => h, fun _ => by omega⟩⟩⟩⟩⟩⟩
theorem c_setNo {Q : Int → MM → Prop} {G : Nat → (Int → MM → Prop) → List Int → MM → Prop} {C : MM} {W fo : Int} (h9 : C 1 9 = W) (hs : ¬ isSt W) (h : w_X6_refuse c (fun r M => (r = 0 ∨ r = 1) → Q r M) C) : b_X6_readSet c G Q fo C := by
  unfold b_X6_readSet
  intro v1 e1 _
  have hv : v1 = W := by rw [e1, h9]
  rw [hv]
  unfold isSt at hs
  exact ⟨fun _ => by omega, fun _ => ⟨fun _ => by omega, fun _ => ⟨fun _ => by omega, fun _ => ⟨fun _ => by omega, fun _ => ⟨fun _ => by omega, fun _ => ⟨fun _ => by omega, fun _ => h⟩⟩⟩⟩⟩⟩
def kst (W : Int) : Int := if W ≤ 32 then W - 30 else W - 31
theorem r_setIn {Q : Int → MM → Prop} {R : MM} {W D : Int} {d : Nat} (h83 : R 0 83 = 0) (ht : tk R W D) (hK : Kd R) (hs : isSt W) (h : w_X12_readSet_b54 (gr_ d) Q (kst W) 1 R) : gr_ (d + 1) 10 Q [] R := by
  show b_X12_readSet (gr_ d) Q R
  unfold b_X12_readSet w_X12_readSet_b49
  unfold isSt at hs
  refine fun v1 e1 _ => ⟨fun _ => r_kah ht hK (fun x x0 x1 xw _ => ?_) (fun z => by omega), fun z => by omega⟩
  have kx : kp x = kst W := by
    unfold kp kst
    split
    · rw [if_pos (by omega)]; omega
    · rw [if_neg (by omega), if_neg (by omega)]; omega
  have kr : kst W = 0 ∨ kst W = 1 ∨ kst W = 2 ∨ kst W = 24 ∨ kst W = 25 ∨ kst W = 26 := by unfold kst; split <;> omega
  rw [kx]
  exact ⟨fun _ => h, fun _ => ⟨fun _ => h, fun _ => ⟨fun _ => h, fun _ => ⟨fun _ => h, fun _ => ⟨fun _ => h, fun _ => ⟨fun _ => by omega, fun _ => h⟩⟩⟩⟩⟩⟩
theorem r_setNo {Q : Int → MM → Prop} {R : MM} {W D : Int} {d : Nat} (h83 : R 0 83 = 0) (ht : tk R W D) (hK : Kd R) (hs : ¬ isSt W) (h : w_X12_wrong (fun _ M9 => (∀ v10, v10 = M9 0 91 → ri_ v10 → Q v10 M9)) R) : gr_ (d + 1) 10 Q [] R := by
  show b_X12_readSet (gr_ d) Q R
  unfold b_X12_readSet
  unfold isSt at hs
  have go : ∀ x, (x = -1 ∨ ∃ y, 0 ≤ y ∧ y < 29 ∧ W = 30 + y ∧ x = kp y) → x ≠ 0 ∧ x ≠ 1 ∧ x ≠ 2 ∧ x ≠ 24 ∧ x ≠ 25 ∧ x ≠ 26 := fun x hx => by
    rcases hx with rfl | ⟨y, y0, y1, y2, y3⟩
    · omega
    · unfold kp at y3
      split at y3
      · omega
      · split at y3 <;> omega
  have g54 : ∀ x, w_X12_readSet_b54 (gr_ d) Q x 0 R := fun x => by
    unfold w_X12_readSet_b54
    exact ⟨fun z => absurd rfl z, fun _ => h⟩
  refine fun v1 e1 _ => ⟨fun _ => r_kah ht hK (fun x x0 x1 xw _ => ?_) (fun z _ => ?_), fun z => by omega⟩
  · have := go (kp x) (Or.inr ⟨x, x0, x1, xw, rfl⟩)
    exact ⟨fun z => absurd z this.1, fun _ => ⟨fun z => absurd z this.2.1, fun _ => ⟨fun z => absurd z this.2.2.1, fun _ => ⟨fun z => absurd z this.2.2.2.1, fun _ => ⟨fun z => absurd z this.2.2.2.2.1, fun _ => ⟨fun _ => g54 _, fun z => absurd z this.2.2.2.2.2⟩⟩⟩⟩⟩⟩
  · exact ⟨fun z => by omega, fun _ => ⟨fun z => by omega, fun _ => ⟨fun z => by omega, fun _ => ⟨fun z => by omega, fun _ => ⟨fun z => by omega, fun _ => ⟨fun _ => g54 _, fun z => by omega⟩⟩⟩⟩⟩⟩
/-- a set's node, where a fault stands -/
theorem r_set85F {Q : Int → MM → Prop} {R : MM} {s f pl y x : Int} {d : Nat} (hd : 2 ≤ d) (h : RF R0 b q s f pl R) (f0 : 0 < f) (y0 : b ≤ y) (y1 : y < b + 120) (b0 : 0 ≤ b) (b1 : b ≤ 360) (hq : ∀ R', RF R0 b q s f pl R' → Q y R') : w_X12_readSet_b85 (gr_ d) Q x y R := by
  have e94 : w_X12_readSet_b94 (gr_ d) Q y R := by
    unfold w_X12_readSet_b94 w_X12_readSet_b112
    refine fun v1 e1 _ => ⟨fun _ v1 e1' _ => ⟨by omega, by omega, fun M2 e2 v3 e3 _ => ?_⟩, fun z => by have := h.2.1; omega⟩
    have h2 := RF_u h (k := 70) (by omega) (by omega) (i := y) v1 (by omega) (by omega)
    rw [← e2] at h2
    exact ⟨fun _ => hq _ h2, fun z => by have := h2.2.1; omega⟩
  unfold w_X12_readSet_b85
  refine ⟨fun _ => e94, fun _ => ⟨fun _ => ⟨fun _ => hq _ h, fun _ => z7 hd h.2.1 f0 h.2.2.2.1 (fun _ => ⟨by omega, by omega, fun M6 e6 => hq _ ?_⟩)⟩, fun _ => e94⟩⟩
  rw [e6]
  exact RF_u h (by omega) (by omega) _ (by omega) (by omega)
set_option maxHeartbeats 1600000 in
theorem J_Set (hc : Clo SM ST) (hT : TX C0 R0 E L) (b0 : 0 ≤ b) (b1 : b ≤ 360) (q0 : 0 ≤ q) (q1 : q ≤ 10) (HP : Jt c C0 R0 E L b it SM q 7 7 7 5) : JtS c C0 R0 E L b it ST q := by
  intro dp dq k n fo s st nm nr_ sf hdp hdq hk n0 n1 s0 s1 fq st0 st1 hn
  obtain ⟨dp, rfl⟩ : ∃ d', dp = d' + 1 := ⟨dp - 1, by omega⟩
  obtain ⟨dq, rfl⟩ : ∃ d', dq = d' + 1 := ⟨dq - 1, by omega⟩
  by_cases hs : isSt (C0 4 k)
  rotate_left
  · refine J_flt (if C0 4 k = 1 then 2 else 1) flt_pos (fun C w wq Q w0 hC hq => ?_) (fun R Q hR hq => ?_)
    · exact c_setNo hC.2.1.1 hs (c_refuse hC (fun C' h _ => hq C' h))
    · exact r_setNo hR.2.2.1.1 hR.2.1.2.2 (SR_K hT hR) hs (r_wrong hR (fun R' h _ v10 e10 _ => hq _ R' h))
  have hW : 30 ≤ C0 4 k ∧ C0 4 k ≤ 57 := by unfold isSt at hs; omega
  have kL := TX_lt hT hk (show C0 4 k ≠ 0 by omega)
  by_cases n120 : n = 120
  · refine J_flt 4 (by omega) (fun C w wq Q w0 hC hq => ?_) (fun R Q hR hq => ?_)
    · refine c_setIn hC.2.1.1 hs ?_
      unfold w_X6_readSet_b49
      exact c_addN hC n0 n1 (fun z => by omega) (fun _ C' hC' _ => ⟨fun z => absurd rfl z, fun _ => hq C' hC'⟩)
    · refine r_setIn hR.2.2.1.1 hR.2.1.2.2 (SR_K hT hR) hs ?_
      unfold w_X12_readSet_b54
      exact ⟨fun _ => r_node hR b0 b1 n0 n1 (fun z => by omega) (fun _ R1 h1 h78 r1 _ v4 e4 _ => ⟨fun _ => r_set85F (by omega) h1 (by omega) (by omega) (by omega) b0 b1 (fun R' h => hq _ R' h), fun z => by have := h1.2.1; omega⟩), fun z => absurd z (by decide)⟩
  by_cases h32 : C0 4 k = 32
  · refine Or.inl ⟨k + 1, n + 1, st + 1, b + n, pone 29 fo 0 0, nnod 2 (-1) (-1) (-1) (wdR C0 R0 k), by omega, kL, by omega, by omega, by omega, ⟨by omega, by omega, by omega, by omega, ?_⟩, fun C w wq w0 w1 hC hP Q hq => ?_, fun R hR hN Q hq => ?_⟩
    · have := hc.2.2.2.2.2.2.1.1 (pone 29 fo 0 0) (nnod 2 (-1) (-1) (-1) (wdR C0 R0 k)) s sf fo it (b + n) st (Or.inl ⟨rfl, rfl⟩) rfl s0 s1
      rw [show b + n + 1 = b + (n + 1) from by omega] at this
      exact this
    · refine c_setIn hC.2.1.1 hs ?_
      unfold w_X6_readSet_b49
      refine c_addN hC n0 n1 (fun _ C1 h1 r1 _ => ⟨fun _ => c_next hT.1 h1 hk (by omega) (fun C2 h2 r2 => ⟨fun z => absurd h32 z, fun _ => c_emit h2 st0 (by omega) (fun C3 h3 r3 u1 u2 u3 u4 _ => hq C3 h3 (fun j i j0 j4 hi => by rw [r3 j i j0 (by omega), r2 j j0, r1 j j0]) (fun j i j0 j4 hi hi2 => ?_))⟩), fun z => absurd z (by decide)⟩) (fun z => by omega)
      have y : i = st := by omega
      subst y
      exact pone_of u1 u2 u3 u4 j0 j4 _
    · refine r_setIn hR.2.2.1.1 hR.2.1.2.2 (SR_K hT hR) hs ?_
      have ks : kst (C0 4 k) = 2 := by rw [h32]; decide
      rw [ks]
      unfold w_X12_readSet_b54 w_X12_readSet_b85
      refine ⟨fun _ => r_node hR b0 b1 n0 n1 (fun _ R1 h1 r1 r71 g66 g67 g68 g69 g70 g0 _ v4 e4 _ => ⟨fun z => absurd (by rw [e4]; exact h1.2.2.1.1) z, fun _ => r_next hT h1 hk (by omega) (fun R2 h2 r2 => ⟨fun z => absurd z (by decide), fun _ => ⟨fun _ => ⟨fun _ => ?_, fun z => absurd rfl z⟩, fun z => absurd z (by decide)⟩⟩)⟩) (fun z => by omega), fun z => absurd z (by decide)⟩
      refine hq R2 h2 (fun j i j0 j4 hi => by rw [r2 j (by omega), r1 j (by omega) i (by omega)]) (fun j i j0 j4 hi hi2 => ?_)
      have y : i = b + n := by omega
      subst y
      rw [r2 j (by omega)]
      exact nnod_of g66 g67 g68 g69 (by rw [g70, SR_wd hR (by omega)]) j0 j4 _
  by_cases h31 : C0 4 k = 30 ∨ C0 4 k = 31
  · have ks : kst (C0 4 k) = C0 4 k - 30 := by unfold kst; rw [if_pos (by omega)]
    have ks0 : kst (C0 4 k) = 0 ∨ kst (C0 4 k) = 1 := by omega
    -- the class and the reference behind the name
    have cB : ∀ (Q : Int → MM → Prop) C2, (∀ s0, s0 = C0 4 k - 3 → w_X6_readSet_b109 c (gq_ c dp) Q fo s0 C2) → (¬ C0 4 k = 32 → (C0 4 k = 30 → w_X6_readSet_b95 c (gq_ c dp) Q fo (C0 4 k) C2) ∧ (¬ C0 4 k = 30 → (¬ C0 4 k = 31 → gq_ c dp 7 (fun r9 M10 => (r9 = 0 ∨ r9 = 1) → (¬ r9 = 0 → ri_ (30 + C0 4 k) ∧ (ri_ ((30 + C0 4 k) - 55) ∧ (w_X6_emit c (fun r14 M15 => ri_ r14 → Q 1 M15) ((30 + C0 4 k) - 55) fo 0 0 M10))) ∧ (r9 = 0 → Q 0 M10)) [] C2) ∧ (C0 4 k = 31 → w_X6_readSet_b95 c (gq_ c dp) Q fo (C0 4 k) C2))) := fun Q C2 h _ => by
      unfold w_X6_readSet_b95
      exact ⟨fun z => ⟨fun y => absurd z y, fun _ => h 27 (by omega)⟩, fun z => ⟨fun y => by omega, fun y => ⟨fun _ => h 28 (by omega), fun y => absurd y z⟩⟩⟩
    have rB : ∀ (Q : Int → MM → Prop) y R2, w_X12_readSet_b94 (gr_ dq) Q y R2 → w_X12_readSet_b85 (gr_ dq) Q (kst (C0 4 k)) y R2 := fun Q y R2 h => by
      unfold w_X12_readSet_b85
      exact ⟨fun _ => h, fun z => ⟨fun z2 => by omega, fun _ => h⟩⟩
    by_cases hw3 : C0 4 ((k + 1 : Nat) : Int) = 2
    · have kL2 := TX_lt hT kL (show C0 4 ((k + 1 : Nat) : Int) ≠ 0 by omega)
      refine Or.inl ⟨k + 2, n + 1, st + 1, b + n, pone (C0 4 k - 3) fo 0 (C0 6 ((k + 1 : Nat) : Int)), nnod (kst (C0 4 k)) (-1) (-1) (-1) (wdR C0 R0 (k + 1)), by omega, kL2, by omega, by omega, by omega, ⟨by omega, by omega, by omega, by omega, ?_⟩, fun C w wq w0 w1 hC hP Q hq => ?_, fun R hR hN Q hq => ?_⟩
      · have nn := wd_nr (R0 := R0) hT.1 kL hw3
        have := hc.2.2.2.2.2.2.1.1 (pone (C0 4 k - 3) fo 0 (C0 6 ((k + 1 : Nat) : Int))) (nnod (kst (C0 4 k)) (-1) (-1) (-1) (wdR C0 R0 (k + 1))) s sf fo it (b + n) st (by
          rcases h31 with e | e
          · exact Or.inr (Or.inl ⟨by show C0 4 k - 3 = 27; omega, by show kst _ = 0; omega, nn⟩)
          · exact Or.inr (Or.inr ⟨by show C0 4 k - 3 = 28; omega, by show kst _ = 1; omega, nn⟩)) rfl s0 s1
        rw [show b + n + 1 = b + (n + 1) from by omega] at this
        exact this
      · refine c_setIn hC.2.1.1 hs ?_
        unfold w_X6_readSet_b49
        refine c_addN hC n0 n1 (fun _ C1 h1 r1 _ => ⟨fun _ => c_next hT.1 h1 hk (by omega) (fun C2 h2 r2 => ⟨cB Q C2 (fun s0' es => ?_), fun z => absurd z h32⟩), fun z => absurd z (by decide)⟩) (fun z => by omega)
        unfold w_X6_readSet_b109
        refine fun v1 e1 _ => c_emit h2 st0 (by omega) (fun C3 h3 r3 u1 u2 u3 u4 _ => c_pass hT.1 h3 kL (by decide) (fun _ C4 h4 r4 _ => hq C4 h4 (fun j i j0 j4 hi => by rw [r4 j j0, r3 j i j0 (by omega), r2 j j0, r1 j j0]) (fun j i j0 j4 hi hi2 => ?_)) (fun z => absurd hw3 z))
        have y : i = st := by omega
        subst y
        rw [r4 j j0]
        exact pone_of (by rw [u1, es]) u2 u3 (by rw [u4, e1]; exact h2.2.1.2.2.1) j0 j4 _
      · refine r_setIn hR.2.2.1.1 hR.2.1.2.2 (SR_K hT hR) hs ?_
        unfold w_X12_readSet_b54
        refine ⟨fun _ => r_node hR b0 b1 n0 n1 (fun _ R1 h1 r1 r71 g66 g67 g68 g69 g70 g0 _ v4 e4 _ => ⟨fun z => absurd (by rw [e4]; exact h1.2.2.1.1) z, fun _ => r_next hT h1 hk (by omega) (fun R2 h2 r2 => rB _ _ _ ?_)⟩) (fun z => by omega), fun z => absurd z (by decide)⟩
        unfold w_X12_readSet_b94 w_X12_readSet_b112
        refine fun v1 e1 _ => ⟨fun z => absurd (by rw [e1]; exact h2.2.2.1.1) z, fun _ => r_isN h2.2.1.2.2 (fun _ _ => ⟨fun _ v1 e1 _ => ⟨by omega, by omega, fun M2 e2 v3 e3 _ => ?_⟩, fun z => absurd z (by decide)⟩) (fun z => absurd hw3 z)⟩
        have h4 := SR_u h2 (j := 70) (by omega) (by omega) (i := b + n) v1 (by omega) (by omega)
        rw [← e2] at h4
        refine ⟨fun z => absurd (by rw [e3]; exact h4.2.2.1.1) z, fun _ => r_next hT h4 kL (by omega) (fun R' h6 r6 => hq R' h6 (fun j i j0 j4 hi => ?_) (fun j i j0 j4 hi hi2 => ?_))⟩
        · have a1 : M2 j i = R2 j i := by rw [e2]; unfold ux_; rw [if_neg (by omega)]
          rw [r6 j (by omega), a1, r2 j (by omega), r1 j (by omega) i (by omega)]
        · have y : i = b + n := by omega
          subst y
          rw [r6 j (by omega)]
          have mo : ∀ j, 66 ≤ j → j ≤ 69 → M2 j (b + n) = R1 j (b + n) := fun j a d => by rw [e2, ux_c _ _ _ _ (by omega), r2 j (by omega)]
          exact nnod_of (by rw [mo 66 (by omega) (by omega), g66]) (by rw [mo 67 (by omega) (by omega), g67]) (by rw [mo 68 (by omega) (by omega), g68]) (by rw [mo 69 (by omega) (by omega), g69]) (by rw [e2, ux_s, e1, SR_wd h2 (by omega)]) j0 j4 _
    · refine Or.inr ⟨if C0 4 ((k + 1 : Nat) : Int) = 1 then 2 else 1, C0 5 ((k + 1 : Nat) : Int), flt_pos, fun C w wq w0 w1 hC hP Q hq => ?_, fun R hR hN Q hq => ?_⟩
      · refine c_setIn hC.2.1.1 hs ?_
        unfold w_X6_readSet_b49
        refine c_addN hC n0 n1 (fun _ C1 h1 r1 _ => ⟨fun _ => c_next hT.1 h1 hk (by omega) (fun C2 h2 r2 => ⟨cB Q C2 (fun s0' es => ?_), fun z => absurd z h32⟩), fun z => absurd z (by decide)⟩) (fun z => by omega)
        unfold w_X6_readSet_b109
        exact fun v1 e1 _ => c_emit h2 st0 (by omega) (fun C3 h3 r3 u1 u2 u3 u4 _ => c_pass hT.1 h3 kL (by decide) (fun z => absurd z hw3) (fun _ C4 h4 _ => hq C4 h4))
      · refine r_setIn hR.2.2.1.1 hR.2.1.2.2 (SR_K hT hR) hs ?_
        unfold w_X12_readSet_b54
        refine ⟨fun _ => r_node hR b0 b1 n0 n1 (fun _ R1 h1 r1 r71 g66 g67 g68 g69 g70 g0 _ v4 e4 _ => ⟨fun z => absurd (by rw [e4]; exact h1.2.2.1.1) z, fun _ => r_next hT h1 hk (by omega) (fun R2 h2 r2 => rB _ _ _ ?_)⟩) (fun z => by omega), fun z => absurd z (by decide)⟩
        unfold w_X12_readSet_b94 w_X12_readSet_b112
        refine fun v1 e1 _ => ⟨fun z => absurd (by rw [e1]; exact h2.2.2.1.1) z, fun _ => r_isN h2.2.1.2.2 (fun z => absurd z hw3) (fun _ _ => ⟨fun z => absurd rfl z, fun _ => r_wrong h2 (fun R3 h3 r3 v1 e1 _ => ⟨by omega, by omega, fun M2 e2 v3 e3 _ => ?_⟩)⟩)⟩
        have h4 := RF_u h3 (k := 70) (by omega) (by omega) (i := b + n) v1 (by omega) (by omega)
        rw [← e2] at h4
        exact ⟨fun _ => hq _ _ h4, fun z => absurd (show (0 : Int) < v3 by rw [e3, h4.2.1]; exact flt_pos) (by omega)⟩
  · have hW5 : 55 ≤ C0 4 k := by unfold isSt at hs; omega
    have ks : kst (C0 4 k) = C0 4 k - 31 := by unfold kst; rw [if_neg (by omega)]
    have rB : ∀ (Q : Int → MM → Prop) y R2, gr_ dq 7 (fun r4 M5 => ri_ r4 → 0 ≤ y ∧ y < 480 ∧ (∀ M6, M6 = ux_ M5 67 y r4 → Q y M6)) [] R2 → w_X12_readSet_b85 (gr_ dq) Q (kst (C0 4 k)) y R2 := fun Q y R2 h => by
      unfold w_X12_readSet_b85
      exact ⟨fun z => by omega, fun _ => ⟨fun _ => ⟨fun z => by omega, fun _ => h⟩, fun z => by omega⟩⟩
    rcases HP dp dq (k + 1) (n + 1) fo s st nm nr_ sf (by omega) (by omega) kL (by omega) (by omega) s0 s1 fq st0 (by omega) hn with ⟨k2, n2, st2, x2, P2, N2, kk, k2L, nn, n2L, ss, ⟨nlt, sb, x20, x21, hS2⟩, cO, rO⟩ | ⟨f, pl, f0, cN, rN⟩
    · refine Or.inl ⟨k2, n2, st2 + 1, b + n, pcat P2 st2 (pone (C0 4 k - 25) fo 0 0), ncat (nnod (kst (C0 4 k)) x2 (-1) (-1) (wdR C0 R0 k)) (b + (n + 1)) N2, by omega, k2L, by omega, n2L, by omega, ⟨by omega, by omega, by omega, by omega, ?_⟩, fun C w wq w0 w1 hC hP Q hq => ?_, fun R hR hN Q hq => ?_⟩
      · have ny : ∀ j, ncat (nnod (kst (C0 4 k)) x2 (-1) (-1) (wdR C0 R0 k)) (b + (n + 1)) N2 j (b + n) = nnod (kst (C0 4 k)) x2 (-1) (-1) (wdR C0 R0 k) j 0 := fun j => by rw [ncat_l j (by omega)]; rfl
        refine hc.2.2.2.2.2.2.1.2 _ _ s sf fo it (b + n) st st2 (b + n) (b + n2) x2 (b + (n + 1)) (b + n2) (hc.1 _ _ _ _ _ _ _ _ _ _ _ hS2 _ _ _ _ _ (fun j i _ _ _ h => pcat_l j h) (fun j i _ _ h _ => ncat_h j h) (fun _ _ _ => rfl) (by omega) (by omega)) ?_ ?_ ?_ ?_ ?_ (by omega) (by omega) (by omega) (by omega) (by omega)
        · rw [pcat_h 1 (by omega)]; show 30 ≤ C0 4 k - 25; omega
        · rw [pcat_h 1 (by omega)]; show C0 4 k - 25 ≤ 32; omega
        · rw [pcat_h 2 (by omega)]; rfl
        · rw [ny, pcat_h 1 (by omega)]; show kst _ = C0 4 k - 25 - 6; omega
        · rw [ny]; rfl
      · refine c_setIn hC.2.1.1 hs ?_
        unfold w_X6_readSet_b49
        refine c_addN hC n0 n1 (fun _ C1 h1 r1 _ => ⟨fun _ => c_next hT.1 h1 hk (by omega) (fun C2 h2 r2 => ⟨fun _ => ⟨fun z => by omega, fun _ => ⟨fun _ => cO C2 w wq w0 (by omega) h2 (fun j i _ _ z z2 => by omega) _ (fun C3 h3 r3 q3 _ => ⟨fun _ => ⟨by unfold ri_; omega, by unfold ri_; omega, c_emit h3 (by omega) (by omega) (fun C4 h4 r4 u1 u2 u3 u4 _ => hq C4 h4 (fun j i j0 j4 hi => by rw [r4 j i j0 (by omega), r3 j i j0 j4 hi, r2 j j0, r1 j j0]) (fun j i j0 j4 hi hi2 => ?_))⟩, fun z => absurd z (by decide)⟩), fun z => by omega⟩⟩, fun z => absurd z h32⟩), fun z => absurd z (by decide)⟩) (fun z => by omega)
        by_cases y : i < st2
        · rw [pcat_l j y, r4 j i j0 (by omega)]; exact q3 j i j0 j4 hi y
        · have y3 : i = st2 := by omega
          subst y3
          rw [pcat_h j (by omega)]
          exact pone_of (by rw [u1]; omega) u2 u3 u4 j0 j4 _
      · refine r_setIn hR.2.2.1.1 hR.2.1.2.2 (SR_K hT hR) hs ?_
        unfold w_X12_readSet_b54
        refine ⟨fun _ => r_node hR b0 b1 n0 n1 (fun _ R1 h1 r1 r71 g66 g67 g68 g69 g70 g0 _ v4 e4 _ => ⟨fun z => absurd (by rw [e4]; exact h1.2.2.1.1) z, fun _ => r_next hT h1 hk (by omega) (fun R2 h2 r2 => rB _ _ _ (rO R2 h2 (fun j i _ _ z z2 => by omega) _ (fun R3 h3 r3 q3 _ => ⟨by omega, by omega, fun M6 e6 => ?_⟩)))⟩) (fun z => by omega), fun z => absurd z (by decide)⟩
        have h4 := SR_u h3 (j := 67) (by omega) (by omega) (i := b + n) x2 (by omega) (by omega)
        rw [← e6] at h4
        refine hq M6 h4 (fun j i j0 j4 hi => ?_) (fun j i j0 j4 hi hi2 => ?_)
        · have a1 : M6 j i = R3 j i := by rw [e6]; unfold ux_; rw [if_neg (by omega)]
          rw [a1, r3 j i j0 j4 (by omega), r2 j (by omega), r1 j (by omega) i (by omega)]
        · by_cases y2 : i = b + n
          · subst y2
            rw [ncat_l j (by omega)]
            have mo : ∀ j, 66 ≤ j → j ≤ 70 → j ≠ 67 → M6 j (b + n) = R1 j (b + n) := fun j a d e => by rw [e6, ux_c _ _ _ _ e, r3 j _ a d (by omega), r2 j (by omega)]
            exact nnod_of (by rw [mo 66 (by omega) (by omega) (by omega), g66]) (by rw [e6, ux_s]) (by rw [mo 68 (by omega) (by omega) (by omega), g68]) (by rw [mo 69 (by omega) (by omega) (by omega), g69]) (by rw [mo 70 (by omega) (by omega) (by omega), g70, SR_wd hR (by omega)]) j0 j4 _
          · have a1 : M6 j i = R3 j i := by rw [e6]; unfold ux_; rw [if_neg (by omega)]
            rw [a1, ncat_h j (by omega)]
            exact q3 j i j0 j4 (by omega) (by omega)
    · refine Or.inr ⟨f, pl, f0, fun C w wq w0 w1 hC hP Q hq => ?_, fun R hR hN Q hq => ?_⟩
      · refine c_setIn hC.2.1.1 hs ?_
        unfold w_X6_readSet_b49
        exact c_addN hC n0 n1 (fun _ C1 h1 r1 _ => ⟨fun _ => c_next hT.1 h1 hk (by omega) (fun C2 h2 r2 => ⟨fun _ => ⟨fun z => by omega, fun _ => ⟨fun _ => cN C2 w wq w0 (by omega) h2 (fun j i _ _ z z2 => by omega) _ (fun C3 h3 _ => ⟨fun z => absurd rfl z, fun _ => hq C3 h3⟩), fun z => by omega⟩⟩, fun z => absurd z h32⟩), fun z => absurd z (by decide)⟩) (fun z => by omega)
      · refine r_setIn hR.2.2.1.1 hR.2.1.2.2 (SR_K hT hR) hs ?_
        unfold w_X12_readSet_b54
        refine ⟨fun _ => r_node hR b0 b1 n0 n1 (fun _ R1 h1 r1 r71 g66 g67 g68 g69 g70 g0 _ v4 e4 _ => ⟨fun z => absurd (by rw [e4]; exact h1.2.2.1.1) z, fun _ => r_next hT h1 hk (by omega) (fun R2 h2 r2 => rB _ _ _ (rN R2 h2 (fun j i _ _ z z2 => by omega) _ (fun x9 R3 h3 _ => ⟨by omega, by omega, fun M6 e6 => hq _ _ ?_⟩)))⟩) (fun z => by omega), fun z => absurd z (by decide)⟩
        rw [e6]
        exact RF_u h3 (by omega) (by omega) _ (by omega) (by omega)
