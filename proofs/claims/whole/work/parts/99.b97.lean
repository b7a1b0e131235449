/-! atoms, and with them all expressions -/
variable {c : Nat} {C0 R0 : MM} {E : Nat → Int} {L : Nat} {b it : Int} {SM ST : SMt} {q : Int}
theorem Out_W2 {k : Nat} {n fo s st : Int} {nm nr_ sf : Int → Int} {a : Int} {P : CD} {lo : Int} {N : MM} {S : Nat → Int → Int → Int → CD → MM → Prop} {Wc Wr Wc' Wr' : (Int → MM → Prop) → MM → Prop} (h : Out c C0 R0 E L b it k n q fo s st nm nr_ sf a P lo N S Wc Wr) (hc : ∀ C w wq Q, SC c C0 k n q fo it s w st nm sf wq C → Wc (fun r M => (r = 0 ∨ r = 1) → Q r M) C → Wc' Q C) (hr : ∀ R Q, SR C0 R0 E b k n q it s nr_ R → Wr (fun r M => ri_ r → Q r M) R → Wr' Q R) : Out c C0 R0 E L b it k n q fo s st nm nr_ sf a P lo N S Wc' Wr' := by
  rcases h with ⟨k2, n2, st2, x2, P2, N2, kk, k2L, nn, n2L, ss, hS, cO, rO⟩ | ⟨f, pl, f0, cN, rN⟩
  · exact Or.inl ⟨k2, n2, st2, x2, P2, N2, kk, k2L, nn, n2L, ss, hS, fun C w wq w0 w1 hC hP Q hq => hc C w wq Q hC (cO C w wq w0 w1 hC hP _ (fun C' a1 a2 a3 _ => hq C' a1 a2 a3)), fun R hR hN Q hq => hr R Q hR (rO R hR hN _ (fun R' a1 a2 a3 _ => hq R' a1 a2 a3))⟩
  · exact Or.inr ⟨f, pl, f0, fun C w wq w0 w1 hC hP Q hq => hc C w wq Q hC (cN C w wq w0 w1 hC hP _ (fun C' a1 _ => hq C' a1)), fun R hR hN Q hq => hr R Q hR (rN R hR hN _ (fun x R' a1 _ => hq x R' a1))⟩
theorem Out_W3 {k : Nat} {n fo s st : Int} {nm nr_ sf : Int → Int} {a : Int} {P : CD} {lo : Int} {N : MM} {S : Nat → Int → Int → Int → CD → MM → Prop} {Wc Wr Wc' Wr' : (Int → MM → Prop) → MM → Prop} (h : Out c C0 R0 E L b it k n q fo s st nm nr_ sf a P lo N S Wc Wr) (hc : ∀ C w wq Q, SC c C0 k n q fo it s w st nm sf wq C → Wc (fun r M => (r = 0 ∨ r = 1) → Q r M) C → Wc' Q C) (hr : ∀ R Q, SR C0 R0 E b k n q it s nr_ R → Wr Q R → Wr' Q R) : Out c C0 R0 E L b it k n q fo s st nm nr_ sf a P lo N S Wc' Wr' := by
  rcases h with ⟨k2, n2, st2, x2, P2, N2, kk, k2L, nn, n2L, ss, hS, cO, rO⟩ | ⟨f, pl, f0, cN, rN⟩
  · exact Or.inl ⟨k2, n2, st2, x2, P2, N2, kk, k2L, nn, n2L, ss, hS, fun C w wq w0 w1 hC hP Q hq => hc C w wq Q hC (cO C w wq w0 w1 hC hP _ (fun C' a1 a2 a3 _ => hq C' a1 a2 a3)), fun R hR hN Q hq => hr R Q hR (rO R hR hN Q hq)⟩
  · exact Or.inr ⟨f, pl, f0, fun C w wq w0 w1 hC hP Q hq => hc C w wq Q hC (cN C w wq w0 w1 hC hP _ (fun C' a1 _ => hq C' a1)), fun R hR hN Q hq => hr R Q hR (rN R hR hN Q hq)⟩
/-- thing and its number -/
theorem J_thing {k : Nat} {n fo s st : Int} {nm nr_ sf : Int → Int} {d : Nat} (hc : Clo SM ST) (hT : TX C0 R0 E L) (b0 : 0 ≤ b) (b1 : b ≤ 360) (hk : k ≤ L) (n0 : 0 ≤ n) (n1 : n ≤ 120) (s0 : 0 ≤ s) (s1 : s ≤ fo) (st0 : 0 ≤ st) (st1 : st ≤ 3 * n + 30) (hw : C0 4 k = 33) :
    Out c C0 R0 E L b it k n q fo s st nm nr_ sf st (fun _ _ => 0) (b + n) (fun _ _ => 0) (fun k' n' st' x P N => n < n' ∧ SE SM b n s fo st sf it st (b + n) k' n' st' x P N) (fun Q C => w_X6_readThing c (fun r M => (r = 0 ∨ r = 1) → Q r M) C) (fun Q R => gr_ (d + 1) 8 Q [] R) := by
  have kL := TX_lt hT hk (show C0 4 k ≠ 0 by omega)
  have rin : ∀ (Q : Int → MM → Prop) R, SR C0 R0 E b k n q it s nr_ R → w_X12_node (fun r8 M9 => ri_ r8 → (∀ v10, v10 = M9 0 83 → ri_ v10 → (¬ v10 = 0 → w_X12_readAtom_b163 (gr_ d) Q r8 M9) ∧ (v10 = 0 → w_X12_advance (fun _ M13 => w_X12_readAtom_b163 (gr_ d) Q r8 M13) M9))) 28 R → gr_ (d + 1) 8 Q [] R := fun Q R hR h => by
    have ht := hR.2.1.2.2
    show b_X12_readAtom (gr_ d) Q R
    unfold b_X12_readAtom
    refine fun v1 e1 _ => ⟨fun _ => r_kah ht (SR_K hT hR) (fun x x0 x1 xw _ => r_isS ht (x := 0) (by omega) (fun z => by omega) (fun _ _ => ⟨fun _ => ?_, fun z => absurd rfl z⟩) (by decide)) (fun z => by omega), fun z => by have := hR.2.2.1.1; omega⟩
    have kx : kp x = 28 := by rw [show x = 3 from by omega]; decide
    rw [kx]
    refine ⟨fun z => absurd z (by decide), fun _ => ⟨fun _ => ?_, fun z => absurd (by decide) z⟩⟩
    unfold w_X12_readAtom_b98 w_X12_readAtom_b139
    exact ⟨fun z => absurd z (by decide), fun _ => ⟨fun _ => ⟨fun z => absurd rfl z, fun _ => h⟩, fun z => absurd (by decide) z⟩⟩
  by_cases n120 : n = 120
  · refine J_flt 4 (by omega) (fun C w wq Q w0 hC hq => ?_) (fun R Q hR hq => rin Q R hR ?_)
    · unfold w_X6_readThing
      exact c_addN hC n0 n1 (fun z => by omega) (fun _ C' hC' _ => ⟨fun z => absurd rfl z, fun _ _ => hq C' hC'⟩)
    · refine r_node hR b0 b1 n0 n1 (fun z => by omega) (fun _ R1 h1 h78 r1 _ v10 e10 _ => ⟨fun _ => ?_, fun z => by have := h1.2.1; omega⟩)
      unfold w_X12_readAtom_b163 w_X12_readAtom_b182
      refine fun v1 e1 _ => ⟨fun _ v1 e1 _ => ⟨b0, by omega, fun M2 e2 v3 e3 _ => ?_⟩, fun z => by have := h1.2.1; omega⟩
      have h2 := RF_u h1 (k := 70) (by omega) (by omega) (i := b) v1 (by omega) (by omega)
      rw [← e2] at h2
      exact ⟨fun _ => hq _ _ h2, fun z => by have := h2.2.1; omega⟩
  by_cases hw3 : C0 4 ((k + 1 : Nat) : Int) = 3
  · have kL2 := TX_lt hT kL (show C0 4 ((k + 1 : Nat) : Int) ≠ 0 by omega)
    refine Or.inl ⟨k + 2, n + 1, st + 1, b + n, pone 4 0 0 (C0 6 ((k + 1 : Nat) : Int)), nnod 28 (-1) (-1) (-1) (wdR C0 R0 (k + 1)), by omega, kL2, by omega, by omega, by omega, ⟨by omega, by omega, by omega, by omega, ?_⟩, fun C w wq w0 w1 hC hP Q hq => ?_, fun R hR hN Q hq => rin Q R hR ?_⟩
    · have := hc.2.2.1 (pone 4 0 0 (C0 6 ((k + 1 : Nat) : Int))) (nnod 28 (-1) (-1) (-1) (wdR C0 R0 (k + 1))) s sf fo it (b + n) st (Or.inr (Or.inr (Or.inr (Or.inr (Or.inl ⟨rfl, rfl, by
        show wdR C0 R0 (k + 1) = C0 6 ((k + 1 : Nat) : Int)
        unfold wdR
        rw [if_neg (by omega), if_pos hw3], num_nn hT.1 kL hw3⟩))))) s0 s1
      rw [show b + n + 1 = b + (n + 1) from by omega] at this
      exact this
    · show w_X6_readThing c (fun r M => (r = 0 ∨ r = 1) → Q r M) C
      unfold w_X6_readThing
      refine c_addN hC n0 n1 (fun _ C1 h1 r1 _ => ⟨fun _ => c_next hT.1 h1 hk (by omega) (fun C2 h2 r2 v6 e6 _ => c_emit h2 st0 (by omega) (fun C3 h3 r3 u1 u2 u3 u4 _ => c_pass hT.1 h3 kL (by decide) (fun _ C4 h4 r4 _ _ => hq C4 h4 (fun j i j0 j4 hi => by rw [r4 j j0, r3 j i j0 (by omega), r2 j j0, r1 j j0]) (fun j i j0 j4 hi hi2 => ?_)) (fun z => absurd hw3 z))), fun z => absurd z (by decide)⟩) (fun z => by omega)
      have y : i = st := by omega
      subst y
      rw [r4 j j0]
      exact pone_of u1 u2 u3 (by rw [u4, e6]; exact h2.2.1.2.2.1) j0 j4 _
    · refine r_node hR b0 b1 n0 n1 (fun _ R1 h1 r1 r71 g66 g67 g68 g69 g70 g0 _ v10 e10 _ => ⟨fun z => absurd (by rw [e10]; exact h1.2.2.1.1) z, fun _ => r_next hT h1 hk (by omega) (fun R2 h2 r2 => ?_)⟩) (fun z => by omega)
      unfold w_X12_readAtom_b163 w_X12_readAtom_b182
      refine fun v1 e1 _ => ⟨fun z => absurd (by rw [e1]; exact h2.2.2.1.1) z, fun _ v3 e3 _ => ⟨fun _ v1 e1 _ => ⟨by omega, by omega, fun M2 e2 v3 e3 _ => ?_⟩, fun z => absurd (by rw [e3]; exact (tk_num h2.2.1.2.2).mpr hw3) z⟩⟩
      have h4 := SR_u h2 (j := 70) (by omega) (by omega) (i := b + n) v1 (by omega) (by omega)
      rw [← e2] at h4
      refine ⟨fun z => absurd (by rw [e3]; exact h4.2.2.1.1) z, fun _ => r_next hT h4 kL (by omega) (fun R' h6 r6 => hq R' h6 (fun j i j0 j4 hi => ?_) (fun j i j0 j4 hi hi2 => ?_))⟩
      · have a1 : M2 j i = R2 j i := by rw [e2]; unfold ux_; rw [if_neg (by omega)]
        rw [r6 j (by omega), a1, r2 j (by omega), r1 j (by omega) i (by omega)]
      · have y : i = b + n := by omega
        subst y
        rw [r6 j (by omega)]
        have mo : ∀ j, 66 ≤ j → j ≤ 69 → M2 j (b + n) = R1 j (b + n) := fun j a d => by rw [e2, ux_c _ _ _ _ (by omega), r2 j (by omega)]
        exact nnod_of (by rw [mo 66 (by omega) (by omega), g66]) (by rw [mo 67 (by omega) (by omega), g67]) (by rw [mo 68 (by omega) (by omega), g68]) (by rw [mo 69 (by omega) (by omega), g69]) (by rw [e2, ux_s, e1, SR_wd h2 (by omega)]) j0 j4 _
  · refine Or.inr ⟨if C0 4 ((k + 1 : Nat) : Int) = 1 then 2 else 1, C0 5 ((k + 1 : Nat) : Int), flt_pos, fun C w wq w0 w1 hC hP Q hq => ?_, fun R hR hN Q hq => rin Q R hR ?_⟩
    · show w_X6_readThing c (fun r M => (r = 0 ∨ r = 1) → Q r M) C
      unfold w_X6_readThing
      exact c_addN hC n0 n1 (fun _ C1 h1 r1 _ => ⟨fun _ => c_next hT.1 h1 hk (by omega) (fun C2 h2 r2 v6 e6 _ => c_emit h2 st0 (by omega) (fun C3 h3 r3 u1 u2 u3 u4 _ => c_pass hT.1 h3 kL (by decide) (fun z => absurd z hw3) (fun _ C4 h4 _ _ => hq C4 h4))), fun z => absurd z (by decide)⟩) (fun z => by omega)
    · refine r_node hR b0 b1 n0 n1 (fun _ R1 h1 r1 r71 g66 g67 g68 g69 g70 g0 _ v10 e10 _ => ⟨fun z => absurd (by rw [e10]; exact h1.2.2.1.1) z, fun _ => r_next hT h1 hk (by omega) (fun R2 h2 r2 => ?_)⟩) (fun z => by omega)
      unfold w_X12_readAtom_b163 w_X12_readAtom_b182
      refine fun v1 e1 _ => ⟨fun z => absurd (by rw [e1]; exact h2.2.2.1.1) z, fun _ v3 e3 _ => ⟨fun z => absurd ((tk_num h2.2.1.2.2).mp (by rw [← e3]; exact z)) hw3, fun _ => r_wrong h2 (fun R3 h3 r3 v1 e1 _ => ⟨by omega, by omega, fun M2 e2 v3 e3 _ => ?_⟩)⟩⟩
      have h4 := RF_u h3 (k := 70) (by omega) (by omega) (i := b + n) v1 (by omega) (by omega)
      rw [← e2] at h4
      exact ⟨fun _ => hq _ _ h4, fun z => absurd (show (0 : Int) < v3 by rw [e3, h4.2.1]; exact flt_pos) (by omega)⟩
/-- ( E ) -/
theorem J_inner {k : Nat} {n fo s st : Int} {nm nr_ sf : Int → Int} (hT : TX C0 R0 E L) (b0 : 0 ≤ b) (b1 : b ≤ 360) (q0 : 0 ≤ q) (q1 : q ≤ 10) (HE : q < 10 → Jt c C0 R0 E L b it SM (q + 1) 0 0 14 12) (dp dq : Nat) (hdp : 14 * (10 - q) + 5 ≤ dp) (hdq : 12 * (10 - q) + 2 * (120 - n) + 4 ≤ dq) (hk : k ≤ L) (n0 : 0 ≤ n) (n1 : n ≤ 120) (s0 : 0 ≤ s) (s1 : s ≤ fo) (fq : fo ≤ q) (st0 : 0 ≤ st) (st1 : st ≤ 3 * n + 30) (hn : ∀ i, 0 ≤ i → i < s → nr (nm i) (nr_ i)) (hw : C0 4 k = 4) :
    Out c C0 R0 E L b it k n q fo s st nm nr_ sf st (fun _ _ => 0) (b + n) (fun _ _ => 0) (fun k' n' st' x P N => n < n' ∧ SE SM b n s fo st sf it st (b + n) k' n' st' x P N) (fun Q C => gq_ c dp 10 (fun r M => (r = 0 ∨ r = 1) → Q r M) [] C) (fun Q R => gr_ dq 8 Q [] R) := by
  have kL := TX_lt hT hk (show C0 4 k ≠ 0 by omega)
  obtain ⟨dp, rfl⟩ : ∃ d', dp = d' + 1 := ⟨dp - 1, by omega⟩
  obtain ⟨dq, rfl⟩ : ∃ d', dq = d' + 1 := ⟨dq - 1, by omega⟩
  have rin : ∀ (Q : Int → MM → Prop) R, SR C0 R0 E b k n q it s nr_ R → w_X12_nest (fun _ M13 => (∀ v14, v14 = M13 0 83 → ri_ v14 → (¬ v14 = 0 → w_X12_readAtom_b42 (gr_ dq) Q M13) ∧ (v14 = 0 → w_X12_advance (fun _ M17 => w_X12_readAtom_b42 (gr_ dq) Q M17) M13))) R → gr_ (dq + 1) 8 Q [] R := fun Q R hR h => by
    have ht := hR.2.1.2.2
    show b_X12_readAtom (gr_ dq) Q R
    unfold b_X12_readAtom
    exact fun v1 e1 _ => ⟨fun _ => r_kah ht (SR_K hT hR) (fun x x0 x1 xw => by omega) (fun _ _ => r_isS ht (x := 0) (by omega) (fun _ _ => ⟨fun z => absurd z (by decide), fun _ => h⟩) (fun z => absurd (by omega) z) (by decide)), fun z => by have := hR.2.2.1.1; omega⟩
  have r60F : ∀ {f pl : Int} (Q : Int → MM → Prop) R v, RF R0 b (q + 1) s f pl R → 0 < f → (∀ x R', RF R0 b q s f pl R' → Q x R') → w_X12_readAtom_b60 (gr_ dq) Q v R := fun {f pl} Q R v h f0 hq => by
    unfold w_X12_readAtom_b60
    refine r_needF (by rw [h.2.1]; exact f0) (fun v3 e3 _ => ⟨by rw [h.2.2.2.2.1] at e3; unfold ri_; omega, fun M5 e5 => hq _ M5 ?_⟩)
    have h1 := RF_93 h q
    rw [show ux_ R 0 93 q = M5 from by rw [e5, e3, h.2.2.2.2.1, Int.add_sub_cancel]] at h1
    exact h1
  by_cases q10 : q = 10
  · refine J_flt 4 (by omega) (fun C w wq Q w0 hC hq => ?_) (fun R Q hR hq => rin Q R hR ?_)
    · show b_X6_readInner c (gq_ c dp) (fun r M => (r = 0 ∨ r = 1) → Q r M) C
      unfold b_X6_readInner
      exact c_addQ hC q0 q1 (fun z => by omega) (fun _ C' hC' _ => ⟨fun z => absurd rfl z, fun _ _ => hq C' hC'⟩)
    · refine r_nest hR q0 q1 (fun z => by omega) (fun _ R1 h1 v14 e14 _ => ⟨fun _ => ?_, fun z => by have := h1.2.1; omega⟩)
      unfold w_X12_readAtom_b42
      exact fun v1 e1 _ => ⟨fun _ v3 e3 _ => r60F Q R1 v3 h1 (by omega) hq, fun z => by have := h1.2.1; omega⟩
  have q9 : q < 10 := by omega
  rcases HE q9 dp dq (k + 1) n fo s st nm nr_ sf (by omega) (by omega) kL n0 n1 s0 s1 (by omega) st0 st1 hn with ⟨k2, n2, st2, x2, P2, N2, kk, k2L, nn, n2L, ss, ⟨nlt, sb, x20, x21, hS2⟩, cO, rO⟩ | ⟨f, pl, f0, cN, rN⟩
  · by_cases hw5 : C0 4 k2 = 5
    · have kL2 := TX_lt hT k2L (show C0 4 k2 ≠ 0 by omega)
      refine Or.inl ⟨k2 + 1, n2, st2, x2, P2, N2, by omega, kL2, nn, n2L, ss, ⟨nlt, sb, x20, x21, hS2⟩, fun C w wq w0 w1 hC hP Q hq => ?_, fun R hR hN Q hq => rin Q R hR ?_⟩
      · show b_X6_readInner c (gq_ c dp) (fun r M => (r = 0 ∨ r = 1) → Q r M) C
        unfold b_X6_readInner
        refine c_addQ hC q0 q1 (fun _ C1 h1 r1 _ => ⟨fun _ => c_next hT.1 h1 hk (by omega) (fun C2 h2 r2 => cO C2 w wq w0 w1 h2 (fun j i _ _ z z2 => by omega) _ (fun C3 h3 r3 q3 _ => ⟨fun z => absurd z (by decide), fun _ => c_pass hT.1 h3 k2L (by decide) (fun _ C4 h4 r4 _ => ⟨fun _ v12 e12 _ => ⟨by rw [h4.2.2.1.2.1] at e12; unfold ri_; omega, fun M14 e14 _ => ?_⟩, fun z => absurd z (by decide)⟩) (fun z => absurd hw5 z)⟩)), fun z => absurd z (by decide)⟩) (fun z => by omega)
        have h5 := SC_nest h4 q
        rw [show ux_ C4 c 11 q = M14 from by rw [e14, e12, h4.2.2.1.2.1, Int.add_sub_cancel]] at h5
        have r5 : ∀ j, 0 < j → M14 (c + j) = C4 (c + j) := fun j j0 => by rw [e14]; exact ux_g _ _ _ (by omega)
        exact hq M14 h5 (fun j i j0 j4 hi => by rw [r5 j j0, r4 j j0, r3 j i j0 j4 hi, r2 j j0, r1 j j0]) (fun j i j0 j4 hi hi2 => by rw [r5 j j0, r4 j j0]; exact q3 j i j0 j4 hi hi2)
      · refine r_nest hR q0 q1 (fun _ R1 h1 r1 v14 e14 _ => ⟨fun z => absurd (by rw [e14]; exact h1.2.2.1.1) z, fun _ => r_next hT h1 hk (by omega) (fun R2 h2 r2 => ?_)⟩) (fun z => by omega)
        unfold w_X12_readAtom_b42
        refine fun v1 e1 _ => ⟨fun z => absurd (by rw [e1]; exact h2.2.2.1.1) z, fun _ => rO R2 h2 (fun j i _ _ z z2 => by omega) _ (fun R3 h3 r3 q3 _ => ?_)⟩
        unfold w_X12_readAtom_b60
        refine r_need hT h3 k2L (x := 1) (by omega) (by decide) (fun _ R4 h4 r4 v3 e3 _ => ⟨by rw [h4.2.2.1.2.2.2.1] at e3; unfold ri_; omega, fun M5 e5 => ?_⟩) (fun z => absurd (by omega) z)
        have h5 := SR_93 h4 q
        rw [show ux_ R4 0 93 q = M5 from by rw [e5, e3, h4.2.2.1.2.2.2.1, Int.add_sub_cancel]] at h5
        have r5 : ∀ j, j ≠ 0 → M5 j = R3 j := fun j hj => by rw [e5, ux_g _ _ _ hj, r4 j hj]
        exact hq M5 h5 (fun j i j0 j4 hi => by rw [r5 j (by omega), r3 j i j0 j4 hi, r2 j (by omega), r1 j (by omega)]) (fun j i j0 j4 hi hi2 => by rw [r5 j (by omega)]; exact q3 j i j0 j4 hi hi2)
    · refine Or.inr ⟨if C0 4 k2 = 1 then 2 else 1, C0 5 k2, flt_pos, fun C w wq w0 w1 hC hP Q hq => ?_, fun R hR hN Q hq => rin Q R hR ?_⟩
      · show b_X6_readInner c (gq_ c dp) (fun r M => (r = 0 ∨ r = 1) → Q r M) C
        unfold b_X6_readInner
        exact c_addQ hC q0 q1 (fun _ C1 h1 r1 _ => ⟨fun _ => c_next hT.1 h1 hk (by omega) (fun C2 h2 r2 => cO C2 w wq w0 w1 h2 (fun j i _ _ z z2 => by omega) _ (fun C3 h3 r3 q3 _ => ⟨fun z => absurd z (by decide), fun _ => c_pass hT.1 h3 k2L (by decide) (fun z => absurd z hw5) (fun _ C4 h4 _ => ⟨fun z => absurd rfl z, fun _ _ => hq C4 h4⟩)⟩)), fun z => absurd z (by decide)⟩) (fun z => by omega)
      · refine r_nest hR q0 q1 (fun _ R1 h1 r1 v14 e14 _ => ⟨fun z => absurd (by rw [e14]; exact h1.2.2.1.1) z, fun _ => r_next hT h1 hk (by omega) (fun R2 h2 r2 => ?_)⟩) (fun z => by omega)
        unfold w_X12_readAtom_b42
        refine fun v1 e1 _ => ⟨fun z => absurd (by rw [e1]; exact h2.2.2.1.1) z, fun _ => rO R2 h2 (fun j i _ _ z z2 => by omega) _ (fun R3 h3 r3 q3 _ => ?_)⟩
        unfold w_X12_readAtom_b60
        refine r_need hT h3 k2L (x := 1) (by omega) (by decide) (fun z => absurd (by omega) hw5) (fun _ R4 h4 v3 e3 _ => ⟨by rw [h4.2.2.2.2.1] at e3; unfold ri_; omega, fun M5 e5 => hq _ M5 ?_⟩)
        have h5 := RF_93 h4 q
        rw [show ux_ R4 0 93 q = M5 from by rw [e5, e3, h4.2.2.2.2.1, Int.add_sub_cancel]] at h5
        exact h5
  · refine Or.inr ⟨f, pl, f0, fun C w wq w0 w1 hC hP Q hq => ?_, fun R hR hN Q hq => rin Q R hR ?_⟩
    · show b_X6_readInner c (gq_ c dp) (fun r M => (r = 0 ∨ r = 1) → Q r M) C
      unfold b_X6_readInner
      exact c_addQ hC q0 q1 (fun _ C1 h1 r1 _ => ⟨fun _ => c_next hT.1 h1 hk (by omega) (fun C2 h2 r2 => cN C2 w wq w0 w1 h2 (fun j i _ _ z z2 => by omega) _ (fun C3 h3 _ => ⟨fun _ _ => hq C3 h3, fun z => absurd rfl z⟩)), fun z => absurd z (by decide)⟩) (fun z => by omega)
    · refine r_nest hR q0 q1 (fun _ R1 h1 r1 v14 e14 _ => ⟨fun z => absurd (by rw [e14]; exact h1.2.2.1.1) z, fun _ => r_next hT h1 hk (by omega) (fun R2 h2 r2 => ?_)⟩) (fun z => by omega)
      unfold w_X12_readAtom_b42
      exact fun v1 e1 _ => ⟨fun z => absurd (by rw [e1]; exact h2.2.2.1.1) z, fun _ => rN R2 h2 (fun j i _ _ z z2 => by omega) _ (fun x9 R3 h3 _ => r60F Q R3 x9 h3 f0 hq)⟩
set_option maxHeartbeats 1600000 in
theorem J_Atom (hc : Clo SM ST) (hT : TX C0 R0 E L) (hit : it = 0 ∨ it = 1) (b0 : 0 ≤ b) (b1 : b ≤ 360) (q0 : 0 ≤ q) (q1 : q ≤ 10) (HE : q < 10 → Jt c C0 R0 E L b it SM (q + 1) 0 0 14 12) (HS : q < 10 → JtS c C0 R0 E L b it ST (q + 1)) : JtA c C0 R0 E L b it SM q := by
  intro dp dq k n fo s st nm nr_ sf hdp hdq hk n0 n1 s0 s1 fq st0 st1 hn hns
  obtain ⟨dp, rfl⟩ : ∃ d', dp = d' + 1 := ⟨dp - 1, by omega⟩
  obtain ⟨dq, rfl⟩ : ∃ d', dq = d' + 1 := ⟨dq - 1, by omega⟩
  -- the class's switch
  have sw : ∀ (Q : Int → MM → Prop) C, C 1 9 = C0 4 k → (C0 4 k = 2 → w_X6_readVariable c (fun r M => (r = 0 ∨ r = 1) → Q r M) C) → (C0 4 k = 3 → w_X6_readLeaf c (fun r M => (r = 0 ∨ r = 1) → Q r M) 0 0 (C 1 11) C) → (C0 4 k = 4 → gq_ c dp 10 (fun r M => (r = 0 ∨ r = 1) → Q r M) [] C) → (C0 4 k = 33 → w_X6_readThing c (fun r M => (r = 0 ∨ r = 1) → Q r M) C) → (C0 4 k = 39 → w_X6_readLeaf c (fun r M => (r = 0 ∨ r = 1) → Q r M) 1 0 0 C) → (C0 4 k = 40 → w_X6_readLeaf c (fun r M => (r = 0 ∨ r = 1) → Q r M) 2 0 0 C) → (C0 4 k = 41 → w_X6_readLeaf c (fun r M => (r = 0 ∨ r = 1) → Q r M) 3 0 0 C) → (C0 4 k = 58 → ∀ v25, v25 = C c 13 → (v25 = 0 → w_X6_fail c (fun r M => (r = 0 ∨ r = 1) → Q r M) 3 C) ∧ (¬ v25 = 0 → w_X6_readLeaf c (fun r M => (r = 0 ∨ r = 1) → Q r M) 5 0 0 C)) → (44 ≤ C0 4 k → C0 4 k ≤ 49 → gq_ c dp 11 (fun r M => (r = 0 ∨ r = 1) → Q r M) [] C) → (C0 4 k ≠ 2 ∧ C0 4 k ≠ 3 ∧ C0 4 k ≠ 4 ∧ C0 4 k ≠ 33 ∧ C0 4 k ≠ 39 ∧ C0 4 k ≠ 40 ∧ C0 4 k ≠ 41 ∧ C0 4 k ≠ 58 ∧ ¬ (44 ≤ C0 4 k ∧ C0 4 k ≤ 53) → w_X6_refuse c (fun r M => (r = 0 ∨ r = 1) → Q r M) C) → gq_ c (dp + 1) 9 Q [] C := fun Q C h9 a2 a3 a4 a33 a39 a40 a41 a58 a44 a0 => by
    show b_X6_readAtom c (gq_ c dp) Q C
    unfold b_X6_readAtom w_X6_readAtom_b187
    refine fun v1 e1 _ => ⟨fun z => a2 (by omega), fun z v6 e6 _ => by rw [e6]; exact a3 (by omega), fun z => a4 (by omega), fun z => a33 (by omega), fun z => a39 (by omega), fun z => a40 (by omega), fun z => a41 (by omega), fun z v25 e25 _ => a58 (by omega) v25 e25, fun z v32 e32 _ => ?_⟩
    obtain ⟨z2, z3, z4, z33, z39, z40, z41, z58⟩ := z
    rw [e1, h9] at z2 z3 z4 z33 z39 z40 z41 z58
    rw [h9] at e32
    refine ⟨fun y => a0 ⟨z2, z3, z4, z33, z39, z40, z41, z58, fun u => by omega⟩, fun y v34 e34 _ => ?_⟩
    rw [h9] at e34
    exact ⟨fun y2 => a0 ⟨z2, z3, z4, z33, z39, z40, z41, z58, fun u => by omega⟩, fun y2 => a44 (by omega) (by omega)⟩
  by_cases h : C0 4 k = 2
  · -- a variable
    have rv : ∀ (Q : Int → MM → Prop) R, SR C0 R0 E b k n q it s nr_ R → w_X12_readAtom_b268 (gr_ dq) Q (-1) 0 (-1) 0 R → gr_ (dq + 1) 8 Q [] R := fun Q R hR hh => r_nameIn hR.2.2.1.1 (by have := hR.2.1.2.2; rw [h] at this; exact this) (SR_K hT hR) hh
    have hwn : nr (C0 6 k) (wdR C0 R0 k) := wd_nr hT.1 hk h
    have iff : ∀ v, 0 ≤ v → v < s → (nm v = C0 6 k ↔ nr_ v = wdR C0 R0 k) := fun v v0 v1 => nr_eq (hn v v0 v1) hwn
    by_cases hv : ∃ v, 0 ≤ v ∧ v < s ∧ nm v = C0 6 k
    · obtain ⟨v, v0, v1, v2, v3⟩ := lastM (p := fun v => nm v = C0 6 k) s.toNat (by obtain ⟨v, a, d, e⟩ := hv; exact ⟨v, a, by omega, e⟩)
      refine Out_W3 (J_leaf (G := gr_ dq) hc hT b0 b1 hk n0 n1 s0 s1 st0 st1 (by omega) 5 (sf v) 0 101 v (Or.inr (Or.inr (Or.inr (Or.inr (Or.inr (Or.inr ⟨rfl, rfl, v0, by show v < s; omega, rfl⟩))))))) (fun C w wq Q hC hh => ?_) (fun R Q hR hh => ?_)
      · refine sw Q C hC.2.1.1 (fun _ => c_var hC s0 (by omega) (fun u u0 u1 u2 u3 => ?_) (fun hno => absurd v2 (hno v v0 (by omega)))) (fun z => by omega) (fun z => by omega) (fun z => by omega) (fun z => by omega) (fun z => by omega) (fun z => by omega) (fun z => by omega) (fun z => by omega) (fun z => by omega)
        have uv : u = v := by
          by_cases lt : u < v
          · exact absurd v2 (u3 v lt (by omega))
          · by_cases gt : v < u
            · exact absurd u2 (v3 u gt (by omega))
            · omega
        rw [uv]
        exact hh
      · refine rv Q R hR (r_var hR s0 (by omega) h (fun u u0 u1 u2 u3 => ?_) (fun hno => absurd ((iff v v0 (by omega)).mp v2) (hno v v0 (by omega))))
        have uv : u = v := by
          by_cases lt : u < v
          · exact absurd ((iff v v0 (by omega)).mp v2) (u3 v lt (by omega))
          · by_cases gt : v < u
            · exact absurd ((iff u u0 u1).mpr u2) (v3 u gt (by omega))
            · omega
        rw [uv]
        have nn := tk_num hR.2.1.2.2
        unfold w_X12_readAtom_b309 w_X12_readAtom_b322 w_X12_readAtom_b340
        exact ⟨fun _ => ⟨fun z => absurd rfl z, fun _ => ⟨fun _ v1 e1 _ => ⟨fun _ => ⟨fun _ => hh, fun z => absurd rfl z⟩, fun z => absurd (nn.mp (by omega)) (by omega)⟩, fun z => by omega⟩⟩, fun z => by omega⟩
    · refine J_flt 3 (by omega) (fun C w wq Q w0 hC hq => ?_) (fun R Q hR hq => ?_)
      · refine sw Q C hC.2.1.1 (fun _ => c_var hC s0 (by omega) (fun u u0 u1 u2 u3 => absurd ⟨u, u0, u1, u2⟩ hv) (fun _ => c_fail hC (fun C' h' _ _ => hq C' h'))) (fun z => by omega) (fun z => by omega) (fun z => by omega) (fun z => by omega) (fun z => by omega) (fun z => by omega) (fun z => by omega) (fun z => by omega) (fun z => by omega)
      · refine rv Q R hR (r_var hR s0 (by omega) h (fun u u0 u1 u2 u3 => absurd ⟨u, u0, u1, (iff u u0 u1).mpr u2⟩ hv) (fun _ => ?_))
        unfold w_X12_readAtom_b309 w_X12_readAtom_b322 w_X12_readAtom_b331
        refine ⟨fun _ => ⟨fun z => absurd rfl z, fun _ => ⟨fun z => absurd rfl z, fun _ v1 e1 _ => r_fail hR (by rw [e1]; exact hR.2.1.2.1) (fun R1 h1 _ r1 o1 => ?_)⟩⟩, fun z => by omega⟩
        have e364 : ∀ A kd, w_X12_readAtom_b364 (gr_ dq) Q A kd R1 := fun A kd => by
          unfold w_X12_readAtom_b364
          exact r_nodeF h1.2.1 (by omega) h1.2.2.2.1 (fun _ v3 e3 _ => ⟨fun z => by have := h1.2.1; omega, fun _ => hq _ _ h1⟩)
        unfold w_X12_readAtom_b340
        exact fun v1 e1 _ => ⟨fun _ => ⟨fun _ => e364 _ _, fun _ => e364 _ _⟩, fun _ => e364 _ _⟩
  by_cases h3 : C0 4 k = 3
  · refine Out_W (J_leaf (G := gr_ dq) hc hT b0 b1 hk n0 n1 s0 s1 st0 st1 (by omega) 0 0 (C0 6 k) 100 (-1) (Or.inl ⟨rfl, rfl, by show wdR C0 R0 k = C0 6 k; unfold wdR; rw [if_neg (by omega), if_pos h3]⟩)) (fun C w wq Q hC hh => ?_) (fun R Q hR hh => ?_)
    · exact sw Q C hC.2.1.1 (fun z => by omega) (fun _ => by rw [hC.2.1.2.2.1]; exact hh) (fun z => by omega) (fun z => by omega) (fun z => by omega) (fun z => by omega) (fun z => by omega) (fun z => by omega) (fun z => by omega) (fun z => by omega)
    · refine r_plain hR.2.2.1.1 hR.2.1.2.2 (SR_K hT hR) (by omega) ?_
      rw [h3]
      have nn := tk_num hR.2.1.2.2
      unfold w_X12_readAtom_b309 w_X12_readAtom_b322 w_X12_readAtom_b340
      exact ⟨fun _ => ⟨fun _ v1 e1 _ => ⟨fun z => absurd (show v1 = 2 by rw [e1]; exact nn.mpr h3) z, fun _ => hh⟩, fun z => absurd z (by decide)⟩, fun z => absurd z (by decide)⟩
  by_cases h39 : C0 4 k = 39
  · refine Out_W (J_leaf (G := gr_ dq) hc hT b0 b1 hk n0 n1 s0 s1 st0 st1 (by omega) 1 0 0 8 (-1) (Or.inr (Or.inl ⟨rfl, rfl⟩))) (fun C w wq Q hC hh => ?_) (fun R Q hR hh => ?_)
    · exact sw Q C hC.2.1.1 (fun z => by omega) (fun z => by omega) (fun z => by omega) (fun z => by omega) (fun _ => hh) (fun z => by omega) (fun z => by omega) (fun z => by omega) (fun z => by omega) (fun z => by omega)
    · refine r_plain hR.2.2.1.1 hR.2.1.2.2 (SR_K hT hR) (by omega) ?_
      rw [h39]
      have nn := tk_num hR.2.1.2.2
      unfold w_X12_readAtom_b309 w_X12_readAtom_b322 w_X12_readAtom_b340
      exact ⟨fun _ => ⟨fun _ v1 e1 _ => ⟨fun _ => ⟨fun z => absurd z (by decide), fun _ => hh⟩, fun z => absurd (nn.mp (by omega)) (by omega)⟩, fun z => absurd z (by decide)⟩, fun z => absurd z (by decide)⟩
  by_cases h40 : C0 4 k = 40
  · refine Out_W (J_leaf (G := gr_ dq) hc hT b0 b1 hk n0 n1 s0 s1 st0 st1 (by omega) 2 0 0 9 (-1) (Or.inr (Or.inr (Or.inl ⟨rfl, rfl⟩)))) (fun C w wq Q hC hh => ?_) (fun R Q hR hh => ?_)
    · exact sw Q C hC.2.1.1 (fun z => by omega) (fun z => by omega) (fun z => by omega) (fun z => by omega) (fun z => by omega) (fun _ => hh) (fun z => by omega) (fun z => by omega) (fun z => by omega) (fun z => by omega)
    · refine r_plain hR.2.2.1.1 hR.2.1.2.2 (SR_K hT hR) (by omega) ?_
      rw [h40]
      have nn := tk_num hR.2.1.2.2
      unfold w_X12_readAtom_b309 w_X12_readAtom_b322 w_X12_readAtom_b340
      exact ⟨fun _ => ⟨fun _ v1 e1 _ => ⟨fun _ => ⟨fun z => absurd z (by decide), fun _ => hh⟩, fun z => absurd (nn.mp (by omega)) (by omega)⟩, fun z => absurd z (by decide)⟩, fun z => absurd z (by decide)⟩
  by_cases h41 : C0 4 k = 41
  · refine Out_W (J_leaf (G := gr_ dq) hc hT b0 b1 hk n0 n1 s0 s1 st0 st1 (by omega) 3 0 0 10 (-1) (Or.inr (Or.inr (Or.inr (Or.inl ⟨rfl, rfl⟩))))) (fun C w wq Q hC hh => ?_) (fun R Q hR hh => ?_)
    · exact sw Q C hC.2.1.1 (fun z => by omega) (fun z => by omega) (fun z => by omega) (fun z => by omega) (fun z => by omega) (fun z => by omega) (fun _ => hh) (fun z => by omega) (fun z => by omega) (fun z => by omega)
    · refine r_plain hR.2.2.1.1 hR.2.1.2.2 (SR_K hT hR) (by omega) ?_
      rw [h41]
      have nn := tk_num hR.2.1.2.2
      unfold w_X12_readAtom_b309 w_X12_readAtom_b322 w_X12_readAtom_b340
      exact ⟨fun _ => ⟨fun _ v1 e1 _ => ⟨fun _ => ⟨fun z => absurd z (by decide), fun _ => hh⟩, fun z => absurd (nn.mp (by omega)) (by omega)⟩, fun z => absurd z (by decide)⟩, fun z => absurd z (by decide)⟩
  by_cases h58 : C0 4 k = 58
  · by_cases i1 : it = 1
    · refine Out_W (J_leaf (G := gr_ dq) hc hT b0 b1 hk n0 n1 s0 s1 st0 st1 (by omega) 5 0 0 27 (-1) (Or.inr (Or.inr (Or.inr (Or.inr (Or.inr (Or.inl ⟨rfl, rfl, i1, rfl⟩))))))) (fun C w wq Q hC hh => ?_) (fun R Q hR hh => ?_)
      · exact sw Q C hC.2.1.1 (fun z => by omega) (fun z => by omega) (fun z => by omega) (fun z => by omega) (fun z => by omega) (fun z => by omega) (fun z => by omega) (fun _ v25 e25 => ⟨fun z => by have := hC.2.2.1.2.2.2.1; omega, fun _ => hh⟩) (fun z => by omega) (fun z => by omega)
      · refine r_plain hR.2.2.1.1 hR.2.1.2.2 (SR_K hT hR) (by omega) ?_
        rw [h58]
        have nn := tk_num hR.2.1.2.2
        have h95 := hR.2.2.1.2.2.2.2.2
        unfold w_X12_readAtom_b309 w_X12_readAtom_b322 w_X12_readAtom_b340
        have g : ∀ v1, v1 = R 0 80 → ri_ v1 → (¬ v1 = 2 → ((1 : Int) = 0 → w_X12_readAtom_b364 (gr_ dq) Q (-1) 101 R) ∧ (¬ (1 : Int) = 0 → w_X12_readAtom_b364 (gr_ dq) Q (-1) 27 R)) ∧ (v1 = 2 → w_X12_readAtom_b364 (gr_ dq) Q (-1) 100 R) := fun v1 e1 _ => ⟨fun _ => ⟨fun z => absurd z (by decide), fun _ => hh⟩, fun z => absurd (nn.mp (by omega)) (by omega)⟩
        exact ⟨fun z => absurd (by decide) z, fun _ v2 e2 _ => ⟨fun z => by omega, fun _ => ⟨fun _ => g, fun z => absurd z (by decide)⟩⟩⟩
    · refine J_flt 3 (by omega) (fun C w wq Q w0 hC hq => ?_) (fun R Q hR hq => ?_)
      · exact sw Q C hC.2.1.1 (fun z => by omega) (fun z => by omega) (fun z => by omega) (fun z => by omega) (fun z => by omega) (fun z => by omega) (fun z => by omega) (fun _ v25 e25 => ⟨fun _ => c_fail hC (fun C' h' _ => hq C' h'), fun z => by have := hC.2.2.1.2.2.2.1; omega⟩) (fun z => by omega) (fun z => by omega)
      · refine r_plain hR.2.2.1.1 hR.2.1.2.2 (SR_K hT hR) (by omega) ?_
        rw [h58]
        have h95 := hR.2.2.1.2.2.2.2.2
        unfold w_X12_readAtom_b309 w_X12_readAtom_b331
        refine ⟨fun z => absurd (by decide) z, fun _ v2 e2 _ => ⟨fun _ v1 e1 _ => r_fail hR (by rw [e1]; exact hR.2.1.2.1) (fun R1 h1 _ r1 o1 => ?_), fun z => by omega⟩⟩
        have e364 : ∀ A kd, w_X12_readAtom_b364 (gr_ dq) Q A kd R1 := fun A kd => by
          unfold w_X12_readAtom_b364
          exact r_nodeF h1.2.1 (by omega) h1.2.2.2.1 (fun _ v3 e3 _ => ⟨fun z => by have := h1.2.1; omega, fun _ => hq _ _ h1⟩)
        unfold w_X12_readAtom_b340
        exact fun v1 e1 _ => ⟨fun _ => ⟨fun _ => e364 _ _, fun _ => e364 _ _⟩, fun _ => e364 _ _⟩
  by_cases h4 : C0 4 k = 4
  · refine Out_W (J_inner hT b0 b1 q0 q1 HE dp (dq + 1) (by omega) (by omega) hk n0 n1 s0 s1 fq st0 st1 hn h4) (fun C w wq Q hC hh => ?_) (fun R Q hR hh => hh)
    exact sw Q C hC.2.1.1 (fun z => by omega) (fun z => by omega) (fun _ => hh) (fun z => by omega) (fun z => by omega) (fun z => by omega) (fun z => by omega) (fun z => by omega) (fun z => by omega) (fun z => by omega)
  by_cases h33 : C0 4 k = 33
  · refine Out_W (J_thing (d := dq) hc hT b0 b1 hk n0 n1 s0 s1 st0 st1 h33) (fun C w wq Q hC hh => ?_) (fun R Q hR hh => hh)
    exact sw Q C hC.2.1.1 (fun z => by omega) (fun z => by omega) (fun z => by omega) (fun _ => hh) (fun z => by omega) (fun z => by omega) (fun z => by omega) (fun z => by omega) (fun z => by omega) (fun z => by omega)
  by_cases h44 : 44 ≤ C0 4 k ∧ C0 4 k ≤ 49
  · refine Out_W2 (J_fold hc hT b0 b1 q0 q1 HE HS dp dq k n fo s st nm nr_ sf (by omega) (by omega) hk n0 n1 s0 s1 fq st0 st1 hn h44.1 h44.2) (fun C w wq Q hC hh => ?_) (fun R Q hR hh => ?_)
    · exact sw Q C hC.2.1.1 (fun z => by omega) (fun z => by omega) (fun z => by omega) (fun z => by omega) (fun z => by omega) (fun z => by omega) (fun z => by omega) (fun z => by omega) (fun _ _ => hh) (fun z => by omega)
    · have ht := hR.2.1.2.2
      show b_X12_readAtom (gr_ dq) Q R
      unfold b_X12_readAtom
      refine fun v1 e1 _ => ⟨fun _ => r_kah ht (SR_K hT hR) (fun x x0 x1 xw _ => r_isS ht (x := 0) (by omega) (fun z => by omega) (fun _ _ => ⟨fun _ => ?_, fun z => absurd rfl z⟩) (by decide)) (fun z => by omega), fun z => by have := hR.2.2.1.1; omega⟩
      have kx : kp x = C0 4 k - 31 := by unfold kp; rw [if_neg (by omega), if_neg (by omega)]; omega
      rw [kx]
      exact ⟨fun z => by omega, fun _ => ⟨fun z => by omega, fun _ => hh⟩⟩
  have ha : C0 4 k ≠ 2 ∧ C0 4 k ≠ 3 ∧ C0 4 k ≠ 4 ∧ C0 4 k ≠ 33 ∧ C0 4 k ≠ 39 ∧ C0 4 k ≠ 40 ∧ C0 4 k ≠ 41 ∧ C0 4 k ≠ 58 ∧ ¬ (44 ≤ C0 4 k ∧ C0 4 k ≤ 53) := ⟨h, h3, h4, h33, h39, h40, h41, h58, by omega⟩
  refine J_flt (if C0 4 k = 1 then 2 else 1) flt_pos (fun C w wq Q w0 hC hq => ?_) (fun R Q hR hq => ?_)
  · exact sw Q C hC.2.1.1 (fun z => absurd z h) (fun z => absurd z h3) (fun z => absurd z h4) (fun z => absurd z h33) (fun z => absurd z h39) (fun z => absurd z h40) (fun z => absurd z h41) (fun z => absurd z h58) (fun z z2 => absurd ⟨z, z2⟩ h44) (fun _ => c_refuse hC (fun C' h' _ => hq C' h'))
  · exact r_noAtom hR.2.2.1.1 hR.2.1.2.2 (SR_K hT hR) ha (r_wrong hR (fun R' h' _ v7 e7 _ => hq _ R' h'))
/-- all expressions, at every nest -/
theorem J_all (hc : Clo SM ST) (hT : TX C0 R0 E L) (hit : it = 0 ∨ it = 1) (b0 : 0 ≤ b) (b1 : b ≤ 360) : ∀ (m : Nat) (q : Int), q = 10 - m → 0 ≤ q → Jt c C0 R0 E L b it SM q 0 0 14 12 ∧ JtS c C0 R0 E L b it ST q := by
  intro m
  induction m with
  | zero =>
    intro q hq q0
    have HA : JtA c C0 R0 E L b it SM q := J_Atom hc hT hit b0 b1 q0 (by omega) (fun z => by omega) (fun z => by omega)
    have HP := J_P hc hT b0 b1 q0 (by omega) (fun z => by omega) HA
    exact ⟨J_E hc hT b0 b1 q0 (by omega) (J_Ands hc hT b0 b1 q0 (by omega) (J_Nots hc hT b0 b1 q0 (by omega) (J_Cmp hc hT b0 b1 q0 (by omega) (J_Sums hc hT b0 b1 q0 (by omega) (J_Prods hc hT b0 b1 q0 (by omega) (J_Signed hc hT b0 b1 q0 (by omega) HP)))))), J_Set hc hT b0 b1 q0 (by omega) HP⟩
  | succ m ih =>
    intro q hq q0
    obtain ⟨i1, i2⟩ := ih (q + 1) (by omega) (by omega)
    have HA : JtA c C0 R0 E L b it SM q := J_Atom hc hT hit b0 b1 q0 (by omega) (fun _ => i1) (fun _ => i2)
    have HP := J_P hc hT b0 b1 q0 (by omega) (fun _ => i1) HA
    exact ⟨J_E hc hT b0 b1 q0 (by omega) (J_Ands hc hT b0 b1 q0 (by omega) (J_Nots hc hT b0 b1 q0 (by omega) (J_Cmp hc hT b0 b1 q0 (by omega) (J_Sums hc hT b0 b1 q0 (by omega) (J_Prods hc hT b0 b1 q0 (by omega) (J_Signed hc hT b0 b1 q0 (by omega) HP)))))), J_Set hc hT b0 b1 q0 (by omega) HP⟩
