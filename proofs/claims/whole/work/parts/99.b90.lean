/-! size, kept, depth and length wait for what stands behind them -/
theorem SC_w {c : Nat} {C0 C : MM} {k : Nat} {n q fo it s w st : Int} {nm sf wq : Int → Int} (h : SC c C0 k n q fo it s w st nm sf wq C) {v : Int} (hv : v ≤ w) : SC c C0 k n q fo it s v st nm sf wq (ux_ C c 18 v) := by
  obtain ⟨hF, hW, ⟨f1, f2, f3, f4, f5, f6, f7⟩, hR, hU⟩ := id h
  have c0 := hF.1
  refine ⟨Fpc_0 hF _ (by omega), Wd_u (j := 0) hW c0 _ _, ?_, ?_, ?_⟩
  · unfold Fl
    rw [ux_s, ux_i _ _ _ (by decide), ux_i _ _ _ (by decide), ux_i _ _ _ (by decide), ux_i _ _ _ (by decide), ux_i _ _ _ (by decide), ux_i _ _ _ (by decide)]
    exact ⟨f1, f2, f3, f4, f5, rfl, f7⟩
  · unfold Rwc
    rw [ux_g _ _ _ (by omega), ux_g _ _ _ (by omega), ux_g _ _ _ (by omega)]
    exact ⟨hR.1, fun i a d => hR.2 i a (by omega)⟩
  · unfold Us
    rw [ux_i _ _ _ (by decide), ux_i _ _ _ (by decide), ux_i _ _ _ (by decide), ux_g _ _ _ (by omega)]
    exact hU
def wqn (wq : Int → Int) (w v : Int) : Int → Int := fun i => if i = w then v else wq i
theorem SC_push {c : Nat} {C0 C : MM} {k : Nat} {n q fo it s w st : Int} {nm sf wq : Int → Int} (h : SC c C0 k n q fo it s w st nm sf wq C) (v : Int) : SC c C0 k n q fo it s (w + 1) st nm sf (wqn wq w v) (ux_ (ux_ C (c + 7) w v) c 18 (w + 1)) := by
  obtain ⟨hF, hW, ⟨f1, f2, f3, f4, f5, f6, f7⟩, hR, hU⟩ := id h
  have c0 := hF.1
  refine ⟨Fpc_0 (Fpc_u hF (by omega) (by omega) _ _) _ (by omega), Wd_u (j := 0) (Wd_u hW c0 _ _ _) c0 _ _, ?_, ?_, ?_⟩
  · unfold Fl
    rw [ux_s, ux_i _ _ _ (by decide), ux_i _ _ _ (by decide), ux_i _ _ _ (by decide), ux_i _ _ _ (by decide), ux_i _ _ _ (by decide), ux_i _ _ _ (by decide), ux_g _ _ _ (by omega)]
    exact ⟨f1, f2, f3, f4, f5, rfl, f7⟩
  · unfold Rwc
    rw [ux_g _ _ _ (by omega), ux_g _ _ _ (by omega), ux_g _ _ _ (by omega), ux_g _ _ _ (by omega), ux_g _ _ _ (by omega)]
    refine ⟨hR.1, fun i a d => ?_⟩
    unfold wqn
    by_cases y : i = w
    · rw [if_pos y, y, ux_s]
    · rw [if_neg y, ux_i _ _ _ y]; exact hR.2 i a (by omega)
  · unfold Us
    rw [ux_i _ _ _ (by decide), ux_i _ _ _ (by decide), ux_i _ _ _ (by decide), ux_g _ _ _ (by omega), ux_g _ _ _ (by omega), ux_g _ _ _ (by omega)]
    exact hU
variable {c : Nat} {C0 R0 : MM} {E : Nat → Int} {L : Nat} {b it : Int} {SM ST : SMt} {q : Int}
theorem c_pop {k : Nat} {n fo s : Int} {nm sf wq : Int → Int} {G : Nat → (Int → MM → Prop) → List Int → MM → Prop} : ∀ (u t : Nat) (x1 st : Int) (C : MM) (Q : Int → MM → Prop), u < t → SC c C0 k n q fo it s (x1 + u) st nm sf wq C → 0 ≤ st → st + u ≤ 499 → 0 ≤ x1 → x1 + u ≤ 120 → (∀ C', SC c C0 k n q fo it s x1 (st + u) nm sf wq C' → (∀ j i, 0 < j → i < st → C' (c + j) i = C (c + j) i) → (∀ (j : Nat) (v : Int), 0 < j → j ≤ 4 → 0 ≤ v → v < u → C' (c + j) (st + v) = if j = 1 then wq (x1 + u - 1 - v) else 0) → Q 1 C') → jit (fun _ _ => False) (wb_X6_readP_b107 c G Q) t x1 C := by
  intro u
  induction u with
  | zero =>
    intro t x1 st C Q ht hC st0 st1 x0 x1' hq
    obtain ⟨t, rfl⟩ : ∃ t', t = t' + 1 := ⟨t - 1, by omega⟩
    show wb_X6_readP_b107 c G Q _ x1 C
    rw [wb_X6_readP_b107]
    have h18 := hC.2.2.1.2.2.2.2.2.1
    exact fun v1 e1 _ => ⟨fun _ => hq C (by rw [show st + ((0 : Nat) : Int) = st from by omega]; rw [show x1 + ((0 : Nat) : Int) = x1 from by omega] at hC; exact hC) (fun _ _ _ _ => rfl) (fun j v _ _ z z2 => by omega), fun z => by omega⟩
  | succ u ih =>
    intro t x1 st C Q ht hC st0 st1 x0 x1' hq
    obtain ⟨t, rfl⟩ : ∃ t', t = t' + 1 := ⟨t - 1, by omega⟩
    show wb_X6_readP_b107 c G Q (jit (fun _ _ => False) (wb_X6_readP_b107 c G Q) t) x1 C
    rw [wb_X6_readP_b107]
    have h18 := hC.2.2.1.2.2.2.2.2.1
    have c0 := hC.1.1
    refine fun v1 e1 _ => ⟨fun z => by omega, fun _ v3 e3 _ => ⟨by unfold ri_; omega, fun M5 e5 v6 e6 _ => ?_⟩⟩
    have hv : v3 - 1 = x1 + u := by omega
    rw [hv] at e5
    have h5 := SC_w hC (v := x1 + u) (by omega)
    rw [← e5] at h5
    have hv6 : v6 = x1 + u := by rw [e6, e5, ux_s]
    have r5 : ∀ j, 0 < j → M5 (c + j) = C (c + j) := fun j j0 => by rw [e5]; exact ux_g _ _ _ (by omega)
    refine ⟨by omega, by omega, fun v7 e7 _ => c_emit h5 st0 (by omega) (fun C1 h1 r1 u1 u2 u3 u4 _ => ih t x1 (st + 1) C1 Q (by omega) h1 (by omega) (by omega) x0 (by omega) (fun C' h2 r2 q2 => hq C' (by rw [show st + ((u + 1 : Nat) : Int) = st + 1 + u from by omega]; exact h2) (fun j i j0 hi => by rw [r2 j i j0 (by omega), r1 j i j0 (by omega), r5 j j0]) (fun j v j0 j4 hv0 hv1 => ?_)))⟩
    by_cases y : v = 0
    · subst y
      rw [show st + 0 = st from by omega, r2 j st j0 (by omega)]
      have w7 : v7 = wq (x1 + ((u + 1 : Nat) : Int) - 1 - 0) := by
        rw [e7, hv6, r5 7 (by omega), hC.2.2.2.1.2 _ (by omega) (by omega)]
        exact congrArg wq (by omega)
      have jj : j = 1 ∨ j = 2 ∨ j = 3 ∨ j = 4 := by omega
      rcases jj with rfl | rfl | rfl | rfl
      · rw [u1, w7]; rfl
      · rw [u2]; rfl
      · rw [u3]; rfl
      · rw [u4]; rfl
    · have := q2 j (v - 1) j0 j4 (by omega) (by omega)
      rw [show st + 1 + (v - 1) = st + v from by omega, show x1 + (u : Int) - 1 - (v - 1) = x1 + ((u + 1 : Nat) : Int) - 1 - v from by omega] at this
      exact this
/-- an atom that isn't one of those that wait -/
def JtA (c : Nat) (C0 R0 : MM) (E : Nat → Int) (L : Nat) (b it : Int) (SM : SMt) (q : Int) : Prop :=
  ∀ (dp dq : Nat) (k : Nat) (n fo s st : Int) (nm nr_ sf : Int → Int), 14 * (10 - q) + 6 ≤ dp → 12 * (10 - q) + 2 * (120 - n) + 4 ≤ dq → k ≤ L → 0 ≤ n → n ≤ 120 → 0 ≤ s → s ≤ fo → fo ≤ q → 0 ≤ st → st ≤ 3 * n + 30 → (∀ i, 0 ≤ i → i < s → nr (nm i) (nr_ i)) → ¬ (50 ≤ C0 4 k ∧ C0 4 k ≤ 53) →
  Out c C0 R0 E L b it k n q fo s st nm nr_ sf st (fun _ _ => 0) (b + n) (fun _ _ => 0) (fun k' n' st' x P N => n < n' ∧ SE SM b n s fo st sf it st (b + n) k' n' st' x P N) (fun Q C => gq_ c dp 9 Q [] C) (fun Q R => gr_ dq 8 Q [] R)
/-- the reference at one of those that wait -/
theorem r_sizeIn {Q : Int → MM → Prop} {R : MM} {W D : Int} {d : Nat} (h83 : R 0 83 = 0) (ht : tk R W D) (hK : Kd R) (w0 : 50 ≤ W) (w1 : W ≤ 53) (h : w_X12_node (fun r3 M4 => ri_ r3 → (∀ v5, v5 = M4 0 83 → ri_ v5 → (¬ v5 = 0 → w_X12_readAtom_b127 (gr_ d) Q r3 M4) ∧ (v5 = 0 → w_X12_advance (fun _ M8 => w_X12_readAtom_b127 (gr_ d) Q r3 M8) M4))) (W - 31) R) : gr_ (d + 1) 8 Q [] R := by
  show b_X12_readAtom (gr_ d) Q R
  unfold b_X12_readAtom
  refine fun v1 e1 _ => ⟨fun _ => r_kah ht hK (fun x x0 x1 xw _ => r_isS ht (x := 0) (by omega) (fun z => by omega) (fun _ _ => ⟨fun _ => ?_, fun z => absurd rfl z⟩) (by decide)) (fun z => by omega), fun z => by omega⟩
  have kx : kp x = W - 31 := by unfold kp; rw [if_neg (by omega), if_neg (by omega)]; omega
  rw [kx]
  refine ⟨fun z => by omega, fun _ => ⟨fun _ => ?_, fun z => by omega⟩⟩
  unfold w_X12_readAtom_b98
  exact ⟨fun z => by omega, fun _ => ⟨fun z => by omega, fun _ => h⟩⟩
set_option maxHeartbeats 3200000 in
theorem J_pL (hc : Clo SM ST) (hT : TX C0 R0 E L) (b0 : 0 ≤ b) (b1 : b ≤ 360) (q0 : 0 ≤ q) (q1 : q ≤ 10) (HE : q < 10 → Jt c C0 R0 E L b it SM (q + 1) 0 0 14 12) (HA : JtA c C0 R0 E L b it SM q) : ∀ (m dp dq k t : Nat) (n fo s st : Int) (nm nr_ sf : Int → Int) (u : Nat), 120 - n ≤ m → 14 * (10 - q) + 6 ≤ dp → 12 * (10 - q) + 2 * (120 - n) + 5 ≤ dq → k ≤ L → 0 ≤ n → n ≤ 120 → 0 ≤ s → s ≤ fo → fo ≤ q → 0 ≤ st → st + u ≤ 3 * n + 30 → (∀ i, 0 ≤ i → i < s → nr (nm i) (nr_ i)) → 122 - n ≤ t → u ≤ n →
    (∃ (k' : Nat) (n' st' x : Int) (P' : CD) (N' : MM), k ≤ k' ∧ k' ≤ L ∧ n < n' ∧ n' ≤ 120 ∧ st ≤ st' ∧ (C0 4 k' ≠ 11 ∧ C0 4 k' ≠ 6 ∧ SE SM b n s fo st sf it st (b + n) k' n' st' x P' N') ∧
      (∀ C x1 wq, 0 ≤ x1 → x1 + u ≤ n → SC c C0 k n q fo it s (x1 + u) st nm sf wq C → ∀ Q, (∀ C', SC c C0 k' n' q fo it s x1 (st' + u) nm sf wq C' → (∀ j i, 0 < j → j ≤ 4 → i < st → C' (c + j) i = C (c + j) i) → (∀ j i, 0 < j → j ≤ 4 → st ≤ i → i < st' → C' (c + j) i = P' j i) → (∀ (j : Nat) (v : Int), 0 < j → j ≤ 4 → 0 ≤ v → v < u → C' (c + j) (st' + v) = if j = 1 then wq (x1 + u - 1 - v) else 0) → Q 1 C') → jit (fun _ _ _ => False) (wb_X6_readP_b7 c (gq_ c dp) Q) t x1 u C) ∧ rOK C0 R0 E b it k n q s nr_ (b + n) (fun _ _ => 0) k' n' x N' (fun Q R => gr_ dq 7 Q [] R)) ∨
    ∃ f pl, 0 < f ∧ (∀ C x1 wq, 0 ≤ x1 → x1 + u ≤ n → SC c C0 k n q fo it s (x1 + u) st nm sf wq C → ∀ Q, (∀ C', CF c C0 f pl C' → Q 0 C') → jit (fun _ _ _ => False) (wb_X6_readP_b7 c (gq_ c dp) Q) t x1 u C) ∧ rNo C0 R0 E b it k n q s nr_ (b + n) (fun _ _ => 0) f pl (fun Q R => gr_ dq 7 Q [] R) := by
  intro m
  induction m using Nat.strongRecOn with
  | ind m ih =>
  intro dp dq k t n fo s st nm nr_ sf u hm hdp hdq hk n0 n1 s0 s1 fq st0 st1 hn ht u1
  obtain ⟨t, rfl⟩ : ∃ t', t = t' + 1 := ⟨t - 1, by omega⟩
  obtain ⟨dq, rfl⟩ : ∃ d', dq = d' + 1 := ⟨dq - 1, by omega⟩
  by_cases hw : 50 ≤ C0 4 k ∧ C0 4 k ≤ 53
  · have kL := TX_lt hT hk (show C0 4 k ≠ 0 by omega)
    obtain ⟨dq, rfl⟩ : ∃ d', dq = d' + 1 := ⟨dq - 1, by omega⟩
    have cin : ∀ (Q : Int → MM → Prop) (g : Int → Int → MM → Prop) x1 C, C 1 9 = C0 4 k → w_X6_addNode c (fun r6 M7 => (r6 = 0 ∨ r6 = 1) → (¬ r6 = 0 → (∀ v9, v9 = M7 c 18 → ri_ v9 → (∀ v10, v10 = M7 1 9 → ri_ v10 → ri_ (7 + v10) ∧ (ri_ ((7 + v10) - 50) ∧ (0 ≤ v9 ∧ v9 < 120 ∧ (∀ M13, M13 = ux_ M7 (c + 7) v9 ((7 + v10) - 50) → (∀ v14, v14 = M13 c 18 → ri_ v14 → ri_ (v14 + 1) ∧ ((∀ M16, M16 = ux_ M13 c 18 (v14 + 1) → w_X9_nextWord (fun _ M18 => ri_ ((u : Int) + 1) ∧ (g x1 (u + 1) M18)) M16))))))))) ∧ (r6 = 0 → Q 0 M7)) C → wb_X6_readP_b7 c (gq_ c dp) Q g x1 u C := fun Q g x1 C h h2 => by
      rw [wb_X6_readP_b7]
      exact ⟨fun z => by omega, fun _ v2 e2 _ => ⟨fun z => by omega, fun _ v4 e4 _ => ⟨fun z => by omega, fun _ => h2⟩⟩⟩
    by_cases n120 : n = 120
    · refine Or.inr ⟨4, C0 5 k, by omega, fun C x1 wq x0 x1' hC Q hq => ?_, fun R hR hN Q hq => ?_⟩
      · exact cin Q _ x1 C hC.2.1.1 (c_addN hC n0 n1 (fun z => by omega) (fun _ C' hC' _ => ⟨fun z => absurd rfl z, fun _ => hq C' hC'⟩))
      · show b_X12_readP (gr_ (dq + 1)) Q R
        unfold b_X12_readP w_X12_readP_b5
        refine r_sizeIn hR.2.2.1.1 hR.2.1.2.2 (SR_K hT hR) hw.1 hw.2 (r_node hR b0 b1 n0 n1 (fun z => by omega) (fun _ R1 h1 h78 r1 _ v5 e5 _ => ⟨fun _ => ?_, fun z => by have := h1.2.1; omega⟩))
        unfold w_X12_readAtom_b127
        refine z7 (by omega) h1.2.1 (by omega) h1.2.2.2.1 (fun _ => ⟨b0, by omega, fun M3 e3 _ => ⟨1, ?_⟩⟩)
        have h2 := RF_u h1 (k := 67) (by omega) (by omega) (i := b) b (by omega) (by omega)
        rw [← e3] at h2
        exact tailF (by omega) (by rw [h2.2.1]; omega) (hq _ _ h2)
    · rcases ih (m - 1) (by omega) dp dq (k + 1) t (n + 1) fo s st nm nr_ sf (u + 1) (by omega) hdp (by omega) kL (by omega) (by omega) s0 s1 fq (by omega) (by omega) hn (by omega) (by omega) with ⟨k2, n2, st2, x2, P2, N2, kk, k2L, nlt, n2L, ss, ⟨tl1, tl2, sb, x20, x21, hS2⟩, cO, rO⟩ | ⟨f, pl, f0, cN, rN⟩
      · refine Or.inl ⟨k2, n2, st2 + 1, b + n, pcat P2 st2 (pone (C0 4 k - 43) 0 0 0), ncat (nnod (C0 4 k - 31) x2 (-1) (-1) (wdR C0 R0 k)) (b + (n + 1)) N2, by omega, k2L, by omega, n2L, by omega, ⟨tl1, tl2, by omega, by omega, by omega, ?_⟩, fun C x1 wq x0 x1' hC Q hq => ?_, fun R hR hN Q hq => ?_⟩
        · have ny : ∀ j, ncat (nnod (C0 4 k - 31) x2 (-1) (-1) (wdR C0 R0 k)) (b + (n + 1)) N2 j (b + n) = nnod (C0 4 k - 31) x2 (-1) (-1) (wdR C0 R0 k) j 0 := fun j => by rw [ncat_l j (by omega)]; rfl
          refine hc.2.2.2.1 _ _ s sf fo it (b + n) st st2 (b + n) (b + n2) x2 (b + (n + 1)) (b + n2) (hc.1 _ _ _ _ _ _ _ _ _ _ _ hS2 _ _ _ _ _ (fun j i _ _ _ h => pcat_l j h) (fun j i _ _ h _ => ncat_h j h) (fun _ _ _ => rfl) (by omega) (by omega)) (Or.inl ⟨?_, ?_, ?_⟩) ?_ (by omega) (by omega) (by omega) (by omega) (by omega)
          · rw [pcat_h 1 (by omega)]; show 7 ≤ C0 4 k - 43; omega
          · rw [pcat_h 1 (by omega)]; show C0 4 k - 43 ≤ 10; omega
          · rw [ny, pcat_h 1 (by omega)]; show C0 4 k - 31 = C0 4 k - 43 + 12; omega
          · rw [ny]; rfl
        · refine cin Q _ x1 C hC.2.1.1 (c_addN hC n0 n1 (fun _ C1 h1 r1 _ => ⟨fun _ v9 e9 _ v10 e10 _ => ?_, fun z => absurd z (by decide)⟩) (fun z => by omega))
          have hv9 : v9 = x1 + u := by rw [e9]; exact h1.2.2.1.2.2.2.2.2.1
          have hv10 : v10 = C0 4 k := by rw [e10]; exact h1.2.1.1
          refine ⟨by unfold ri_; omega, by unfold ri_; omega, by omega, by omega, fun M13 e13 v14 e14 _ => ?_⟩
          have hv14 : v14 = x1 + u := by rw [e14, e13, ux_c _ _ _ _ (by omega)]; exact h1.2.2.1.2.2.2.2.2.1
          refine ⟨by unfold ri_; omega, fun M16 e16 => ?_⟩
          have h2 := SC_push h1 (7 + v10 - 50)
          rw [hv9] at e13
          rw [hv14] at e16
          rw [← e13, ← e16] at h2
          have r2 : ∀ j, 0 < j → j ≤ 4 → M16 (c + j) = C (c + j) := fun j j0 j4 => by rw [e16, ux_g _ _ _ (by omega), e13, ux_g _ _ _ (by omega), r1 j j0]
          refine c_next hT.1 h2 hk (by omega) (fun C3 h3 r3 => ⟨by unfold ri_; omega, ?_⟩)
          have := cO C3 x1 (wqn wq (x1 + u) (7 + v10 - 50)) x0 (by omega) (by rw [show x1 + ((u + 1 : Nat) : Int) = x1 + u + 1 from by omega]; exact h3) Q (fun C' a1 a2 a3 a4 => hq C' ?_ (fun j i j0 j4 hi => by rw [a2 j i j0 j4 hi, r3 j j0, r2 j j0 j4]) (fun j i j0 j4 hi hi2 => ?_) (fun j v j0 j4 v0 v1 => ?_))
          · rw [show ((u + 1 : Nat) : Int) = (u : Int) + 1 from by omega] at this; exact this
          · obtain ⟨y1, y2, y3, y4, y5⟩ := a1
            refine ⟨y1, y2, by rw [show st2 + 1 + (u : Int) = st2 + ((u + 1 : Nat) : Int) from by omega]; exact y3, ⟨y4.1, fun i i0 i1 => ?_⟩, by rw [show st2 + 1 + (u : Int) = st2 + ((u + 1 : Nat) : Int) from by omega]; exact y5⟩
            rw [y4.2 i i0 i1]; unfold wqn; rw [if_neg (by omega)]
          · by_cases y : i < st2
            · rw [pcat_l j y]; exact a3 j i j0 j4 hi y
            · have := a4 j 0 j0 j4 (by omega) (by omega)
              rw [show st2 + 0 = i from by omega] at this
              rw [this, pcat_h j (by omega)]
              have e : wqn wq (x1 + u) (7 + v10 - 50) (x1 + ((u + 1 : Nat) : Int) - 1 - 0) = C0 4 k - 43 := by unfold wqn; rw [if_pos (by omega)]; omega
              rw [e]
              have jj : j = 1 ∨ j = 2 ∨ j = 3 ∨ j = 4 := by omega
              rcases jj with rfl | rfl | rfl | rfl <;> rfl
          · have := a4 j (v + 1) j0 j4 (by omega) (by omega)
            rw [show st2 + (v + 1) = st2 + 1 + v from by omega] at this
            rw [this]
            have e : wqn wq (x1 + u) (7 + v10 - 50) (x1 + ((u + 1 : Nat) : Int) - 1 - (v + 1)) = wq (x1 + u - 1 - v) := by unfold wqn; rw [if_neg (by omega)]; exact congrArg wq (by omega)
            rw [e]
        · show b_X12_readP (gr_ (dq + 1)) Q R
          unfold b_X12_readP w_X12_readP_b5
          refine r_sizeIn hR.2.2.1.1 hR.2.1.2.2 (SR_K hT hR) hw.1 hw.2 (r_node hR b0 b1 n0 n1 (fun _ R1 h1 r1 r71 g66 g67 g68 g69 g70 g0 _ v5 e5 _ => ⟨fun z => absurd (by rw [e5]; exact h1.2.2.1.1) z, fun _ => r_next hT h1 hk (by omega) (fun R2 h2 r2 => ?_)⟩) (fun z => by omega))
          unfold w_X12_readAtom_b127
          refine rO R2 h2 (fun j i _ _ z z2 => by omega) _ (fun R3 h3 r3 q3 _ => ⟨by omega, by omega, fun M3 e3 _ => ⟨1, ?_⟩⟩)
          have h4 := SR_u h3 (j := 67) (by omega) (by omega) (i := b + n) x2 (by omega) (by omega)
          rw [← e3] at h4
          have lowr : ∀ j i, 66 ≤ j → j ≤ 70 → i < b + n → M3 j i = R j i := fun j i j0 j4 hi => by
            have a1 : M3 j i = R3 j i := by rw [e3]; unfold ux_; rw [if_neg (by omega)]
            rw [a1, r3 j i j0 j4 (by omega), r2 j (by omega), r1 j (by omega) i (by omega)]
          have fin : Q (b + n) M3 := by
            refine hq M3 h4 (fun j i j0 j4 hi => lowr j i j0 j4 (by omega)) (fun j i j0 j4 hi hi2 => ?_)
            by_cases y2 : i = b + n
            · subst y2
              rw [ncat_l j (by omega)]
              have mo : ∀ j, 66 ≤ j → j ≤ 70 → j ≠ 67 → M3 j (b + n) = R1 j (b + n) := fun j a d e => by rw [e3, ux_c _ _ _ _ e, r3 j _ a d (by omega), r2 j (by omega)]
              exact nnod_of (by rw [mo 66 (by omega) (by omega) (by omega), g66]) (by rw [e3, ux_s]) (by rw [mo 68 (by omega) (by omega) (by omega), g68]) (by rw [mo 69 (by omega) (by omega) (by omega), g69]) (by rw [mo 70 (by omega) (by omega) (by omega), g70, SR_wd hR (by omega)]) j0 j4 _
            · have a1 : M3 j i = R3 j i := by rw [e3]; unfold ux_; rw [if_neg (by omega)]
              rw [a1, ncat_h j (by omega)]
              exact q3 j i j0 j4 (by omega) (by omega)
          show wb_X12_readP_b5 (gr_ (dq + 1)) Q _ (b + n) M3
          rw [wb_X12_readP_b5]
          have tt := h4.2.1.2.2
          exact fun v1 e1 _ => ⟨fun z => absurd (by rw [e1]; exact h4.2.2.1.1) z, fun _ => r_isS tt (x := 7) (by omega) (fun z => absurd (by omega) tl1) (fun _ _ => ⟨fun z => absurd rfl z, fun _ => r_isS tt (x := 2) (by omega) (fun z => absurd (by omega) tl2) (fun _ _ => ⟨fun _ => fin, fun z => absurd rfl z⟩) (by decide)⟩) (by decide)⟩
      · refine Or.inr ⟨f, pl, f0, fun C x1 wq x0 x1' hC Q hq => ?_, fun R hR hN Q hq => ?_⟩
        · refine cin Q _ x1 C hC.2.1.1 (c_addN hC n0 n1 (fun _ C1 h1 r1 _ => ⟨fun _ v9 e9 _ v10 e10 _ => ?_, fun z => absurd z (by decide)⟩) (fun z => by omega))
          have hv9 : v9 = x1 + u := by rw [e9]; exact h1.2.2.1.2.2.2.2.2.1
          have hv10 : v10 = C0 4 k := by rw [e10]; exact h1.2.1.1
          refine ⟨by unfold ri_; omega, by unfold ri_; omega, by omega, by omega, fun M13 e13 v14 e14 _ => ?_⟩
          have hv14 : v14 = x1 + u := by rw [e14, e13, ux_c _ _ _ _ (by omega)]; exact h1.2.2.1.2.2.2.2.2.1
          refine ⟨by unfold ri_; omega, fun M16 e16 => ?_⟩
          have h2 := SC_push h1 (7 + v10 - 50)
          rw [hv9] at e13
          rw [hv14] at e16
          rw [← e13, ← e16] at h2
          refine c_next hT.1 h2 hk (by omega) (fun C3 h3 r3 => ⟨by unfold ri_; omega, ?_⟩)
          have := cN C3 x1 (wqn wq (x1 + u) (7 + v10 - 50)) x0 (by omega) (by rw [show x1 + ((u + 1 : Nat) : Int) = x1 + u + 1 from by omega]; exact h3) Q hq
          rw [show ((u + 1 : Nat) : Int) = (u : Int) + 1 from by omega] at this; exact this
        · show b_X12_readP (gr_ (dq + 1)) Q R
          unfold b_X12_readP w_X12_readP_b5
          refine r_sizeIn hR.2.2.1.1 hR.2.1.2.2 (SR_K hT hR) hw.1 hw.2 (r_node hR b0 b1 n0 n1 (fun _ R1 h1 r1 r71 g66 g67 g68 g69 g70 g0 _ v5 e5 _ => ⟨fun z => absurd (by rw [e5]; exact h1.2.2.1.1) z, fun _ => r_next hT h1 hk (by omega) (fun R2 h2 r2 => ?_)⟩) (fun z => by omega))
          unfold w_X12_readAtom_b127
          refine rN R2 h2 (fun j i _ _ z z2 => by omega) _ (fun x9 R3 h3 _ => ⟨by omega, by omega, fun M3 e3 _ => ⟨1, ?_⟩⟩)
          have h4 := RF_u h3 (k := 67) (by omega) (by omega) (i := b + n) x9 (by omega) (by omega)
          rw [← e3] at h4
          exact tailF (by omega) (by rw [h4.2.1]; exact f0) (hq _ _ h4)
  · have cin : ∀ (Q : Int → MM → Prop) (g : Int → Int → MM → Prop) x1 C, C 1 9 = C0 4 k → w_X6_readP_b91 c (gq_ c dp) Q x1 C → wb_X6_readP_b7 c (gq_ c dp) Q g x1 u C := fun Q g x1 C h h2 => by
      rw [wb_X6_readP_b7]
      exact ⟨fun z => by omega, fun _ v2 e2 _ => ⟨fun _ => h2, fun _ v4 e4 _ => ⟨fun _ => h2, fun z => by omega⟩⟩⟩
    rcases HA dp dq k n fo s st nm nr_ sf hdp (by omega) hk n0 n1 s0 s1 fq st0 (by omega) hn hw with ⟨k2, n2, st2, x2, P2, N2, kk, k2L, nn, n2L, ss, ⟨nlt, sb, x20, x21, hS2⟩, cO, rO⟩ | ⟨f, pl, f0, cN, rN⟩
    · obtain ⟨dp, rfl⟩ : ∃ d', dp = d' + 1 := ⟨dp - 1, by omega⟩
      rcases J_tailL hc hT b0 b1 q0 q1 HE 120 dp dq k2 200 n2 fo s st2 nm nr_ sf st P2 (b + n) x2 N2 0 (by omega) (by omega) (by omega) k2L (by omega) n2L s0 s1 fq (by omega) (by omega) hn (by omega) (by omega) (by omega) (by omega) (by omega) (by omega) x20 x21 hS2 with ⟨k3, n3, st3, x3, P3, N3, kk3, k3L, nn3, n3L, ss3, ⟨tl1, tl2, sb3, x30, x31, hS3⟩, cO3, rO3⟩ | ⟨f, pl, f0, cN, rN⟩
      · refine Or.inl ⟨k3, n3, st3, x3, P3, N3, by omega, k3L, by omega, n3L, by omega, ⟨tl1, tl2, by omega, x30, x31, hS3⟩, fun C x1 wq x0 x1' hC Q hq => cin Q _ x1 C hC.2.1.1 ?_, fun R hR hN Q hq => ?_⟩
        · unfold w_X6_readP_b91
          refine cO C _ wq (by omega) x1' hC (fun j i _ _ z z2 => by omega) _ (fun C1 h1 r1 q1 _ => ⟨fun z => absurd z (by decide), fun _ => ?_⟩)
          show b_X6_readTail c (gq_ c dp) _ C1
          unfold b_X6_readTail w_X6_readTail_b2
          refine ⟨200, cO3 C1 _ wq (by omega) (by omega) h1 q1 _ (fun C2 h2 r2 q2 _ => ⟨fun _ => ?_, fun z => absurd z (by decide)⟩)⟩
          unfold w_X6_readP_b107
          refine ⟨200, c_pop u 200 x1 st3 C2 Q (by omega) h2 (by omega) (by omega) x0 (by omega) (fun C' a1 a2 a3 => hq C' a1 (fun j i j0 j4 hi => by rw [a2 j i j0 (by omega), r2 j i j0 j4 hi, r1 j i j0 j4 hi]) (fun j i j0 j4 hi hi2 => by rw [a2 j i j0 hi2]; exact q2 j i j0 j4 hi hi2) a3)⟩
        · show b_X12_readP (gr_ dq) Q R
          unfold b_X12_readP w_X12_readP_b5
          exact rO R hR hN _ (fun R1 h1 r1 q1 _ => ⟨200, rO3 R1 h1 q1 Q (fun R' a1 a2 a3 => hq R' a1 (fun j i j0 j4 hi => by rw [a2 j i j0 j4 hi, r1 j i j0 j4 hi]) a3)⟩)
      · refine Or.inr ⟨f, pl, f0, fun C x1 wq x0 x1' hC Q hq => cin Q _ x1 C hC.2.1.1 ?_, fun R hR hN Q hq => ?_⟩
        · unfold w_X6_readP_b91
          refine cO C _ wq (by omega) x1' hC (fun j i _ _ z z2 => by omega) _ (fun C1 h1 r1 q1 _ => ⟨fun z => absurd z (by decide), fun _ => ?_⟩)
          show b_X6_readTail c (gq_ c dp) _ C1
          unfold b_X6_readTail w_X6_readTail_b2
          exact ⟨200, cN C1 _ wq (by omega) (by omega) h1 q1 _ (fun C2 h2 _ => ⟨fun z => absurd rfl z, fun _ => hq C2 h2⟩)⟩
        · show b_X12_readP (gr_ dq) Q R
          unfold b_X12_readP w_X12_readP_b5
          exact rO R hR hN _ (fun R1 h1 r1 q1 _ => ⟨200, rN R1 h1 q1 Q hq⟩)
    · refine Or.inr ⟨f, pl, f0, fun C x1 wq x0 x1' hC Q hq => cin Q _ x1 C hC.2.1.1 ?_, fun R hR hN Q hq => ?_⟩
      · unfold w_X6_readP_b91
        exact cN C _ wq (by omega) x1' hC (fun j i _ _ z z2 => by omega) _ (fun C1 h1 _ => ⟨fun _ => hq C1 h1, fun z => absurd rfl z⟩)
      · show b_X12_readP (gr_ dq) Q R
        unfold b_X12_readP w_X12_readP_b5
        exact rN R hR hN _ (fun x9 R1 h1 _ => ⟨1, tailF (by omega) (by rw [h1.2.1]; exact f0) (hq _ _ h1)⟩)
theorem J_P (hc : Clo SM ST) (hT : TX C0 R0 E L) (b0 : 0 ≤ b) (b1 : b ≤ 360) (q0 : 0 ≤ q) (q1 : q ≤ 10) (HE : q < 10 → Jt c C0 R0 E L b it SM (q + 1) 0 0 14 12) (HA : JtA c C0 R0 E L b it SM q) : Jt c C0 R0 E L b it SM q 7 7 7 5 := by
  intro dp dq k n fo s st nm nr_ sf hdp hdq hk n0 n1 s0 s1 fq st0 st1 hn
  obtain ⟨dp, rfl⟩ : ∃ d', dp = d' + 1 := ⟨dp - 1, by omega⟩
  rcases J_pL hc hT b0 b1 q0 q1 HE HA 120 dp dq k 200 n fo s st nm nr_ sf 0 (by omega) (by omega) hdq hk n0 n1 s0 s1 fq st0 (by omega) hn (by omega) (by omega) with ⟨k2, n2, st2, x2, P2, N2, kk, k2L, nlt, n2L, ss, ⟨tl1, tl2, hS2⟩, cO, rO⟩ | ⟨f, pl, f0, cN, rN⟩
  · refine Or.inl ⟨k2, n2, st2, x2, P2, N2, kk, k2L, by omega, n2L, ss, ⟨nlt, hS2⟩, fun C w wq w0 w1 hC hP Q hq => ?_, rO⟩
    show b_X6_readP c (gq_ c dp) Q C
    unfold b_X6_readP w_X6_readP_b7
    intro v1 e1 _
    have hv : v1 = w := by rw [e1]; exact hC.2.2.1.2.2.2.2.2.1
    rw [hv]
    exact ⟨200, cO C w wq w0 (by omega) (by rw [show w + ((0 : Nat) : Int) = w from by omega]; exact hC) Q (fun C' a1 a2 a3 a4 => hq C' (by rw [show st2 + ((0 : Nat) : Int) = st2 from by omega] at a1; exact a1) a2 a3)⟩
  · refine Or.inr ⟨f, pl, f0, fun C w wq w0 w1 hC hP Q hq => ?_, rN⟩
    show b_X6_readP c (gq_ c dp) Q C
    unfold b_X6_readP w_X6_readP_b7
    intro v1 e1 _
    have hv : v1 = w := by rw [e1]; exact hC.2.2.1.2.2.2.2.2.1
    rw [hv]
    exact ⟨200, cN C w wq w0 (by omega) (by rw [show w + ((0 : Nat) : Int) = w from by omega]; exact hC) Q hq⟩
