/-! a fold behind its head -/
variable {c : Nat} {C0 R0 : MM} {E : Nat → Int} {L : Nat} {b it : Int} {SM ST : SMt} {q : Int}
def fdK (c : Nat) (Q : Int → MM → Prop) : Int → MM → Prop := fun r36 M37 => (r36 = 0 ∨ r36 = 1) → (¬ r36 = 0 → (∀ v39, v39 = M37 c 16 → ri_ v39 → ri_ (v39 - 1) ∧ ((∀ M41, M41 = ux_ M37 c 16 (v39 - 1) → (∀ v42, v42 = M41 c 12 → ri_ v42 → ri_ (v42 - 1) ∧ ((∀ M44, M44 = ux_ M41 c 12 (v42 - 1) → (∀ v45, v45 = M44 c 11 → ri_ v45 → ri_ (v45 - 1) ∧ ((∀ M47, M47 = ux_ M44 c 11 (v45 - 1) → Q 1 M47)))))))))) ∧ (r36 = 0 → Q 0 M37)
theorem fdK_0 {Q : Int → MM → Prop} {M : MM} (h : Q 0 M) : fdK c Q 0 M := fun _ => ⟨fun z => absurd rfl z, fun _ => h⟩
theorem fdK_1 {Q : Int → MM → Prop} {M : MM} {k : Nat} {n fo s w st D o : Int} {nm sf wq : Int → Int} (h : SC c C0 k n (q + 1) (fo + 1) it (s + 1) w st (scn nm s D) (scn sf s o) wq M) (q0 : 0 ≤ q) (q1 : q ≤ 10) (f0 : 0 ≤ fo) (f1 : fo ≤ 10) (s0 : 0 ≤ s) (s1 : s ≤ 10) (hq : ∀ M', SC c C0 k n q fo it s w st nm sf wq M' → (∀ j, 0 < j → M' (c + j) = M (c + j)) → Q 1 M') : fdK c Q 1 M := by
  refine fun _ => ⟨fun _ v39 e39 _ => ?_, fun z => absurd z (by decide)⟩
  have a1 : v39 = s + 1 := by rw [e39]; exact h.2.2.1.2.2.2.2.1
  refine ⟨by unfold ri_; omega, fun M41 e41 v42 e42 _ => ?_⟩
  have h1 := SC_unscope h
  rw [show ux_ M c 16 s = M41 from by rw [e41, a1, Int.add_sub_cancel]] at h1
  have a2 : v42 = fo + 1 := by rw [e42]; exact h1.2.2.1.2.2.1
  refine ⟨by unfold ri_; omega, fun M44 e44 v45 e45 _ => ?_⟩
  have h2 := SC_folds h1 fo
  rw [show ux_ M41 c 12 fo = M44 from by rw [e44, a2, Int.add_sub_cancel]] at h2
  have a3 : v45 = q + 1 := by rw [e45]; exact h2.2.2.1.2.1
  refine ⟨by unfold ri_; omega, fun M47 e47 => ?_⟩
  have h3 := SC_nest h2 q
  rw [show ux_ M44 c 11 q = M47 from by rw [e47, a3, Int.add_sub_cancel]] at h3
  exact hq M47 h3 (fun j j0 => by rw [e47, ux_g _ _ _ (by omega), e44, ux_g _ _ _ (by omega), e41, ux_g _ _ _ (by omega)])
set_option maxHeartbeats 3200000 in
theorem J_fold (hc : Clo SM ST) (hT : TX C0 R0 E L) (b0 : 0 ≤ b) (b1 : b ≤ 360) (q0 : 0 ≤ q) (q1 : q ≤ 10) (HE : q < 10 → Jt c C0 R0 E L b it SM (q + 1) 0 0 14 12) (HS : q < 10 → JtS c C0 R0 E L b it ST (q + 1)) (dp dq : Nat) (k : Nat) (n fo s st : Int) (nm nr_ sf : Int → Int) (hdp : 14 * (10 - q) + 5 ≤ dp) (hdq : 12 * (10 - q) + 2 * (120 - n) + 3 ≤ dq) (hk : k ≤ L) (n0 : 0 ≤ n) (n1 : n ≤ 120) (s0 : 0 ≤ s) (s1 : s ≤ fo) (fq : fo ≤ q) (st0 : 0 ≤ st) (st1 : st ≤ 3 * n + 30) (hn : ∀ i, 0 ≤ i → i < s → nr (nm i) (nr_ i)) (hw0 : 44 ≤ C0 4 k) (hw1 : C0 4 k ≤ 49) :
    Out c C0 R0 E L b it k n q fo s st nm nr_ sf st (fun _ _ => 0) (b + n) (fun _ _ => 0) (fun k' n' st' x P N => n < n' ∧ SE SM b n s fo st sf it st (b + n) k' n' st' x P N) (fun Q C => gq_ c dp 11 Q [] C) (fun Q R => gr_ dq 9 Q [C0 4 k - 31] R) := by
  obtain ⟨d1, rfl⟩ : ∃ d', dp = d' + 1 := ⟨dp - 1, by omega⟩
  obtain ⟨d2, rfl⟩ : ∃ d', d1 = d' + 1 := ⟨d1 - 1, by omega⟩
  obtain ⟨e1, rfl⟩ : ∃ d', dq = d' + 1 := ⟨dq - 1, by omega⟩
  rcases J_head (c := c) (it := it) (st := st) (nm := nm) (nr_ := nr_) (sf := sf) hT b0 b1 q0 q1 (d2 + 1) e1 (by omega) hk n0 n1 s0 s1 fq hw0 hw1 with ⟨q9, n119, kL, hw2, hC1, hR1⟩ | ⟨f, pl, f0, cN, rN⟩
  rotate_left
  · exact Or.inr ⟨f, pl, f0, fun C w wq w0 w1 hC hP Q hq => cN C w wq hC Q hq, fun R hR hN Q hq => rN R hR Q hq⟩
  have kL2 : k + 2 ≤ L := by omega
  obtain ⟨D2, hD2⟩ : ∃ D2, D2 = C0 6 ((k + 2 : Nat) : Int) := ⟨_, rfl⟩
  obtain ⟨W2, hW2⟩ : ∃ W2, W2 = wdR C0 R0 (k + 2) := ⟨_, rfl⟩
  have hnr : nr D2 W2 := by rw [hD2, hW2]; exact wd_nr hT.1 kL2 hw2
  rw [← hD2] at hC1
  rw [← hW2] at hR1
  have hwk : wdR C0 R0 k = wdR C0 R0 k := rfl
  generalize hkd : C0 4 k = kd at *
  have hn' : ∀ i, 0 ≤ i → i < s + 1 → nr (scn nm s D2 i) (scn nr_ s W2 i) := fun i i0 i1 => by
    unfold scn
    by_cases y : i = s
    · rw [if_pos y, if_pos y]; exact hnr
    · rw [if_neg y, if_neg y]; exact hn i i0 (by omega)
  -- the class behind its head, up to the set
  have cA : ∀ C w wq, SC c C0 k n q fo it s w st nm sf wq C → ∀ Q, (∀ C8, SC c C0 (k + 4) (n + 1) (q + 1) (fo + 1) it s w (st + 1) nm sf wq C8 → (∀ j i, 0 < j → i ≠ st → C8 (c + j) i = C (c + j) i) → (∀ j, 0 < j → j ≤ 4 → C8 (c + j) st = pone 6 (fo + 1) 0 kd j 0) → gq_ c (d2 + 1) 13 (fun r26 M27 => (r26 = 0 ∨ r26 = 1) → (¬ r26 = 0 → (∀ v29, v29 = M27 c 16 → ri_ v29 → 0 ≤ v29 ∧ v29 < 10 ∧ (∀ M30, M30 = ux_ M27 (c + 5) v29 D2 → (∀ v31, v31 = M30 c 16 → ri_ v31 → 0 ≤ v31 ∧ v31 < 10 ∧ (∀ M32, M32 = ux_ M30 (c + 6) v31 (fo + 1) → (∀ v33, v33 = M32 c 16 → ri_ v33 → ri_ (v33 + 1) ∧ ((∀ M35, M35 = ux_ M32 c 16 (v33 + 1) → gq_ c (d2 + 1) 12 (fdK c Q) [kd, fo + 1] M35)))))))) ∧ (r26 = 0 → Q 0 M27)) [fo + 1] C8) → gq_ c (d2 + 1 + 1) 11 Q [] C := fun C w wq hC Q hq => by
    refine hC1 C w wq hC Q (fun C6 h6 r6 v13 e13 v20 e20 _ => ?_)
    have hv20 : v20 = fo := by rw [e20]; exact h6.2.2.1.2.2.1
    refine ⟨by unfold ri_; omega, fun M22 e22 v23 e23 _ => ?_⟩
    have h7 := SC_folds h6 (fo + 1)
    rw [show ux_ C6 c 12 (fo + 1) = M22 from by rw [e22, hv20]] at h7
    have hv23 : v23 = fo + 1 := by rw [e23]; exact h7.2.2.1.2.2.1
    have r7 : ∀ j, 0 < j → M22 (c + j) = C (c + j) := fun j j0 => by rw [e22, ux_g _ _ _ (by omega), r6 j j0]
    rw [hv23, e13]
    exact c_emit h7 st0 (by omega) (fun C8 h8 r8 u1 u2 u3 u4 _ => hq C8 h8 (fun j i j0 hi => by rw [r8 j i j0 hi, r7 j j0]) (fun j j0 j4 => pone_of u1 u2 u3 u4 j0 j4 0))
  rcases HS q9 (d2 + 1) e1 (k + 4) (n + 1) (fo + 1) s (st + 1) nm nr_ sf (by omega) (by omega) kL (by omega) (by omega) s0 (by omega) (by omega) (by omega) (by omega) hn with ⟨k5, n5, st5, x5, P5, N5, kk5, k5L, nn5, n5L, ss5, ⟨nlt5, sb5, x50, x51, hS5⟩, cO5, rO5⟩ | ⟨f, pl, f0, cN, rN⟩
  rotate_left
  · refine Or.inr ⟨f, pl, f0, fun C w wq w0 w1 hC hP Q hq => ?_, fun R hR hN Q hq => ?_⟩
    · exact cA C w wq hC Q (fun C8 h8 r8 u8 => cN C8 w wq w0 (by omega) h8 (fun j i _ _ z z2 => by omega) _ (fun C9 h9 _ => ⟨fun z => absurd rfl z, fun _ => hq C9 h9⟩))
    · refine hR1 R hR Q (fun R4 h4 r4 g66 g67 g68 g69 g70 => ?_)
      unfold w_X12_readFold_b82
      refine rN R4 h4 (fun j i _ _ z z2 => by omega) _ (fun x9 R5 h5 _ => ⟨by omega, by omega, fun M3 e3 v4 e4 _ => ?_⟩)
      have h6 := RF_u h5 (k := 67) (by omega) (by omega) (i := b + n) x9 (by omega) (by omega)
      rw [← e3] at h6
      have hv4 : v4 = s := by rw [e4]; exact h6.2.2.2.2.2
      refine ⟨by omega, by omega, fun M5 e5 v6 e6 _ => ?_⟩
      have h7 := RF_71 h6 v4 W2
      rw [← e5] at h7
      have hv6 : v6 = s := by rw [e6]; exact h7.2.2.2.2.2
      refine ⟨by unfold ri_; omega, fun M8 e8 => ?_⟩
      have h8 := RF_94 h7 (s + 1)
      rw [show ux_ M5 0 94 (s + 1) = M8 from by rw [e8, hv6]] at h8
      exact r_takeF (by rw [h8.2.1]; exact f0) (fun _ => ⟨fun _ => r_f130F h8 f0 q0 q1 s0 (by omega) (by omega) (by omega) b0 b1 (fun R' h => hq _ R' h), fun z => absurd rfl z⟩)
  -- .. up to the body
  have cB : ∀ C w wq, 0 ≤ w → w ≤ n → SC c C0 k n q fo it s w st nm sf wq C → ∀ Q, (∀ C13, SC c C0 k5 n5 (q + 1) (fo + 1) it (s + 1) w (st5 + 1) (scn nm s D2) (scn sf s (fo + 1)) wq C13 → (∀ j i, 0 < j → j ≤ 4 → i < st → C13 (c + j) i = C (c + j) i) → (∀ j i, 0 < j → j ≤ 4 → st ≤ i → i < st5 → C13 (c + j) i = pcat (pone 6 (fo + 1) 0 kd) (st + 1) P5 j i) → (∀ j, 0 < j → j ≤ 4 → C13 (c + j) st5 = pone 36 (fo + 1) 0 0 j 0) → gq_ c d2 14 (fun r3 M4 => (r3 = 0 ∨ r3 = 1) → (¬ r3 = 0 → bdC c d2 kd (fun M => w_X6_readFoldBody_b44 c (gq_ c d2) (fdK c Q) kd (fo + 1) st5 M) (fdK c Q) M4) ∧ (r3 = 0 → fdK c Q 0 M4)) [st5] C13) → gq_ c (d2 + 1 + 1) 11 Q [] C := fun C w wq w0 w1 hC Q hq => by
    refine cA C w wq hC Q (fun C8 h8 r8 u8 => cO5 C8 w wq w0 (by omega) h8 (fun j i _ _ z z2 => by omega) _ (fun C9 h9 r9 q9' _ => ⟨fun _ v29 e29 _ => ?_, fun z => absurd z (by decide)⟩))
    have a1 : v29 = s := by rw [e29]; exact h9.2.2.1.2.2.2.2.1
    have c0 := h9.1.1
    refine ⟨by omega, by omega, fun M30 e30 v31 e31 _ => ?_⟩
    have a2 : v31 = s := by rw [e31, e30, ux_c _ _ _ _ (by omega)]; exact h9.2.2.1.2.2.2.2.1
    refine ⟨by omega, by omega, fun M32 e32 v33 e33 _ => ?_⟩
    have a3 : v33 = s := by rw [e33, e32, ux_c _ _ _ _ (by omega), e30, ux_c _ _ _ _ (by omega)]; exact h9.2.2.1.2.2.2.2.1
    refine ⟨by unfold ri_; omega, fun M35 e35 => ?_⟩
    have h12 := SC_scope h9 D2 (fo + 1)
    rw [show ux_ (ux_ (ux_ C9 (c + 5) s D2) (c + 6) s (fo + 1)) c 16 (s + 1) = M35 from by rw [e35, e32, e30, a1, a2, a3]] at h12
    have r12 : ∀ j, 0 < j → j ≤ 4 → M35 (c + j) = C9 (c + j) := fun j j0 j4 => by rw [e35, ux_g _ _ _ (by omega), e32, ux_g _ _ _ (by omega), e30, ux_g _ _ _ (by omega)]
    show b_X6_readFoldBody c (gq_ c d2) (fdK c Q) kd (fo + 1) M35
    unfold b_X6_readFoldBody
    refine c_emit h12 (by omega) (by omega) (fun C13 h13 r13 u1 u2 u3 u4 _ => hq C13 h13 (fun j i j0 j4 hi => by rw [r13 j i j0 (by omega), r12 j j0 j4, r9 j i j0 j4 (by omega), r8 j i j0 (by omega)]) (fun j i j0 j4 hi hi2 => ?_) (fun j j0 j4 => pone_of u1 u2 u3 u4 j0 j4 0))
    rw [r13 j i j0 (by omega), r12 j j0 j4]
    by_cases y : i = st
    · subst y
      rw [pcat_l j (by omega), r9 j i j0 j4 (by omega)]
      exact u8 j j0 j4
    · rw [pcat_h j (by omega)]
      exact q9' j i j0 j4 (by omega) hi2
  -- the reference, behind the set
  have rB : ∀ R, SR C0 R0 E b k n q it s nr_ R → ∀ Q, (∀ R8, SR C0 R0 E b k5 n5 (q + 1) it (s + 1) (scn nr_ s W2) R8 → (∀ j i, 66 ≤ j → j ≤ 70 → i < b + n → R8 j i = R j i) → R8 66 (b + n) = kd - 31 → R8 67 (b + n) = x5 → R8 68 (b + n) = -1 → R8 69 (b + n) = -1 → R8 70 (b + n) = wdR C0 R0 k → (∀ j i, 66 ≤ j → j ≤ 70 → b + (n + 1) ≤ i → i < b + n5 → R8 j i = N5 j i) → whR e1 (b + n) (fun M => bdR e1 (kd - 31) (b + n) (fun M => w_X12_readFold_b164 (gr_ e1) Q (b + n) M) M) R8) → gr_ (e1 + 1) 9 Q [kd - 31] R := fun R hR Q hq => by
    refine hR1 R hR Q (fun R4 h4 r4 g66 g67 g68 g69 g70 => ?_)
    unfold w_X12_readFold_b82
    refine rO5 R4 h4 (fun j i _ _ z z2 => by omega) _ (fun R5 h5 r5 q5 _ => ⟨by omega, by omega, fun M3 e3 v4 e4 _ => ?_⟩)
    have h6 := SR_u h5 (j := 67) (by omega) (by omega) (i := b + n) x5 (by omega) (by omega)
    rw [← e3] at h6
    have hv4 : v4 = s := by rw [e4]; exact h6.2.2.1.2.2.2.2.1
    refine ⟨by omega, by omega, fun M5 e5 v6 e6 _ => ?_⟩
    have hv6 : v6 = s := by rw [e6, e5, ux_c _ _ _ _ (by decide)]; exact h6.2.2.1.2.2.2.2.1
    refine ⟨by unfold ri_; omega, fun M8 e8 => ?_⟩
    have h8 := SR_scope h6 W2
    rw [show ux_ (ux_ M3 71 s W2) 0 94 (s + 1) = M8 from by rw [e8, e5, hv6, hv4]] at h8
    have r8 : ∀ j, 66 ≤ j → j ≤ 70 → M8 j = M3 j := fun j a d => by rw [e8, ux_g _ _ _ (by omega), e5, ux_g _ _ _ (by omega)]
    have m3 : ∀ j i, ¬ (j = 67 ∧ i = b + n) → M3 j i = R5 j i := fun j i hne => by rw [e3]; unfold ux_; rw [if_neg hne]
    refine hq M8 h8 (fun j i j0 j4 hi => by rw [r8 j j0 j4, m3 j i (by omega), r5 j i j0 j4 (by omega), r4 j i j0 j4 (by omega)]) ?_ ?_ ?_ ?_ ?_ (fun j i j0 j4 hi hi2 => by rw [r8 j j0 j4, m3 j i (by omega)]; exact q5 j i j0 j4 hi hi2)
    · rw [r8 66 (by omega) (by omega), m3 66 _ (by omega), r5 66 _ (by omega) (by omega) (by omega), g66]
    · rw [r8 67 (by omega) (by omega), e3, ux_s]
    · rw [r8 68 (by omega) (by omega), m3 68 _ (by omega), r5 68 _ (by omega) (by omega) (by omega), g68]
    · rw [r8 69 (by omega) (by omega), m3 69 _ (by omega), r5 69 _ (by omega) (by omega) (by omega), g69]
    · rw [r8 70 (by omega) (by omega), m3 70 _ (by omega), r5 70 _ (by omega) (by omega) (by omega), g70]
  rcases J_wh (c := c) (it := it) hc.1 hT b0 b1 (q := q + 1) (by omega) (by omega) (HE q9) d2 e1 k5 n5 (fo + 1) (s + 1) (st5 + 1) (scn nm s D2) (scn nr_ s W2) (scn sf s (fo + 1)) st5 (b + n) (by omega) (by omega) k5L (by omega) n5L (by omega) (by omega) (by omega) (by omega) (by omega) hn' (by omega) (by omega) with ⟨k6, n6, st6, xw, P6, N6, kk6, k6L, nn6, n6L, ss6, sb6, hx6, cO6, rO6⟩ | ⟨f, pl, f0, cN, rN⟩
  rotate_left
  · refine Or.inr ⟨f, pl, f0, fun C w wq w0 w1 hC hP Q hq => ?_, fun R hR hN Q hq => ?_⟩
    · exact cB C w wq w0 w1 hC Q (fun C13 h13 _ _ _ => cN C13 w wq w0 (by omega) h13 _ (fun C14 h14 _ => ⟨fun z => absurd rfl z, fun _ => fdK_0 (hq C14 h14)⟩))
    · exact rB R hR Q (fun R8 h8 _ _ _ g68 _ _ _ => rN R8 h8 _ (fun R9 h9 => r_f130F h9 f0 q0 q1 s0 (by omega) (by omega) (by omega) b0 b1 (fun R' h => hq _ R' h)))
  rcases J_bd (c := c) (it := it) (SM := SM) hT b0 b1 (q := q + 1) (by omega) (by omega) (HE q9) d2 e1 k6 n6 (fo + 1) (s + 1) st6 (scn nm s D2) (scn nr_ s W2) (scn sf s (fo + 1)) kd (b + n) hw0 (by omega) (by omega) k6L (by omega) n6L (by omega) (by omega) (by omega) (by omega) (by omega) hn' (by omega) (by omega) with ⟨k7, n7, st7, xb, P7, N7, kk7, k7L, nn7, n7L, ss7, sb7, hx7, cO7, rO7⟩ | ⟨f, pl, f0, cN, rN⟩
  rotate_left
  · refine Or.inr ⟨f, pl, f0, fun C w wq w0 w1 hC hP Q hq => ?_, fun R hR hN Q hq => ?_⟩
    · exact cB C w wq w0 w1 hC Q (fun C13 h13 _ _ _ => cO6 C13 w wq w0 (by omega) h13 _ (fun C14 h14 _ _ _ => ⟨fun _ => cN C14 w wq w0 (by omega) h14 _ _ (fun C15 h15 => fdK_0 (hq C15 h15)), fun z => absurd z (by decide)⟩))
    · exact rB R hR Q (fun R8 h8 _ _ _ g68 _ _ _ => rO6 R8 h8 g68 _ (fun R9 h9 _ _ _ => rN R9 h9 _ (fun R10 h10 => r_f164F h10 f0 q0 q1 s0 (by omega) (fun R' h => hq _ R' h))))
  by_cases hw5 : C0 4 k7 = 5
  rotate_left
  · refine Or.inr ⟨if C0 4 k7 = 1 then 2 else 1, C0 5 k7, flt_pos, fun C w wq w0 w1 hC hP Q hq => ?_, fun R hR hN Q hq => ?_⟩
    · refine cB C w wq w0 w1 hC Q (fun C13 h13 _ _ _ => cO6 C13 w wq w0 (by omega) h13 _ (fun C14 h14 _ _ _ => ⟨fun _ => cO7 C14 w wq w0 (by omega) h14 _ _ (fun C15 h15 r15 q15 => ?_), fun z => absurd z (by decide)⟩))
      unfold w_X6_readFoldBody_b44
      exact c_emit h15 (by omega) (by omega) (fun C16 h16 r16 u1 u2 u3 u4 _ v3 e3 _ => ⟨by omega, by omega, fun M4 e4 => c_emit (show SC c C0 k7 n7 (q + 1) (fo + 1) it (s + 1) w (st7 + 1) (scn nm s D2) (scn sf s (fo + 1)) wq M4 from by rw [e4]; exact SC_tgt h16 _ _) (by omega) (by omega) (fun C18 h18 r18 t1 t2 t3 t4 _ => c_pass hT.1 h18 k7L (by decide) (fun z => absurd z hw5) (fun _ C19 h19 _ => fdK_0 (hq C19 h19)))⟩)
    · refine rB R hR Q (fun R8 h8 _ _ _ g68 _ _ _ => rO6 R8 h8 g68 _ (fun R9 h9 _ _ _ => rO7 R9 h9 _ (fun R10 h10 _ _ _ _ => ?_)))
      unfold w_X12_readFold_b164
      refine r_need hT h10 k7L (x := 1) (by omega) (by decide) (fun z => absurd (by omega) hw5) (fun _ R11 h11 v3 e3 _ => ⟨by rw [h11.2.2.2.2.2] at e3; unfold ri_; omega, fun M5 e5 v6 e6 _ => ?_⟩)
      have h12 := RF_94 h11 s
      rw [show ux_ R11 0 94 s = M5 from by rw [e5, e3, h11.2.2.2.2.2, Int.add_sub_cancel]] at h12
      refine ⟨by rw [h12.2.2.2.2.1] at e6; unfold ri_; omega, fun M8 e8 => hq _ M8 ?_⟩
      have h13 := RF_93 h12 q
      rw [show ux_ M5 0 93 q = M8 from by rw [e8, e6, h12.2.2.2.2.1, Int.add_sub_cancel]] at h13
      exact h13
  have k8L := TX_lt hT k7L (show C0 4 k7 ≠ 0 by omega)
  obtain ⟨PF, hPF⟩ : ∃ PF : CD, PF = pcat (pcat (pone 6 (fo + 1) 0 kd) (st + 1) P5) st5 (pcat (pone 36 (fo + 1) (st7 + 1) 0) (st5 + 1) (pcat P6 st6 (pcat P7 st7 (pcat (pone 38 (fo + 1) st5 kd) (st7 + 1) (pone 39 (fo + 1) 0 kd))))) := ⟨_, rfl⟩
  obtain ⟨NF, hNF⟩ : ∃ NF : MM, NF = ncat (nnod (kd - 31) x5 xw (if kd = 44 then -1 else xb) (wdR C0 R0 k)) (b + (n + 1)) (ncat N5 (b + n5) (ncat N6 (b + n6) N7)) := ⟨_, rfl⟩
  have pa : ∀ j i, i < st5 → PF j i = pcat (pone 6 (fo + 1) 0 kd) (st + 1) P5 j i := fun j i h => by rw [hPF, pcat_l j h]
  have pb : ∀ j, PF j st5 = pone 36 (fo + 1) (st7 + 1) 0 j 0 := fun j => by rw [hPF, pcat_h j (by omega), pcat_l j (by omega)]; rfl
  have pc' : ∀ j i, st5 + 1 ≤ i → i < st6 → PF j i = P6 j i := fun j i h h2 => by rw [hPF, pcat_h j (by omega), pcat_h j h, pcat_l j h2]
  have pd : ∀ j i, st6 ≤ i → i < st7 → PF j i = P7 j i := fun j i h h2 => by rw [hPF, pcat_h j (by omega), pcat_h j (by omega), pcat_h j h, pcat_l j h2]
  have pe : ∀ j, PF j st7 = pone 38 (fo + 1) st5 kd j 0 := fun j => by rw [hPF, pcat_h j (by omega), pcat_h j (by omega), pcat_h j (by omega), pcat_h j (by omega), pcat_l j (by omega)]; rfl
  have pf : ∀ j, PF j (st7 + 1) = pone 39 (fo + 1) 0 kd j 0 := fun j => by rw [hPF, pcat_h j (by omega), pcat_h j (by omega), pcat_h j (by omega), pcat_h j (by omega), pcat_h j (by omega)]; rfl
  have ny : ∀ j, NF j (b + n) = nnod (kd - 31) x5 xw (if kd = 44 then -1 else xb) (wdR C0 R0 k) j 0 := fun j => by rw [hNF, ncat_l j (by omega)]; rfl
  have n5' : ∀ j i, b + (n + 1) ≤ i → i < b + n5 → NF j i = N5 j i := fun j i h h2 => by rw [hNF, ncat_h j h, ncat_l j h2]
  have n6' : ∀ j i, b + n5 ≤ i → i < b + n6 → NF j i = N6 j i := fun j i h h2 => by rw [hNF, ncat_h j (by omega), ncat_h j h, ncat_l j h2]
  have n7' : ∀ j i, b + n6 ≤ i → i < b + n7 → NF j i = N7 j i := fun j i h h2 => by rw [hNF, ncat_h j (by omega), ncat_h j (by omega), ncat_h j h]
  have hSF : SM PF NF s sf fo it (b + n) st (st7 + 2) (b + n) (b + n7) := by
    refine hc.2.2.2.2.2.2.2 PF NF s sf fo it (b + n) st st5 st6 st7 (b + n) (b + n7) (b + (n + 1)) (b + n5) (b + n5) (b + n6) (b + n6) (b + n7) kd ?_ s0 s1 (by omega) hw0 hw1 ?_ ?_ ?_ ?_ ?_ ?_ ?_ ?_ ?_ ?_ ?_ ?_ ?_ ?_ ?_ ?_ (by omega) (by omega) (by omega) (by omega) (by omega) (by omega) (by omega) (by omega) (by omega) (by omega) (by omega) (by omega)
    · rw [ny]
      exact hc.2.1 _ _ _ _ _ _ _ _ _ _ _ hS5 _ _ _ _ _ (fun j i _ _ h h2 => by rw [pa j i h2, pcat_h j h]) (fun j i _ _ h h2 => n5' j i h h2) (fun _ _ _ => rfl) (by omega) (by omega)
    · rw [ny]; rfl
    · rw [pa 1 st (by omega), pcat_l 1 (by omega)]; rfl
    · rw [pa 2 st (by omega), pcat_l 2 (by omega)]; rfl
    · rw [pa 4 st (by omega), pcat_l 4 (by omega)]; rfl
    · rw [pb]; rfl
    · rw [pb]; rfl
    · rw [pb]; rfl
    · rw [ny]
      rcases hx6 with ⟨a1, a2⟩ | ⟨a1, a2, a3, a4, a5⟩
      · exact Or.inl ⟨a1, a2⟩
      · refine Or.inr ⟨by show 0 ≤ xw; omega, by rw [pc' 1 _ (by omega) (by omega)]; exact a3, by rw [pc' 3 _ (by omega) (by omega)]; exact a4, ?_⟩
        exact hc.1 _ _ _ _ _ _ _ _ _ _ _ a5 _ _ _ _ _ (fun j i _ _ h h2 => pc' j i h (by omega)) (fun j i _ _ h h2 => n6' j i h h2) (fun _ _ _ => rfl) (by omega) (by omega)
    · rw [ny]
      rcases hx7 with ⟨a1, a2⟩ | ⟨a1, a5⟩
      · exact Or.inl ⟨a1, a2⟩
      · refine Or.inr ⟨a1, ?_⟩
        show SM PF NF (s + 1) (scn sf s (fo + 1)) (fo + 1) it (if kd = 44 then -1 else xb) st6 st7 (b + n6) (b + n7)
        rw [if_neg a1]
        exact hc.1 _ _ _ _ _ _ _ _ _ _ _ a5 _ _ _ _ _ (fun j i _ _ h h2 => pd j i h h2) (fun j i _ _ h h2 => n7' j i h h2) (fun _ _ _ => rfl) (by omega) (by omega)
    · rw [pe]; rfl
    · rw [pe]; rfl
    · rw [pe]; rfl
    · rw [pe]; rfl
    · rw [pf]; rfl
    · rw [pf]; rfl
    · rw [pf]; rfl
  refine Or.inl ⟨k7 + 1, n7, st7 + 2, b + n, PF, NF, by omega, k8L, by omega, n7L, by omega, ⟨by omega, by omega, by omega, by omega, hSF⟩, fun C w wq w0 w1 hC hP Q hq => ?_, fun R hR hN Q hq => ?_⟩
  · refine cB C w wq w0 w1 hC Q (fun C13 h13 r13 q13 u13 => cO6 C13 w wq w0 (by omega) h13 _ (fun C14 h14 r14 q14 _ => ⟨fun _ => cO7 C14 w wq w0 (by omega) h14 _ _ (fun C15 h15 r15 q15 => ?_), fun z => absurd z (by decide)⟩))
    unfold w_X6_readFoldBody_b44
    refine c_emit h15 (by omega) (by omega) (fun C16 h16 r16 u1 u2 u3 u4 _ v3 e3 _ => ⟨by omega, by omega, fun M4 e4 => c_emit (show SC c C0 k7 n7 (q + 1) (fo + 1) it (s + 1) w (st7 + 1) (scn nm s D2) (scn sf s (fo + 1)) wq M4 from by rw [e4]; exact SC_tgt h16 _ _) (by omega) (by omega) (fun C18 h18 r18 t1 t2 t3 t4 _ => c_pass hT.1 h18 k7L (by decide) (fun _ C19 h19 r19 _ => fdK_1 h19 q0 q1 (by omega) (by omega) s0 (by omega) (fun T hT' rT => ?_)) (fun z => absurd hw5 z))⟩)
    have hv3 : v3 = st7 + 1 := by rw [e3]; exact h16.2.2.1.2.2.2.2.2.2
    have t18 : ∀ j i, 0 < j → i ≠ st7 + 1 → i ≠ st5 → T (c + j) i = C16 (c + j) i := fun j i j0 a d => by
      have a1 : M4 (c + j) i = C16 (c + j) i := by rw [e4]; unfold ux_; rw [if_neg (fun y => d y.2)]
      rw [rT j j0, r19 j j0, r18 j i j0 a, a1]
    have t15 : ∀ j i, 0 < j → i < st7 → i ≠ st5 → T (c + j) i = C15 (c + j) i := fun j i j0 a d => by rw [t18 j i j0 (by omega) d, r16 j i j0 (by omega)]
    have t14 : ∀ j i, 0 < j → j ≤ 4 → i < st6 → i ≠ st5 → T (c + j) i = C14 (c + j) i := fun j i j0 j4 a d => by rw [t15 j i j0 (by omega) d, r15 j i j0 j4 a]
    have t13 : ∀ j i, 0 < j → j ≤ 4 → i < st5 → T (c + j) i = C13 (c + j) i := fun j i j0 j4 a => by rw [t14 j i j0 j4 (by omega) (by omega), r14 j i j0 j4 (by omega)]
    refine hq T (by rw [show st7 + 2 = st7 + 1 + 1 from by omega]; exact hT') (fun j i j0 j4 hi => by rw [t13 j i j0 j4 (by omega), r13 j i j0 j4 hi]) (fun j i j0 j4 hi hi2 => ?_)
    by_cases y1 : i < st5
    · rw [t13 j i j0 j4 y1, pa j i y1]; exact q13 j i j0 j4 hi y1
    · by_cases y2 : i = st5
      · subst y2
        rw [pb]
        by_cases j3 : j = 3
        · subst j3
          rw [rT 3 (by omega), r19 3 (by omega), r18 3 i (by omega) (by omega), e4, ux_s, hv3]; rfl
        · have a1 : T (c + j) i = C13 (c + j) i := by rw [rT j j0, r19 j j0, r18 j i j0 (by omega), e4, ux_c _ _ _ _ (by omega), r16 j i j0 (by omega), r15 j i j0 j4 (by omega), r14 j i j0 j4 (by omega)]
          rw [a1, u13 j j0 j4]
          have jj : j = 1 ∨ j = 2 ∨ j = 4 := by omega
          rcases jj with rfl | rfl | rfl <;> rfl
      · by_cases y3 : i < st6
        · rw [t14 j i j0 j4 y3 y2, pc' j i (by omega) y3]; exact q14 j i j0 j4 (by omega) y3
        · by_cases y4 : i < st7
          · rw [t15 j i j0 y4 y2, pd j i (by omega) y4]; exact q15 j i j0 j4 (by omega) y4
          · by_cases y5 : i = st7
            · subst y5
              rw [t18 j i j0 (by omega) y2, pe]
              exact pone_of u1 u2 u3 u4 j0 j4 0
            · have y6 : i = st7 + 1 := by omega
              subst y6
              rw [rT j j0, r19 j j0, pf]
              exact pone_of t1 t2 t3 t4 j0 j4 0
  · refine rB R hR Q (fun R8 h8 r8 g66 g67 g68 g69 g70 q8 => rO6 R8 h8 g68 _ (fun R9 h9 r9 g9 q9' => rO7 R9 h9 _ (fun R10 h10 r10 a44 b44 q10 => ?_)))
    unfold w_X12_readFold_b164
    refine r_need hT h10 k7L (x := 1) (by omega) (by decide) (fun _ R11 h11 r11 v3 e3 _ => ⟨by rw [h11.2.2.1.2.2.2.2.1] at e3; unfold ri_; omega, fun M5 e5 v6 e6 _ => ?_⟩) (fun z => absurd (by omega) z)
    have h12 := SR_unscope h11
    rw [show ux_ R11 0 94 s = M5 from by rw [e5, e3, h11.2.2.1.2.2.2.2.1, Int.add_sub_cancel]] at h12
    refine ⟨by rw [h12.2.2.1.2.2.2.1] at e6; unfold ri_; omega, fun T e8 => ?_⟩
    have h13 := SR_93 h12 q
    rw [show ux_ M5 0 93 q = T from by rw [e8, e6, h12.2.2.1.2.2.2.1, Int.add_sub_cancel]] at h13
    have rT : ∀ j, j ≠ 0 → T j = R10 j := fun j hj => by rw [e8, ux_g _ _ _ hj, e5, ux_g _ _ _ hj, r11 j hj]
    have t9 : ∀ j i, 66 ≤ j → j ≤ 70 → i < b + n6 → ¬ (j = 69 ∧ i = b + n) → T j i = R9 j i := fun j i j0 j4 a d => by rw [rT j (by omega), r10 j i j0 j4 a d]
    have t8 : ∀ j i, 66 ≤ j → j ≤ 70 → i < b + n5 → ¬ (j = 69 ∧ i = b + n) → ¬ (j = 68 ∧ i = b + n) → T j i = R8 j i := fun j i j0 j4 a d e => by rw [t9 j i j0 j4 (by omega) d, r9 j i j0 j4 a e]
    refine hq T h13 (fun j i j0 j4 hi => by rw [t8 j i j0 j4 (by omega) (by omega) (by omega), r8 j i j0 j4 hi]) (fun j i j0 j4 hi hi2 => ?_)
    by_cases y1 : i = b + n
    · subst y1
      rw [ny]
      refine nnod_of ?_ ?_ ?_ ?_ ?_ j0 j4 0
      · rw [t8 66 _ (by omega) (by omega) (by omega) (by omega) (by omega), g66]
      · rw [t8 67 _ (by omega) (by omega) (by omega) (by omega) (by omega), g67]
      · rw [t9 68 _ (by omega) (by omega) (by omega) (by omega), g9]
      · rw [rT 69 (by omega)]
        by_cases z : kd = 44
        · rw [if_pos z, b44 z, r9 69 _ (by omega) (by omega) (by omega) (by omega), g69]
        · rw [if_neg z, a44 z]
      · rw [t8 70 _ (by omega) (by omega) (by omega) (by omega) (by omega), g70]
    · by_cases y2 : i < b + n5
      · rw [t8 j i j0 j4 y2 (by omega) (by omega), n5' j i (by omega) y2]; exact q8 j i j0 j4 (by omega) y2
      · by_cases y3 : i < b + n6
        · rw [t9 j i j0 j4 y3 (by omega), n6' j i (by omega) y3]; exact q9' j i j0 j4 (by omega) y3
        · rw [rT j (by omega), n7' j i (by omega) hi2]; exact q10 j i j0 j4 (by omega) hi2
