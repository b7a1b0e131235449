/-! expressions over their parts -/
variable {c : Nat} {C0 R0 : MM} {E : Nat → Int} {L : Nat} {b it : Int} {SM ST : SMt} {q : Int}
theorem J_Prods (hc : Clo SM ST) (hT : TX C0 R0 E L) (b0 : 0 ≤ b) (b1 : b ≤ 360) (q0 : 0 ≤ q) (q1 : q ≤ 10) (HS : Jt c C0 R0 E L b it SM q 6 6 8 6) : Jt c C0 R0 E L b it SM q 5 5 9 7 := by
  intro dp dq k n fo s st nm nr_ sf hdp hdq hk n0 n1 s0 s1 fq st0 st1 hn
  obtain ⟨dp, rfl⟩ : ∃ d', dp = d' + 1 := ⟨dp - 1, by omega⟩
  obtain ⟨dq, rfl⟩ : ∃ d', dq = d' + 1 := ⟨dq - 1, by omega⟩
  rcases HS dp dq k n fo s st nm nr_ sf (by omega) (by omega) hk n0 n1 s0 s1 fq st0 st1 hn with ⟨k2, n2, st2, x2, P2, N2, kk, k2L, nn, n2L, ss, ⟨nlt, sb, x20, x21, hS2⟩, cO, rO⟩ | ⟨f, pl, f0, cN, rN⟩
  · rcases J_ari 6 6 8 6 (fun W => 17 ≤ W ∧ W ≤ 19) dp dq (wb_X6_readProducts_b11 c (gq_ c dp)) (wb_X12_readProduct_b5 (gr_ dq)) (fun W h => by omega) proC1 proC0 proR1 proR0 proRF (fun Q R f h83 f0 h91 h => z6 (by omega) h83 f0 h91 h) hc hT b0 b1 q0 q1 HS 120 k2 200 n2 fo s st2 nm nr_ sf st P2 (b + n) x2 N2 0 (by omega) (by omega) (by omega) k2L (by omega) n2L s0 s1 fq (by omega) (by omega) hn (by omega) (by omega) (by omega) (by omega) (by omega) (by omega) x20 x21 hS2 with ⟨k3, n3, st3, x3, P3, N3, kk3, k3L, nn3, n3L, ss3, ⟨sb3, x30, x31, hS3⟩, cO3, rO3⟩ | ⟨f, pl, f0, cN, rN⟩
    · refine Or.inl ⟨k3, n3, st3, x3, P3, N3, by omega, k3L, by omega, n3L, by omega, ⟨by omega, by omega, x30, x31, hS3⟩, fun C w wq w0 w1 hC hP Q hq => ?_, fun R hR hN Q hq => ?_⟩
      · show b_X6_readProducts c (gq_ c dp) Q C
        unfold b_X6_readProducts w_X6_readProducts_b11
        exact cO C w wq w0 w1 hC hP _ (fun C1 h1 r1 q1 _ => ⟨fun _ => ⟨200, cO3 C1 w wq w0 (by omega) h1 q1 Q (fun C' a1 a2 a3 => hq C' a1 (fun j i j0 j4 hi => by rw [a2 j i j0 j4 hi, r1 j i j0 j4 hi]) a3)⟩, fun z => absurd z (by decide)⟩)
      · show b_X12_readProduct (gr_ dq) Q R
        unfold b_X12_readProduct w_X12_readProduct_b5
        exact rO R hR hN _ (fun R1 h1 r1 q1 _ => ⟨200, rO3 R1 h1 q1 Q (fun R' a1 a2 a3 => hq R' a1 (fun j i j0 j4 hi => by rw [a2 j i j0 j4 hi, r1 j i j0 j4 hi]) a3)⟩)
    · refine Or.inr ⟨f, pl, f0, fun C w wq w0 w1 hC hP Q hq => ?_, fun R hR hN Q hq => ?_⟩
      · show b_X6_readProducts c (gq_ c dp) Q C
        unfold b_X6_readProducts w_X6_readProducts_b11
        exact cO C w wq w0 w1 hC hP _ (fun C1 h1 r1 q1 _ => ⟨fun _ => ⟨200, cN C1 w wq w0 (by omega) h1 q1 Q hq⟩, fun z => absurd z (by decide)⟩)
      · show b_X12_readProduct (gr_ dq) Q R
        unfold b_X12_readProduct w_X12_readProduct_b5
        exact rO R hR hN _ (fun R1 h1 r1 q1 _ => ⟨200, rN R1 h1 q1 Q hq⟩)
  · refine Or.inr ⟨f, pl, f0, fun C w wq w0 w1 hC hP Q hq => ?_, fun R hR hN Q hq => ?_⟩
    · show b_X6_readProducts c (gq_ c dp) Q C
      unfold b_X6_readProducts
      exact cN C w wq w0 w1 hC hP _ (fun C1 h1 _ => ⟨fun z => absurd rfl z, fun _ => hq C1 h1⟩)
    · show b_X12_readProduct (gr_ dq) Q R
      unfold b_X12_readProduct w_X12_readProduct_b5
      refine rN R hR hN _ (fun x R1 h1 _ => ⟨1, ?_⟩)
      show wb_X12_readProduct_b5 (gr_ dq) Q _ x R1
      rw [wb_X12_readProduct_b5]
      exact fun v1 e1 _ => ⟨fun _ => hq x R1 h1, fun z => by have := h1.2.1; omega⟩
theorem J_Sums (hc : Clo SM ST) (hT : TX C0 R0 E L) (b0 : 0 ≤ b) (b1 : b ≤ 360) (q0 : 0 ≤ q) (q1 : q ≤ 10) (HS : Jt c C0 R0 E L b it SM q 5 5 9 7) : Jt c C0 R0 E L b it SM q 4 4 10 8 := by
  intro dp dq k n fo s st nm nr_ sf hdp hdq hk n0 n1 s0 s1 fq st0 st1 hn
  obtain ⟨dp, rfl⟩ : ∃ d', dp = d' + 1 := ⟨dp - 1, by omega⟩
  obtain ⟨dq, rfl⟩ : ∃ d', dq = d' + 1 := ⟨dq - 1, by omega⟩
  rcases HS dp dq k n fo s st nm nr_ sf (by omega) (by omega) hk n0 n1 s0 s1 fq st0 st1 hn with ⟨k2, n2, st2, x2, P2, N2, kk, k2L, nn, n2L, ss, ⟨nlt, sb, x20, x21, hS2⟩, cO, rO⟩ | ⟨f, pl, f0, cN, rN⟩
  · rcases J_ari 5 5 9 7 (fun W => W = 15 ∨ W = 16) dp dq (wb_X6_readSums_b11 c (gq_ c dp)) (wb_X12_readSum_b5 (gr_ dq)) (fun W h => by omega) sumC1 sumC0 sumR1 sumR0 sumRF (fun Q R f h83 f0 h91 h => z5 (by omega) h83 f0 h91 h) hc hT b0 b1 q0 q1 HS 120 k2 200 n2 fo s st2 nm nr_ sf st P2 (b + n) x2 N2 0 (by omega) (by omega) (by omega) k2L (by omega) n2L s0 s1 fq (by omega) (by omega) hn (by omega) (by omega) (by omega) (by omega) (by omega) (by omega) x20 x21 hS2 with ⟨k3, n3, st3, x3, P3, N3, kk3, k3L, nn3, n3L, ss3, ⟨sb3, x30, x31, hS3⟩, cO3, rO3⟩ | ⟨f, pl, f0, cN, rN⟩
    · refine Or.inl ⟨k3, n3, st3, x3, P3, N3, by omega, k3L, by omega, n3L, by omega, ⟨by omega, by omega, x30, x31, hS3⟩, fun C w wq w0 w1 hC hP Q hq => ?_, fun R hR hN Q hq => ?_⟩
      · show b_X6_readSums c (gq_ c dp) Q C
        unfold b_X6_readSums w_X6_readSums_b11
        exact cO C w wq w0 w1 hC hP _ (fun C1 h1 r1 q1 _ => ⟨fun _ => ⟨200, cO3 C1 w wq w0 (by omega) h1 q1 Q (fun C' a1 a2 a3 => hq C' a1 (fun j i j0 j4 hi => by rw [a2 j i j0 j4 hi, r1 j i j0 j4 hi]) a3)⟩, fun z => absurd z (by decide)⟩)
      · show b_X12_readSum (gr_ dq) Q R
        unfold b_X12_readSum w_X12_readSum_b5
        exact rO R hR hN _ (fun R1 h1 r1 q1 _ => ⟨200, rO3 R1 h1 q1 Q (fun R' a1 a2 a3 => hq R' a1 (fun j i j0 j4 hi => by rw [a2 j i j0 j4 hi, r1 j i j0 j4 hi]) a3)⟩)
    · refine Or.inr ⟨f, pl, f0, fun C w wq w0 w1 hC hP Q hq => ?_, fun R hR hN Q hq => ?_⟩
      · show b_X6_readSums c (gq_ c dp) Q C
        unfold b_X6_readSums w_X6_readSums_b11
        exact cO C w wq w0 w1 hC hP _ (fun C1 h1 r1 q1 _ => ⟨fun _ => ⟨200, cN C1 w wq w0 (by omega) h1 q1 Q hq⟩, fun z => absurd z (by decide)⟩)
      · show b_X12_readSum (gr_ dq) Q R
        unfold b_X12_readSum w_X12_readSum_b5
        exact rO R hR hN _ (fun R1 h1 r1 q1 _ => ⟨200, rN R1 h1 q1 Q hq⟩)
  · refine Or.inr ⟨f, pl, f0, fun C w wq w0 w1 hC hP Q hq => ?_, fun R hR hN Q hq => ?_⟩
    · show b_X6_readSums c (gq_ c dp) Q C
      unfold b_X6_readSums
      exact cN C w wq w0 w1 hC hP _ (fun C1 h1 _ => ⟨fun z => absurd rfl z, fun _ => hq C1 h1⟩)
    · show b_X12_readSum (gr_ dq) Q R
      unfold b_X12_readSum w_X12_readSum_b5
      refine rN R hR hN _ (fun x R1 h1 _ => ⟨1, ?_⟩)
      show wb_X12_readSum_b5 (gr_ dq) Q _ x R1
      rw [wb_X12_readSum_b5]
      exact fun v1 e1 _ => ⟨fun _ => hq x R1 h1, fun z => by have := h1.2.1; omega⟩
theorem J_Ands (hc : Clo SM ST) (hT : TX C0 R0 E L) (b0 : 0 ≤ b) (b1 : b ≤ 360) (q0 : 0 ≤ q) (q1 : q ≤ 10) (HS : Jt c C0 R0 E L b it SM q 2 2 12 10) : Jt c C0 R0 E L b it SM q 1 1 13 11 := by
  intro dp dq k n fo s st nm nr_ sf hdp hdq hk n0 n1 s0 s1 fq st0 st1 hn
  obtain ⟨dp, rfl⟩ : ∃ d', dp = d' + 1 := ⟨dp - 1, by omega⟩
  obtain ⟨dq, rfl⟩ : ∃ d', dq = d' + 1 := ⟨dq - 1, by omega⟩
  rcases HS dp dq k n fo s st nm nr_ sf (by omega) (by omega) hk n0 n1 s0 s1 fq st0 st1 hn with ⟨k2, n2, st2, x2, P2, N2, kk, k2L, nn, n2L, ss, ⟨nlt, sb, x20, x21, hS2⟩, cO, rO⟩ | ⟨f, pl, f0, cN, rN⟩
  · rcases J_andL hc hT b0 b1 q0 q1 HS 120 dp dq k2 200 n2 fo s st2 nm nr_ sf st P2 (b + n) x2 N2 0 (by omega) (by omega) (by omega) k2L (by omega) n2L s0 s1 fq (by omega) (by omega) hn (by omega) (by omega) (by omega) (by omega) (by omega) (by omega) x20 x21 hS2 with ⟨k3, n3, st3, x3, P3, N3, kk3, k3L, nn3, n3L, ss3, ⟨sb3, x30, x31, hS3⟩, cO3, rO3⟩ | ⟨f, pl, f0, cN, rN⟩
    · refine Or.inl ⟨k3, n3, st3, x3, P3, N3, by omega, k3L, by omega, n3L, by omega, ⟨by omega, by omega, x30, x31, hS3⟩, fun C w wq w0 w1 hC hP Q hq => ?_, fun R hR hN Q hq => ?_⟩
      · show b_X6_readAnds c (gq_ c dp) Q C
        unfold b_X6_readAnds w_X6_readAnds_b11
        exact cO C w wq w0 w1 hC hP _ (fun C1 h1 r1 q1 _ => ⟨fun _ => ⟨200, cO3 C1 w wq w0 (by omega) h1 q1 Q (fun C' a1 a2 a3 => hq C' a1 (fun j i j0 j4 hi => by rw [a2 j i j0 j4 hi, r1 j i j0 j4 hi]) a3)⟩, fun z => absurd z (by decide)⟩)
      · show b_X12_readAnd (gr_ dq) Q R
        unfold b_X12_readAnd w_X12_readAnd_b5
        exact rO R hR hN _ (fun R1 h1 r1 q1 _ => ⟨200, rO3 R1 h1 q1 Q (fun R' a1 a2 a3 => hq R' a1 (fun j i j0 j4 hi => by rw [a2 j i j0 j4 hi, r1 j i j0 j4 hi]) a3)⟩)
    · refine Or.inr ⟨f, pl, f0, fun C w wq w0 w1 hC hP Q hq => ?_, fun R hR hN Q hq => ?_⟩
      · show b_X6_readAnds c (gq_ c dp) Q C
        unfold b_X6_readAnds w_X6_readAnds_b11
        exact cO C w wq w0 w1 hC hP _ (fun C1 h1 r1 q1 _ => ⟨fun _ => ⟨200, cN C1 w wq w0 (by omega) h1 q1 Q hq⟩, fun z => absurd z (by decide)⟩)
      · show b_X12_readAnd (gr_ dq) Q R
        unfold b_X12_readAnd w_X12_readAnd_b5
        exact rO R hR hN _ (fun R1 h1 r1 q1 _ => ⟨200, rN R1 h1 q1 Q hq⟩)
  · refine Or.inr ⟨f, pl, f0, fun C w wq w0 w1 hC hP Q hq => ?_, fun R hR hN Q hq => ?_⟩
    · show b_X6_readAnds c (gq_ c dp) Q C
      unfold b_X6_readAnds
      exact cN C w wq w0 w1 hC hP _ (fun C1 h1 _ => ⟨fun z => absurd rfl z, fun _ => hq C1 h1⟩)
    · show b_X12_readAnd (gr_ dq) Q R
      unfold b_X12_readAnd w_X12_readAnd_b5
      refine rN R hR hN _ (fun x R1 h1 _ => ⟨1, ?_⟩)
      show wb_X12_readAnd_b5 (gr_ dq) Q _ x R1
      rw [wb_X12_readAnd_b5]
      exact fun v1 e1 _ => ⟨fun _ => hq x R1 h1, fun z => by have := h1.2.1; omega⟩
theorem J_E (hc : Clo SM ST) (hT : TX C0 R0 E L) (b0 : 0 ≤ b) (b1 : b ≤ 360) (q0 : 0 ≤ q) (q1 : q ≤ 10) (HS : Jt c C0 R0 E L b it SM q 1 1 13 11) : Jt c C0 R0 E L b it SM q 0 0 14 12 := by
  intro dp dq k n fo s st nm nr_ sf hdp hdq hk n0 n1 s0 s1 fq st0 st1 hn
  obtain ⟨dp, rfl⟩ : ∃ d', dp = d' + 1 := ⟨dp - 1, by omega⟩
  obtain ⟨dq, rfl⟩ : ∃ d', dq = d' + 1 := ⟨dq - 1, by omega⟩
  rcases HS dp dq k n fo s st nm nr_ sf (by omega) (by omega) hk n0 n1 s0 s1 fq st0 st1 hn with ⟨k2, n2, st2, x2, P2, N2, kk, k2L, nn, n2L, ss, ⟨nlt, sb, x20, x21, hS2⟩, cO, rO⟩ | ⟨f, pl, f0, cN, rN⟩
  · rcases J_orL hc hT b0 b1 q0 q1 HS 120 dp dq k2 200 n2 fo s st2 nm nr_ sf st P2 (b + n) x2 N2 0 (by omega) (by omega) (by omega) k2L (by omega) n2L s0 s1 fq (by omega) (by omega) hn (by omega) (by omega) (by omega) (by omega) (by omega) (by omega) x20 x21 hS2 with ⟨k3, n3, st3, x3, P3, N3, kk3, k3L, nn3, n3L, ss3, ⟨sb3, x30, x31, hS3⟩, cO3, rO3⟩ | ⟨f, pl, f0, cN, rN⟩
    · refine Or.inl ⟨k3, n3, st3, x3, P3, N3, by omega, k3L, by omega, n3L, by omega, ⟨by omega, by omega, x30, x31, hS3⟩, fun C w wq w0 w1 hC hP Q hq => ?_, fun R hR hN Q hq => ?_⟩
      · show b_X6_readE c (gq_ c dp) Q C
        unfold b_X6_readE w_X6_readE_b11
        exact cO C w wq w0 w1 hC hP _ (fun C1 h1 r1 q1 _ => ⟨fun _ => ⟨200, cO3 C1 w wq w0 (by omega) h1 q1 Q (fun C' a1 a2 a3 => hq C' a1 (fun j i j0 j4 hi => by rw [a2 j i j0 j4 hi, r1 j i j0 j4 hi]) a3)⟩, fun z => absurd z (by decide)⟩)
      · show b_X12_readE (gr_ dq) Q R
        unfold b_X12_readE w_X12_readE_b5
        exact rO R hR hN _ (fun R1 h1 r1 q1 _ => ⟨200, rO3 R1 h1 q1 Q (fun R' a1 a2 a3 => hq R' a1 (fun j i j0 j4 hi => by rw [a2 j i j0 j4 hi, r1 j i j0 j4 hi]) a3)⟩)
    · refine Or.inr ⟨f, pl, f0, fun C w wq w0 w1 hC hP Q hq => ?_, fun R hR hN Q hq => ?_⟩
      · show b_X6_readE c (gq_ c dp) Q C
        unfold b_X6_readE w_X6_readE_b11
        exact cO C w wq w0 w1 hC hP _ (fun C1 h1 r1 q1 _ => ⟨fun _ => ⟨200, cN C1 w wq w0 (by omega) h1 q1 Q hq⟩, fun z => absurd z (by decide)⟩)
      · show b_X12_readE (gr_ dq) Q R
        unfold b_X12_readE w_X12_readE_b5
        exact rO R hR hN _ (fun R1 h1 r1 q1 _ => ⟨200, rN R1 h1 q1 Q hq⟩)
  · refine Or.inr ⟨f, pl, f0, fun C w wq w0 w1 hC hP Q hq => ?_, fun R hR hN Q hq => ?_⟩
    · show b_X6_readE c (gq_ c dp) Q C
      unfold b_X6_readE
      exact cN C w wq w0 w1 hC hP _ (fun C1 h1 _ => ⟨fun z => absurd rfl z, fun _ => hq C1 h1⟩)
    · show b_X12_readE (gr_ dq) Q R
      unfold b_X12_readE w_X12_readE_b5
      refine rN R hR hN _ (fun x R1 h1 _ => ⟨1, ?_⟩)
      show wb_X12_readE_b5 (gr_ dq) Q _ x R1
      rw [wb_X12_readE_b5]
      exact fun v1 e1 _ => ⟨fun _ => hq x R1 h1, fun z => by have := h1.2.1; omega⟩
