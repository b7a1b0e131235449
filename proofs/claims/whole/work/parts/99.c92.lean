/-! the tape's calls with their frames; load -/
def FTpc (C C' : MM) : Prop := (∀ k, k ≠ 1 → C' k = C k) ∧ ∀ i, i ≠ 1 → C' 1 i = C 1 i
def FTpr (R R' : MM) : Prop := (∀ k, k ≠ 0 → R' k = R k) ∧ ∀ i, i ≠ 0 → i ≠ 3 → R' 0 i = R 0 i
theorem u_wipe {C R : MM} (h : Rtape C R) : w_X11_wipe (fun r C' => w_X12_wipe (fun r' R' => r = r' ∧ R' 0 0 = 0 ∧ Rtape C' R' ∧ FTpc C C' ∧ FTpr R R') R) C := by
  obtain ⟨h1, h2, h3, h4, h5⟩ := h
  unfold w_X11_wipe w_X12_wipe
  intro C1 e1 R1 e2 R2 e3
  have c1 : C1 1 1 = 0 := by rw [e1, ux_s]
  have ck : ∀ k, k ≠ 1 → C1 k = C k := fun k hk => by rw [e1, ux_g _ _ _ hk]
  have rk : ∀ k, k ≠ 0 → R2 k = R k := fun k hk => by rw [e3, ux_g _ _ _ hk, e2, ux_g _ _ _ hk]
  have r3 : R2 0 3 = 0 := by rw [e3, ux_s]
  refine ⟨rfl, by rw [e3, ux_i _ _ _ (by decide), e2, ux_s], ⟨by rw [c1, r3], by omega, by omega, fun i a b => by omega, fun i a b => by rw [ck 3 (by decide), rk 2 (by decide)]; exact h5 i a b⟩, ⟨ck, fun i hi => by rw [e1, ux_i _ _ _ hi]⟩, ⟨rk, fun i a b => by rw [e3, ux_i _ _ _ b, e2, ux_i _ _ _ a]⟩⟩
theorem u_cut {C R : MM} {p : Int} (h : Rtape C R) : w_X11_cut (fun r C' => w_X12_cut (fun r' R' => r = r' ∧ R' 0 0 = 0 ∧ Rtape C' R' ∧ FTpc C C' ∧ FTpr R R') p R) p C := by
  have h' := h
  obtain ⟨h1, h2, h3, h4, h5⟩ := h
  have no : ¬ (0 ≤ p ∧ p ≤ C 1 1) → w_X12_cut (fun r' R' => (0 : Int) = r' ∧ R' 0 0 = 0 ∧ Rtape C R' ∧ FTpc C C ∧ FTpr R R') p R := fun hn => by
    unfold w_X12_cut
    intro R1 e1
    have rk : ∀ k, k ≠ 0 → R1 k = R k := fun k hk => by rw [e1, ux_g _ _ _ hk]
    have ok : (0 : Int) = 0 ∧ R1 0 0 = 0 ∧ Rtape C R1 ∧ FTpc C C ∧ FTpr R R1 := ⟨rfl, by rw [e1, ux_s], ⟨by rw [e1, ux_i _ _ _ (by decide)]; exact h1, h2, h3, by rw [rk 1 (by decide)]; exact h4, by rw [rk 2 (by decide)]; exact h5⟩, ⟨fun _ _ => rfl, fun _ _ => rfl⟩, ⟨rk, fun i a _ => by rw [e1, ux_i _ _ _ a]⟩⟩
    refine ⟨fun _ => ok, fun z v3 e3 _ => ⟨fun y => ?_, fun _ => ok⟩⟩
    rw [e1, ux_i _ _ _ (by decide), ← h1] at e3
    exact absurd ⟨by omega, by omega⟩ hn
  unfold w_X11_cut
  refine ⟨fun z => no (by omega), fun z v2 e2 _ => ⟨fun y C4 e4 => ?_, fun y => no (by omega)⟩⟩
  unfold w_X12_cut
  intro R1 e1
  refine ⟨fun q => absurd q z, fun _ v3 e3 _ => ⟨fun _ R5 e5 => ?_, fun q => ?_⟩⟩
  · have ck : ∀ k, k ≠ 1 → C4 k = C k := fun k hk => by rw [e4, ux_g _ _ _ hk]
    have c1 : C4 1 1 = p := by rw [e4, ux_s]
    have rk : ∀ k, k ≠ 0 → R5 k = R k := fun k hk => by rw [e5, ux_g _ _ _ hk, e1, ux_g _ _ _ hk]
    exact ⟨rfl, by rw [e5, ux_i _ _ _ (by decide), e1, ux_s], ⟨by rw [c1, e5, ux_s], by omega, by omega, fun i a b => by rw [ck 2 (by decide), rk 1 (by decide)]; exact h4 i a (by omega), fun i a b => by rw [ck 3 (by decide), rk 2 (by decide)]; exact h5 i a b⟩, ⟨ck, fun i hi => by rw [e4, ux_i _ _ _ hi]⟩, ⟨rk, fun i a b => by rw [e5, ux_i _ _ _ b, e1, ux_i _ _ _ a]⟩⟩
  · rw [e1, ux_i _ _ _ (by decide), ← h1] at e3; omega
theorem u_letter {C R : MM} {p : Int} (h : Rtape C R) : w_X11_letter (fun r C' => C' = C ∧ w_X12_letter (fun r' R' => r = r' ∧ R' = ux_ R 0 0 0) p R) p C := by
  obtain ⟨h1, h2, h3, h4, h5⟩ := h
  have no : ¬ (0 ≤ p ∧ p < C 1 1) → w_X12_letter (fun r' R' => (-1 : Int) = r' ∧ R' = ux_ R 0 0 0) p R := fun hn => by
    unfold w_X12_letter
    intro R1 e1
    refine ⟨fun _ => ⟨rfl, e1⟩, fun z v3 e3 _ => ⟨fun _ => ⟨rfl, e1⟩, fun y => ?_⟩⟩
    rw [e1, ux_i _ _ _ (by decide), ← h1] at e3
    exact absurd ⟨by omega, by omega⟩ hn
  unfold w_X11_letter
  refine ⟨fun z => ⟨rfl, no (by omega)⟩, fun z v2 e2 _ => ⟨fun y => ⟨rfl, no (by omega)⟩, fun y => ⟨by omega, by omega, fun v4 e4 _ => ⟨rfl, ?_⟩⟩⟩⟩
  unfold w_X12_letter
  intro R1 e1
  refine ⟨fun q => absurd q z, fun _ v3 e3 _ => ⟨fun q => ?_, fun _ => ⟨by omega, by omega, fun v5 e5 g5 => ⟨?_, e1⟩⟩⟩⟩
  · rw [e1, ux_i _ _ _ (by decide), ← h1] at e3; omega
  · rw [jand_255, e4, h4 p (by omega) (by omega), e5, e1, ux_g _ _ _ (by decide)]
theorem u_load {C R : MM} {p : Int} (h : RD C R) : w_X11_load (fun r C' => w_X12_load (fun r' R' => r = r' ∧ R' 0 0 = 0 ∧ RD C' R' ∧ Rft C' R' ∧ tyLe C C' ∧ FLc C C' ∧ FLr R R') p R) (fun X C' => w_X12_load (fun r' R' => (X = "java/lang/IndexOutOfBoundsException" ∧ C' = C ∧ R' = ux_ R 0 0 1) ∨ (X = "java/lang/IllegalArgumentException" ∧ R' 0 0 = 2 ∧ RD C' R' ∧ Rft C' R' ∧ tyLe C C' ∧ FLc C C' ∧ FLr R R')) p R) p C := by
  have h' := h
  obtain ⟨hB, hJ, cs, hcs⟩ := h
  have hY := hB.1.2.2.2.2
  have hL := hB.2.1
  have hT := hB.1.1
  have hr1 := hB.1.2.1
  obtain ⟨h1, h2, h3, h4, h5⟩ := id hcs
  unfold w_X11_load w_X11_needPicture
  refine p_isPic (fun p0 p4 _ => ⟨fun _ => ?_, fun y => absurd y (by decide)⟩) (fun hn _ => ⟨fun y => absurd rfl y, fun _ => ?_⟩)
  rotate_left
  · unfold w_X12_load
    refine p_R_isPic (fun a b => absurd ⟨a, b⟩ hn) (fun _ _ => ⟨fun _ => ?_, fun y => absurd rfl y⟩)
    unfold w_X12_load_b14
    intro M1 e1 v2 e2 _
    rw [e1, ux_s] at e2
    exact ⟨fun y => by omega, fun _ => Or.inl ⟨rfl, rfl, e1⟩⟩
  intro v2 e2 _
  have ic := h4 4 (by omega) (by omega)
  have mc := isP_m ic
  have n0 := hT.2.1
  have n4 := hT.2.2.1
  generalize hn : C 1 1 = n at *
  have bytes : ∀ i, 0 ≤ i → i < n → C 2 (0 + i) = C 2 i ∧ 0 ≤ C 2 i ∧ C 2 i < 256 := fun i a b => by
    rw [show (0 : Int) + i = i from by omega]
    have := hT.2.2.2.1 i a (by rw [hn]; exact b)
    exact ⟨rfl, by omega, by omega⟩
  -- the reference, up to its reading
  have ref : ∀ Q : Int → MM → Prop, (∀ A, (∀ k, k ≠ 0 → k ≠ 98 → A k = R k) → (∀ i, i ∉ ([0, 141] : List Int) → A 0 i = R 0 i) → A 0 0 = 0 → Sr A n (C 2) → w_X12_takePicture (fun _ M4 => (∀ v5, v5 = M4 0 83 → ri_ v5 → (∀ M6, M6 = ux_ M4 0 81 v5 → (∀ v7, v7 = M6 0 83 → ri_ v7 → (v7 ≤ 0 → w_X12_load_b90 Q p (-1) M6) ∧ (¬ v7 ≤ 0 → (∀ v9, v9 = M6 0 84 → ri_ v9 → w_X12_load_b90 Q p v9 M6)))))) A) → w_X12_load Q p R := fun Q hq => by
    unfold w_X12_load
    refine p_R_isPic (fun _ _ _ => ⟨fun y => absurd y (by decide), fun _ => ?_⟩) (fun y => absurd ⟨p0, p4⟩ y)
    unfold w_X12_load_b14
    intro M1 e1 w2 f2 _
    rw [e1, ux_s] at f2
    refine ⟨fun _ w4 f4 _ M5 e5 => ?_, fun y => by omega⟩
    rw [e1, ux_i _ _ _ (by decide), ← hT.1] at f4
    refine p_R_ldrow (n := n) n0 n4 (by rw [e5, e1, ux_i _ _ _ (by decide), ux_i _ _ _ (by decide), ← hT.1, hn]) fun A oA vA => ?_
    have a0 : ∀ i, i ∉ ([0, 141] : List Int) → A 0 i = R 0 i := fun i hi => by rw [oA 0 (by decide), e5, e1, ux_i _ _ _ (fun y => hi (by rw [y]; decide)), ux_i _ _ _ (fun y => hi (by rw [y]; decide))]
    refine hq A (fun k a b => by rw [oA k b, e5, e1]; funext i; rw [ux_c _ _ _ _ a, ux_c _ _ _ _ a]) a0 (by rw [oA 0 (by decide), e5, e1, ux_i _ _ _ (by decide), ux_s]) ⟨by rw [oA 0 (by decide), e5, ux_s, f4, hn], n0, by omega, fun i a b => ?_⟩
    have hb := hT.2.2.2.1 i a (by rw [hn]; exact b)
    rw [vA i a b, e5, e1, ux_c _ _ _ _ (by decide), ux_c _ _ _ _ (by decide)]
    exact ⟨hb.symm, by omega, by omega⟩
  refine ⟨cs 4, h2, ic, ?_⟩
  have dec := fun q1 q0 => p_decode (Q := fun r4 M5 => (r4 = 0 ∨ r4 = 1) → (∀ v6, v6 = M5 280 13 → ri_ v6 → (∀ v7, v7 = M5 280 14 → ri_ v7 → w_X11_tellFault (fun _ M9 => (¬ r4 = 0 → w_X11_load_b63 (fun r C' => w_X12_load (fun r' R' => r = r' ∧ R' 0 0 = 0 ∧ RD C' R' ∧ Rft C' R' ∧ tyLe C C' ∧ FLc C C' ∧ FLr R R') p R) (fun X C' => w_X12_load (fun r' R' => (X = "java/lang/IndexOutOfBoundsException" ∧ C' = C ∧ R' = ux_ R 0 0 1) ∨ (X = "java/lang/IllegalArgumentException" ∧ R' 0 0 = 2 ∧ RD C' R' ∧ Rft C' R' ∧ tyLe C C' ∧ FLc C C' ∧ FLr R R')) p R) p 0 M9) ∧ (r4 = 0 → (fun X C' => w_X12_load (fun r' R' => (X = "java/lang/IndexOutOfBoundsException" ∧ C' = C ∧ R' = ux_ R 0 0 1) ∨ (X = "java/lang/IllegalArgumentException" ∧ R' 0 0 = 2 ∧ RD C' R' ∧ Rft C' R' ∧ tyLe C C' ∧ FLc C C' ∧ FLr R R')) p R) "java/lang/IllegalArgumentException" M9)) v6 v7 M5))) (a := 2) (na := 4000) (b0 := 0) (n := n) (B := C 2) hY hL ic h3 (by omega) (by decide) (by decide) (by decide) (by decide +kernel) (by decide) (by omega) n0 (by omega) bytes q1 q0
  rw [show (0 : Int) + n = n from by omega] at dec
  rw [e2]
  refine dec (fun E hE dz M hF hD m13 m14 _ v6 f6 _ v7 f7 _ => ?_) (fun E hE dz M hF hPF m13 m14 _ v6 f6 _ v7 f7 _ => ?_)
  · -- all is well
    rw [m13] at f6
    unfold w_X11_tellFault w_X11_tellFault_b15
    intro N1 g1
    refine ⟨fun y => absurd f6 y, fun _ N2 g2 => ⟨fun _ => ?_, fun y => absurd y (by decide)⟩⟩
    have hYE : Rty E R := Rty_C hY (fun k x y => hE.1 k (by omega) (by omega) (by omega) (by omega) (by omega))
    have hLE : Rlk E := Rlk_of hL (by rw [hE.1 8 (by omega) (by omega) (by omega) (by omega) (by omega)]) (hE.1 14 (by omega) (by omega) (by omega) (by omega) (by omega)) (hE.1 19 (by omega) (by omega) (by omega) (by omega) (by omega)) (hE.1 20 (by omega) (by omega) (by omega) (by omega) (by omega))
    have e8 : E 8 0 = C 8 0 := by rw [hE.1 8 (by omega) (by omega) (by omega) (by omega) (by omega)]
    have h16 := hY.2.2.1
    have oN2 : ∀ k, k ≠ 0 → N2 k = M k := fun k a => by rw [g2, g1]; funext i; rw [ux_c _ _ _ _ a, ux_c _ _ _ _ a]
    have mC : ∀ k, k ≠ 0 → ¬ (cs 4 ≤ k ∧ k ≤ cs 4 + 18) → k ≠ 280 → k ≠ 283 → k ≠ 284 → N2 k = C k := fun k a b d e f => by
      rw [oN2 k a, hF.1 k (by omega) d e f, hE.1 k (by omega) (by omega) (by omega) (by omega) d]
    have m0 : ∀ i, i ∉ ([16, 17] : List Int) → N2 0 i = C 0 i := fun i hi => by
      rw [g2, g1, ux_i _ _ _ (fun y => hi (by rw [y]; decide)), ux_i _ _ _ (fun y => hi (by rw [y]; decide)), hF.1 0 (by omega) (by decide) (by decide) (by decide), hE.1 0 (by omega) (by omega) (by omega) (by omega) (by omega)]
    have m280 : ∀ i, i ∉ ([6, 7, 8, 9, 10, 13, 14] : List Int) → N2 280 i = C 280 i := fun i hi => by
      rw [oN2 280 (by decide), hF.2.2 i (fun y => hi (by simp only [List.mem_cons, List.not_mem_nil, or_false] at y ⊢; omega)), hE.2.2.2.2.2.2.2.2 i (fun y => hi (by simp only [List.mem_cons, List.not_mem_nil, or_false] at y ⊢; omega))]
    have hYN2 : Rty N2 R := Rty_C hY (fun k x y => mC k (by omega) (by omega) (by omega) (by omega) (by omega))
    obtain ⟨hA, hK, hsl, hl, hrc0, hrc1, hrt, hKR, hW⟩ := id hD
    generalize hcn : nvl (C 2) n 0 = cn at *
    obtain ⟨c0, c4, hA'⟩ := id hA
    refine p_useAll (b0 := 0) hYN2 ic (by rw [m0 5 (by decide)]; exact h2) hA (by rw [mC 8 (by omega) (by omega) (by omega) (by omega) (by omega), e8]) (KT_o hK (fun k hk => oN2 k (by omega))) fun N oN uN => ?_
    have ip := h4 p p0 (by omega)
    have mp := isP_m ip
    have np := h5 p 4 p0 p4 (by omega)
    unfold w_X11_exchange
    refine ⟨p0, p4, cs p, by rw [oN 45 (by omega), mC 45 (by omega) (by omega) (by omega) (by omega) (by omega)]; exact (h1 p p0 p4).1, ip, cs 4, by rw [oN 0 (by omega), m0 5 (by decide)]; exact h2, ic, p0, p4, fun M3 e3 M4 e4 => ⟨p0, p4, cs 4, by rw [e4, e3, ux_c _ _ _ _ (by decide), ux_s], ic, fun vr er _ _ => ?_⟩⟩
    -- the class's cells at the end
    have k4 : ∀ k, k ≠ 0 → k ≠ 45 → M4 k = N k := fun k a b => by rw [e4, e3]; funext i; rw [ux_c _ _ _ _ a, ux_c _ _ _ _ b]
    have kM : ∀ k, k ≠ 0 → k ≠ 45 → k ≠ 12 → M4 k = M k := fun k a b d => by rw [k4 k a b, oN k d, oN2 k a]
    have kC : ∀ k, k ≠ 0 → k ≠ 12 → k ≠ 45 → ¬ (cs 4 ≤ k ∧ k ≤ cs 4 + 18) → k ≠ 280 → k ≠ 283 → k ≠ 284 → M4 k = C k := fun k a b d e f g q => by rw [k4 k a d, oN k b, mC k a e f g q]
    have z4 : ∀ i, i ∉ ([5, 16, 17] : List Int) → M4 0 i = C 0 i := fun i hi => by
      rw [e4, ux_i _ _ _ (fun y => hi (by rw [y]; decide)), e3, ux_c _ _ _ _ (by decide), oN 0 (by decide), m0 i (fun y => hi (by simp only [List.mem_cons, List.not_mem_nil, or_false] at y ⊢; omega))]
    have n12 : N2 12 = C 12 := mC 12 (by omega) (by omega) (by omega) (by omega) (by omega)
    have u12 : ∀ i, 0 ≤ i → i < 16 → M4 12 i = usc E N2 (C 2) n cn.toNat i := fun i a b => by
      rw [k4 12 (by decide) (by decide)]
      rcases uN i with q | ⟨q, -⟩
      · exact q
      · exact absurd ⟨a, b⟩ q
    have ec0 : M4 (cs 4) 0 = cn := by rw [kM (cs 4) (by omega) (by omega) (by omega), hK.1]; omega
    -- the reference
    refine ref _ fun A oA iA zA SA => ?_
    have hYA : Rty E A := Rty_R hYE (fun k a b _ => oA k (by omega) (by omega)) (iA 20 (by decide))
    refine p_takePicture hYA hLE SA (fun _ L N' FL hAT hR x83 x84 oN' uN' => ?_) (fun dz' => absurd dz dz')
    rw [hcn] at hAT hR uN'
    have n83 : N' 0 83 = 0 := by rw [oN' 0 (by decide)]; exact x83
    intro w5 f5 _ M6 g6 w7 f7' _
    rw [n83] at f5
    rw [g6, ux_i _ _ _ (by decide), n83] at f7'
    refine ⟨fun _ => ?_, fun y => by omega⟩
    unfold w_X12_load_b90 w_X12_load_b106
    intro M7 g7 u2 t2 _
    rw [g7, g6, ux_i _ _ _ (by decide), ux_i _ _ _ (by decide), n83] at t2
    refine ⟨fun _ M8 g8 u3 t3 _ => ?_, fun y => by omega⟩
    rw [g8, ux_s] at t3
    refine ⟨fun _ => ?_, fun y => by omega⟩
    have o8 : ∀ k, k ≠ 0 → M8 k = N' k := fun k a => by rw [g8, g7, g6]; funext i; rw [ux_c _ _ _ _ a, ux_c _ _ _ _ a, ux_c _ _ _ _ a]
    have o8L : ∀ k, k ≠ 0 → k ≠ 16 → M8 k = L k := fun k a b => by rw [o8 k a, oN' k b]
    have hR8 : ROK E M8 n (C 2) cn := by
      obtain ⟨a1, a2, a3, a4⟩ := hR
      exact ⟨by rw [o8L 38 (by decide) (by decide)]; exact a1, KTr_o a2 (fun q hq => o8L q (fun y => by rw [y] at hq; revert hq; decide) (fun y => by rw [y] at hq; revert hq; decide)), fun u hu => KSr_o (a3 u hu) ⟨o8L 58 (by decide) (by decide), o8L 101 (by decide) (by decide)⟩, ⟨by rw [o8L 55 (by decide) (by decide)]; exact a4.1, fun i hi => by rw [o8L 56 (by decide) (by decide), o8L 57 (by decide) (by decide)]; exact a4.2 i hi⟩⟩
    refine p_copyNow (E := E) p0 p4 c0 c4 hR8 hrc0 hrc1 fun M9 FC k38 kt kv k55 kr => ?_
    -- rows of the reference at that point
    have r9 : ∀ k, k ∉ [0, 16, 38, 39, 40, 41, 42, 55, 56, 57, 58, 60, 98, 100, 101] → M9 k = R k := fun k hk => by
      simp only [List.mem_cons, List.not_mem_nil, or_false, not_or] at hk
      rw [FC.1 k (by simp only [List.mem_cons, List.not_mem_nil, or_false]; omega), o8L k (by omega) (by omega), FL.1 k (by simp only [List.mem_cons, List.not_mem_nil, or_false]; omega), oA k (by omega) (by omega)]
    have z9 : ∀ i, i ∉ ([0, 81, 82, 83, 84, 141, 142, 143, 146] : List Int) → M9 0 i = R 0 i := fun i hi => by
      rw [FC.1 0 (by decide), g8, g7, g6, ux_i _ _ _ (fun y => hi (by rw [y]; decide)), ux_i _ _ _ (fun y => hi (by rw [y]; decide)), ux_i _ _ _ (fun y => hi (by rw [y]; decide)), oN' 0 (by decide), FL.2.2.2.2.2 i (fun y => hi (by simp only [List.mem_cons, List.not_mem_nil, or_false] at y ⊢; omega)), iA i (fun y => hi (by simp only [List.mem_cons, List.not_mem_nil, or_false] at y ⊢; omega))]
    have u9 : ∀ i, 0 ≤ i → i < 16 → M9 16 i = usd E A (C 2) n cn.toNat i := fun i a b => by rw [FC.1 16 (by decide), o8 16 (by decide)]; exact uN' i a b
    have a16 : A 16 = R 16 := oA 16 (by decide) (by decide)
    have tin : ∀ u : Nat, u < cn.toNat → tY E (C 2) n u < 20 → 0 ≤ tY E (C 2) n u ∧ tY E (C 2) n u < C 8 0 := fun u hu q => by
      have := (hA' u (by omega)).1.2.2.2.1
      unfold vT at this
      omega
    have u16 : ∀ i, 0 ≤ i → i < C 8 0 → M4 12 i = M9 16 i ∧ (C 12 i = 1 → M4 12 i = 1) := fun i a b => by
      have cl := (hY.2.2.2.1 i a b).1
      unfold Rcls at cl
      rw [u12 i a (by omega), u9 i a (by omega)]
      by_cases w : ∃ u, u < cn.toNat ∧ tY E (C 2) n u = i
      · rw [usc_1 w, usd_1 w]; exact ⟨rfl, fun _ => rfl⟩
      · rw [usc_0 w, usd_0 w, n12, a16]; exact ⟨cl.2.2.2.2.2.1, fun q => q⟩
    have v16 : ∀ i, C 8 0 ≤ i → i < 16 → M4 12 i = C 12 i := fun i a b => by
      have a0 := hY.2.1
      rw [u12 i (by omega) b, usc_0 (fun ⟨u, hu, q⟩ => by have := tin u hu (by omega); omega), n12]
    have rb := fun (R' : MM) (r : ∀ k, k ∉ [0, 16, 36, 37] → k < 38 → R' k = R k) (r16 : R' 16 = M9 16) (r0 : ∀ i, i ∈ ([3, 20, 26, 27, 28, 29, 31, 36, 44] : List Int) → R' 0 i = R 0 i) => RB_ld (C' := M4) (R' := R') hB hJ (fun k a b d => kC k a b (by omega) (by omega) (by omega) (by omega) (by omega)) (fun i a b => by rw [r16]; exact u16 i a b) v16 r r0
    obtain ⟨nB, nJ, tl⟩ := rb M9 (fun k a b => r9 k (by simp only [List.mem_cons, List.not_mem_nil, or_false] at a ⊢; omega)) rfl (fun i hi => z9 i (by simp only [List.mem_cons, List.not_mem_nil, or_false] at hi ⊢; omega))
    have hY9 := nB.1.2.2.2.2
    have hw : PW M4 (cs 4) := by
      obtain ⟨D, d12, dk⟩ : ∃ D : MM, D 12 = M4 12 ∧ ∀ k, k ≠ 12 → D k = M k := ⟨fun k => if k = 12 then M4 12 else M k, if_pos rfl, fun k hk => if_neg hk⟩
      have wD := PW_dec (N := D) hYE (by omega) hD hF hE.2.2.2.2.2.2.1 dk (fun u hu q => by have := tin u hu q; rw [d12, u12 _ this.1 (by omega), usc_1 ⟨u, hu, rfl⟩]) (by omega)
      have eqD : ∀ k, k ≠ 0 → k ≠ 45 → M4 k = D k := fun k a b => by
        by_cases w : k = 12
        · rw [w, d12]
        · rw [dk k w, kM k a b w]
      have hYD : Rty D M9 := Rty_C hY9 (fun k a b => (eqD k (by omega) (by omega)).symm)
      refine pw_fr hYD wD (tyLe_of (by rw [eqD 8 (by omega) (by omega)]) (fun k a b => eqD k (by omega) (by omega))) (by rw [eqD (cs 4) (by omega) (by omega)]) (by rw [eqD (cs 4) (by omega) (by omega)]) (fun q a b => eqD q (by omega) (by omega)) (fun t a b => by rw [eqD (cs 4 + 13) (by omega) (by omega)]; exact wD.2.2.2.2.2.2.2.2.2.2.2.1 t a b)
    have e16 : M4 16 = E 16 := by rw [kM 16 (by omega) (by omega) (by omega), hF.1 16 (by omega) (by omega) (by omega) (by omega)]
    have pc : ∀ T : Nat, (T : Int) < cn → pcn M4 (cs 4) T = tN E (C 2) n T := fun T hT => by
      have q := hK.2.2.1 T (by omega)
      unfold pcn tN so
      rw [kM (cs 4 + 2) (by omega) (by omega) (by omega), kM (cs 4 + 3) (by omega) (by omega) (by omega), q.2.1, q.2.2.1, e16]
    have hb9 : Rpb M4 M9 (cs 4) p := by
      have tl' : ∀ u : Nat, u ≤ cn.toNat → 0 ≤ tF E (C 2) n u ∧ tF E (C 2) n u ≤ tF E (C 2) n cn.toNat := fun u hu => tF_le hYE (t := cn.toNat) (fun u hu => (hA' u (by omega)).1) hu
      refine ⟨by rw [ec0, k38], fun t a b => ?_, fun t k a b d f => ?_, ?_, fun r a b => ?_⟩
      · obtain ⟨T, rfl⟩ : ∃ T : Nat, t = T := ⟨t.toNat, by omega⟩
        have q := hK.2.2.1 T (by omega)
        have q' := kt T (by omega)
        rw [kM (cs 4 + 1) (by omega) (by omega) (by omega), kM (cs 4 + 2) (by omega) (by omega) (by omega), kM (cs 4 + 3) (by omega) (by omega) (by omega), kM (cs 4 + 4) (by omega) (by omega) (by omega), q.1, q.2.1, q.2.2.1, KT_4 hK (u := T) (by omega), q'.1, q'.2.1, q'.2.2.1, q'.2.2.2]
        exact ⟨rfl, rfl, rfl, rfl⟩
      · obtain ⟨T, rfl⟩ : ∃ T : Nat, t = T := ⟨t.toNat, by omega⟩
        obtain ⟨K, rfl⟩ : ∃ K : Nat, k = K := ⟨k.toNat, by omega⟩
        rw [ec0] at b
        rw [pc T b] at f
        have f4 := (hA' T b).1.2.2.2.2.2.2.2.1
        have t0 := (tl' T (by omega)).1
        rw [kM (cs 4 + 9) (by omega) (by omega) (by omega), kM (cs 4 + 4) (by omega) (by omega) (by omega), KT_4 hK (u := T) (by omega), (hsl T (by omega) K (by omega)).1, kv _ (by omega) (by omega), (hR8.2.2.1 T (by omega) K (by omega)).1]
      · rw [kM (cs 4) (by omega) (by omega) (by omega), hKR.1, k55]; omega
      · have e11 : M4 (cs 4) 11 = rC E (C 2) n cn := by rw [kM (cs 4) (by omega) (by omega) (by omega), hKR.1]; omega
        obtain ⟨T, rfl⟩ : ∃ T : Nat, r = T := ⟨r.toNat, by omega⟩
        rw [kM (cs 4 + 11) (by omega) (by omega) (by omega), kM (cs 4 + 12) (by omega) (by omega) (by omega), (hKR.2 T (by omega)).1, (hKR.2 T (by omega)).2, (kr T (by omega)).1, (kr T (by omega)).2]
        exact ⟨rfl, rfl⟩
    have hch : ∀ t, 0 ≤ t → t < M4 (cs 4) 0 → M4 (cs 4 + 13) t = 0 := fun t a b => by
      rw [kM (cs 4 + 13) (by omega) (by omega) (by omega), hF.1 (cs 4 + 13) (by omega) (by omega) (by omega) (by omega)]; exact hE.2.2.2.2.2.2.1 t a (by omega)
    have hlo : M4 (cs 4) 16 = 0 := by rw [kM (cs 4) (by omega) (by omega) (by omega), hF.2.1 16 (by decide) (by decide)]; exact hE.2.2.2.2.1
    refine p_R_study hY9 hw hb9 p0 (by omega) hch hlo fun RR hs hb3 ht3 => ⟨p0, by omega, fun vv ev _ => ?_⟩
    have hsh : ShK M4 RR (cs 4) p := by
      have k1 : M4 (cs 4 + 18) 1 = 0 := by rw [kM (cs 4 + 18) (by omega) (by omega) (by omega), hF.1 (cs 4 + 18) (by omega) (by omega) (by omega) (by omega)]; exact hE.2.2.2.2.2.2.2.1
      obtain ⟨j1, j2, j4, j8⟩ := kb_0
      refine ⟨by omega, by omega, fun q => absurd (by rw [k1]; exact j1) q, fun q => absurd (by rw [k1]; exact j2) q, fun q => absurd (by rw [k1]; exact j4) q, fun q => absurd (by rw [k1]; exact j8) q⟩
    have zR : ∀ i, i ∉ ([0, 73, 81, 82, 83, 84, 141, 142, 143, 146] : List Int) → RR 0 i = R 0 i := fun i hi => by
      rw [hs.2.1 i (fun y => hi (by rw [y]; decide)), z9 i (fun y => hi (by simp only [List.mem_cons, List.not_mem_nil, or_false] at y ⊢; omega))]
    obtain ⟨fB, fJ, -⟩ := rb RR (fun k a b => by rw [hs.1 k (fun y => a (by rw [y]; decide)) (Or.inl b), r9 k (by simp only [List.mem_cons, List.not_mem_nil, or_false] at a ⊢; omega)]) (hs.1 16 (by decide) (Or.inl (by decide))) (fun i hi => zR i (by simp only [List.mem_cons, List.not_mem_nil, or_false] at hi ⊢; omega))
    refine ⟨by rw [er, ec0, ev, ← hb3.1, ec0], ?_, ⟨fB, fJ, ?_⟩, ⟨?_, ?_⟩, tl, ⟨fun k hk hk2 => ?_, fun i hi => z4 i hi, fun i hi => ?_⟩, fun k hk hk2 => ?_, zR⟩
    · rw [hs.2.1 0 (by decide), FC.1 0 (by decide), g8, ux_s]
    · refine ps_ex hY p0 p4 hcs tl ⟨hw, hb3, ht3, hsh⟩ (fun q a b d => ?_) (by rw [e4, e3, ux_c _ _ _ _ (by decide), ux_s]) (fun q hq => ?_) (by rw [e4, ux_s]) (fun k i q a b q0 q4' hqp w => ?_)
      · exact kC q (by omega) (by omega) (by omega) (by omega) (by omega) (by omega) (by omega)
      · rw [e4, e3, ux_c _ _ _ _ (by decide), ux_i _ _ _ hq, oN 45 (by omega), mC 45 (by omega) (by omega) (by omega) (by omega) (by omega)]
      · have nw : ¬ rw_ k p i := by unfold rw_ at w ⊢; omega
        rw [hs.2.2 k i a b nw, FC.2 k i a b nw, o8L k (by omega) (by omega), ← oA k (by omega) (by omega)]
        unfold rw_ at w
        obtain ⟨y1, y2, y3, y4, y5, y6⟩ := FL
        by_cases a1 : k ∈ [39, 40, 41, 42]
        · exact y2 k i a1 (by simp only [List.mem_cons, List.not_mem_nil, or_false] at a1; omega)
        · by_cases a2 : k ∈ [38, 55]
          · exact y4 k i a2 (by simp only [List.mem_cons, List.not_mem_nil, or_false] at a2; omega)
          · by_cases a3 : k ∈ [56, 57]
            · exact y5 k i a3 (by simp only [List.mem_cons, List.not_mem_nil, or_false] at a3; omega)
            · by_cases a4 : k = 58
              · subst a4; exact y3 i (by omega)
              · rw [y1 k (by simp only [List.mem_cons, List.not_mem_nil, or_false] at a1 a2 a3 ⊢; omega)]
    · rw [e4, ux_i _ _ _ (by decide), e3, ux_c _ _ _ _ (by decide), oN 0 (by decide), g2, g1, ux_i _ _ _ (by decide), ux_s, f6, hs.2.1 81 (by decide), FC.1 0 (by decide), g8, g7, g6, ux_i _ _ _ (by decide), ux_i _ _ _ (by decide), ux_s, f5]
    · rw [e4, ux_i _ _ _ (by decide), e3, ux_c _ _ _ _ (by decide), oN 0 (by decide), g2, ux_s, hs.2.1 82 (by decide), FC.1 0 (by decide), g8, g7, ux_i _ _ _ (by decide), ux_s]
    · exact kC k (fun y => hk (by rw [y]; decide)) (fun y => hk (by rw [y]; decide)) (by omega) (by omega) (fun y => hk (by rw [y]; decide)) (fun y => hk (by rw [y]; decide)) (fun y => hk (by rw [y]; decide))
    · rw [k4 280 (by decide) (by decide), oN 280 (by decide)]; exact m280 i hi
    · simp only [List.mem_cons, List.not_mem_nil, or_false, not_or] at hk
      rw [hs.1 k hk.1 hk2, r9 k (by simp only [List.mem_cons, List.not_mem_nil, or_false]; omega)]
  · -- a fault
    rw [m13] at f6
    rw [m14] at f7
    unfold w_X11_tellFault w_X11_tellFault_b15
    intro N1 g1
    refine ⟨fun _ N2 g2 => ⟨fun y => absurd rfl y, fun _ => ?_⟩, fun y => absurd (by rw [← f6]; exact y) dz⟩
    have hYE : Rty E R := Rty_C hY (fun k x y => hE.1 k (by omega) (by omega) (by omega) (by omega) (by omega))
    have hLE : Rlk E := Rlk_of hL (by rw [hE.1 8 (by omega) (by omega) (by omega) (by omega) (by omega)]) (hE.1 14 (by omega) (by omega) (by omega) (by omega) (by omega)) (hE.1 19 (by omega) (by omega) (by omega) (by omega) (by omega)) (hE.1 20 (by omega) (by omega) (by omega) (by omega) (by omega))
    have mC : ∀ k, k ≠ 0 → ¬ (cs 4 ≤ k ∧ k ≤ cs 4 + 18) → k ≠ 280 → k ≠ 283 → k ≠ 284 → N2 k = C k := fun k a b d e f => by
      rw [g2, g1]; funext i; rw [ux_c _ _ _ _ a, ux_c _ _ _ _ a, hF.1 k (by omega) d e f, hE.1 k (by omega) (by omega) (by omega) (by omega) d]
    have m0 : ∀ i, i ∉ ([16, 17] : List Int) → N2 0 i = C 0 i := fun i hi => by
      rw [g2, g1, ux_i _ _ _ (fun y => hi (by rw [y]; decide)), ux_i _ _ _ (fun y => hi (by rw [y]; decide)), hF.1 0 (by omega) (by decide) (by decide) (by decide), hE.1 0 (by omega) (by omega) (by omega) (by omega) (by omega)]
    have m280 : ∀ i, i ∉ ([6, 7, 8, 9, 10, 13, 14] : List Int) → N2 280 i = C 280 i := fun i hi => by
      rw [g2, g1, ux_c _ _ _ _ (by decide), ux_c _ _ _ _ (by decide), hF.2.2 i (fun y => hi (by simp only [List.mem_cons, List.not_mem_nil, or_false] at y ⊢; omega)), hE.2.2.2.2.2.2.2.2 i (fun y => hi (by simp only [List.mem_cons, List.not_mem_nil, or_false] at y ⊢; omega))]
    refine ref _ fun A oA iA zA SA => ?_
    have hYA : Rty E A := Rty_R hYE (fun k a b _ => oA k (by omega) (by omega)) (iA 20 (by decide))
    refine p_takePicture hYA hLE SA (fun dz' => absurd dz' dz) (fun _ L F x0 x83 x84 w5 e5 _ M6 e6 w7 e7 _ => ⟨fun y => ?_, fun _ w9 e9 _ => ?_⟩)
    · rw [e6, ux_i _ _ _ (by decide)] at e7; omega
    rw [e6, ux_i _ _ _ (by decide)] at e9
    unfold w_X12_load_b90 w_X12_load_b106
    intro M7 e7' u2 t2 _
    rw [e7', e6, ux_i _ _ _ (by decide), ux_i _ _ _ (by decide)] at t2
    refine ⟨fun y => by omega, fun _ M8 e8 u3 t3 _ => ?_⟩
    rw [e8, ux_s] at t3
    refine ⟨fun y => by omega, fun _ => Or.inr ⟨rfl, by rw [e8, ux_s], ?_, ?_, tyLe_of (by rw [mC 8 (by omega) (by omega) (by omega) (by omega) (by omega)]) (fun k a b => mC k (by omega) (by omega) (by omega) (by omega) (by omega)), ⟨fun k hk hk2 => mC k (fun y => hk (by rw [y]; decide)) (by omega) (fun y => hk (by rw [y]; decide)) (fun y => hk (by rw [y]; decide)) (fun y => hk (by rw [y]; decide)), fun i hi => m0 i (fun y => hi (by simp only [List.mem_cons, List.not_mem_nil, or_false] at y ⊢; omega)), m280⟩, ?_, ?_⟩⟩
    · have r8 : ∀ k, k ∉ [0, 38, 39, 40, 41, 42, 55, 56, 57, 58, 60, 98, 100, 101] → M8 k = R k := fun k hk => by
        rw [e8, e7', e6]; funext i
        simp only [List.mem_cons, List.not_mem_nil, or_false, not_or] at hk
        rw [ux_c _ _ _ _ hk.1, ux_c _ _ _ _ hk.1, ux_c _ _ _ _ hk.1, F.1 k (by simp only [List.mem_cons, List.not_mem_nil, or_false]; omega), oA k hk.1 (by omega)]
      have z8 : ∀ i, i ∉ ([0, 81, 82, 83, 84, 141, 142, 143, 146] : List Int) → M8 0 i = R 0 i := fun i hi => by
        rw [e8, e7', e6, ux_i _ _ _ (fun y => hi (by rw [y]; decide)), ux_i _ _ _ (fun y => hi (by rw [y]; decide)), ux_i _ _ _ (fun y => hi (by rw [y]; decide)), F.2.2.2.2.2 i (fun y => hi (by simp only [List.mem_cons, List.not_mem_nil, or_false] at y ⊢; omega)), iA i (fun y => hi (by simp only [List.mem_cons, List.not_mem_nil, or_false] at y ⊢; omega))]
      obtain ⟨nB, nJ, tl⟩ := RB_ld (C' := N2) (R' := M8) hB hJ (fun k a b d => mC k a (by omega) (by omega) (by omega) (by omega)) (fun i a b => ⟨by rw [mC 12 (by omega) (by omega) (by omega) (by omega) (by omega), r8 16 (by decide)]; have := (hY.2.2.2.1 i a b).1; unfold Rcls at this; exact this.2.2.2.2.2.1, fun w => by rw [mC 12 (by omega) (by omega) (by omega) (by omega) (by omega)]; exact w⟩) (fun i a b => by rw [mC 12 (by omega) (by omega) (by omega) (by omega) (by omega)]) (fun k a b => r8 k (by simp only [List.mem_cons, List.not_mem_nil, or_false] at a ⊢; omega)) (fun i hi => z8 i (by simp only [List.mem_cons, List.not_mem_nil, or_false] at hi ⊢; omega))
      refine ⟨nB, nJ, ps_sp hY hcs tl ?_ (fun q a b d => mC q (by omega) (by omega) (by omega) (by omega) (by omega)) (m0 5 (by decide)) (fun k i q a b q0 q4 w => ?_)⟩
      · exact PF_e hPF (fun k a b => by rw [g2, g1]; funext i; rw [ux_c _ _ _ _ (by omega), ux_c _ _ _ _ (by omega)])
      · by_cases in1 : k ∈ [0, 38, 39, 40, 41, 42, 55, 56, 57, 58, 60, 98, 100, 101]
        · have e' : M8 k i = L k i := by rw [e8, e7', e6, ux_c _ _ _ _ (by omega), ux_c _ _ _ _ (by omega), ux_c _ _ _ _ (by omega)]
          rw [e', ← oA k (by omega) (by omega)]
          simp only [List.mem_cons, List.not_mem_nil, or_false] at in1
          unfold rw_ at w
          obtain ⟨y1, y2, y3, y4, y5, y6⟩ := F
          by_cases a1 : k ∈ [39, 40, 41, 42]
          · exact y2 k i a1 (by simp only [List.mem_cons, List.not_mem_nil, or_false] at a1; omega)
          · by_cases a2 : k ∈ [38, 55]
            · exact y4 k i a2 (by simp only [List.mem_cons, List.not_mem_nil, or_false] at a2; omega)
            · by_cases a3 : k ∈ [56, 57]
              · exact y5 k i a3 (by simp only [List.mem_cons, List.not_mem_nil, or_false] at a3; omega)
              · simp only [List.mem_cons, List.not_mem_nil, or_false] at a1 a2 a3
                have : k = 58 := by omega
                subst this
                exact y3 i (by omega)
        · rw [r8 k in1]
    · refine ⟨?_, ?_⟩
      · rw [g2, g1, ux_i _ _ _ (by decide), ux_s, f6, e8, e7', e6, ux_i _ _ _ (by decide), ux_i _ _ _ (by decide), ux_s, e5, x83]
      · rw [g2, ux_s, f7, e8, e7', ux_i _ _ _ (by decide), ux_s, e9, x84]
    · intro k hk hk2
      rw [e8, e7', e6]; funext i
      simp only [List.mem_cons, List.not_mem_nil, or_false, not_or] at hk
      rw [ux_c _ _ _ _ hk.1, ux_c _ _ _ _ hk.1, ux_c _ _ _ _ hk.1, F.1 k (by simp only [List.mem_cons, List.not_mem_nil, or_false]; omega), oA k hk.1 (by omega)]
    · intro i hi
      rw [e8, e7', e6, ux_i _ _ _ (fun y => hi (by rw [y]; decide)), ux_i _ _ _ (fun y => hi (by rw [y]; decide)), ux_i _ _ _ (fun y => hi (by rw [y]; decide)), F.2.2.2.2.2 i (fun y => hi (by simp only [List.mem_cons, List.not_mem_nil, or_false] at y ⊢; omega)), iA i (fun y => hi (by simp only [List.mem_cons, List.not_mem_nil, or_false] at y ⊢; omega))]
