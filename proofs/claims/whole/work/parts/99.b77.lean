def FQc (C C' : MM) : Prop := (∀ k, k ∉ [0, 280, 283, 284] → k < 45 ∨ 210 < k → C' k = C k) ∧ (∀ i, i ≠ 5 → C' 0 i = C 0 i) ∧ ∀ i, i ∉ ([6, 7, 8, 9, 10, 13, 14] : List Int) → C' 280 i = C 280 i
def FQr (R R' : MM) : Prop := (∀ k, k ∉ [0, 16, 98, 100, 101] → k < 38 ∨ 62 < k → R' k = R k) ∧ ∀ i, i ∉ ([0, 73, 83, 84, 141, 142, 143, 146] : List Int) → R' 0 i = R 0 i
theorem t_recall {C R : MM} {p k : Int} (h : RD C R) (hg : Rlg C R) : w_X11_recall (fun r C' => w_X12_recall (fun r' R' => r = r' ∧ R' 0 0 = 0 ∧ RD C' R' ∧ FQc C C' ∧ FQr R R') p k R) (fun X C' => w_X12_recall (fun r' R' => C' = C ∧ (X = "java/lang/IndexOutOfBoundsException" ∧ R' = ux_ R 0 0 1 ∨ X = "java/util/NoSuchElementException" ∧ R' = ux_ R 0 0 2)) p k R) p k C := by
  obtain ⟨hB, hJ, cs, hcs⟩ := h
  have hY := hB.1.2.2.2.2
  have hL := hB.2.1
  obtain ⟨h1, h2, h3, h4, h5⟩ := id hcs
  have ic := h4 4 (by omega) (by omega)
  have mc := isP_m ic
  have g2 : C 280 5 = R 0 149 := hg.2.1
  unfold w_X11_recall w_X11_needPicture
  refine p_isPic (fun p0 p4 _ => ⟨fun _ => ?_, fun y => absurd y (by decide)⟩) (fun hn _ => ⟨fun y => absurd rfl y, fun _ => ?_⟩)
  rotate_left
  · unfold w_X12_recall
    refine p_R_isPic (fun a b => absurd ⟨a, b⟩ hn) (fun _ _ => ⟨fun _ => ?_, fun y => absurd rfl y⟩)
    unfold w_X12_recall_b30
    intro M1 e1 v2 e2 _
    rw [e1, ux_s] at e2
    exact ⟨fun y => by omega, fun _ => ⟨rfl, Or.inl ⟨rfl, e1⟩⟩⟩
  have bad : (k < 0 ∨ C 280 5 ≤ k) → w_X11_recall_b34 (fun r C' => w_X12_recall (fun r' R' => r = r' ∧ R' 0 0 = 0 ∧ RD C' R' ∧ FQc C C' ∧ FQr R R') p k R) (fun X C' => w_X12_recall (fun r' R' => C' = C ∧ (X = "java/lang/IndexOutOfBoundsException" ∧ R' = ux_ R 0 0 1 ∨ X = "java/util/NoSuchElementException" ∧ R' = ux_ R 0 0 2)) p k R) C := fun hk => by
    unfold w_X11_recall_b34 w_X12_recall
    have b21 : w_X12_recall_b21 (fun r' R' => C = C ∧ ("java/util/NoSuchElementException" = "java/lang/IndexOutOfBoundsException" ∧ R' = ux_ R 0 0 1 ∨ "java/util/NoSuchElementException" = "java/util/NoSuchElementException" ∧ R' = ux_ R 0 0 2)) p k R := by
      unfold w_X12_recall_b21 w_X12_recall_b30
      intro M1 e1 v2 e2 _
      rw [e1, ux_s] at e2
      exact ⟨fun y => by omega, fun _ => ⟨rfl, Or.inr ⟨rfl, e1⟩⟩⟩
    refine p_R_isPic (fun _ _ _ => ⟨fun y => absurd y (by decide), fun _ => ⟨fun _ => b21, fun y v5 e5 _ => ⟨fun z => by omega, fun _ => b21⟩⟩⟩) (fun y => absurd ⟨p0, p4⟩ y)
  refine ⟨fun y => bad (Or.inl y), fun y v3 e3 _ => ⟨fun z => bad (Or.inr (by omega)), fun z => ⟨cs 4, h2, ic, ?_⟩⟩⟩
  obtain ⟨ps, K, eK, hG, h102⟩ := LG_of hg
  obtain ⟨num, rfl⟩ : ∃ num : Nat, k = num := ⟨k.toNat, by omega⟩
  have nK : num < K := by omega
  obtain ⟨y1, y2, y3, y4, y5⟩ := hG.2.2.2.2.2 num nK
  have g8 := hG.2.2.1
  have K8 := hG.2.2.2.1
  have l6 := hg.2.2.2.2.2.1
  refine p_readRec hY hL ic h3 hG rfl nK fun E M hE hYE hLE dz hu hF hD hM hI hwM _ => ⟨fun _ => ?_, fun y => absurd y (by decide)⟩
  have elB : R 99 (ps num) % 256 + 256 * (R 99 (ps num + 1) % 256) = lnL C (ps num) := by
    unfold lnL
    rw [l6 (ps num) y1 (by omega), l6 (ps num + 1) (by omega) (by omega)]
  have byB : ∀ i, 0 ≤ i → i < lnL C (ps num) → R 99 (ps num + 2 + i) % 256 = bL C (ps num) i := fun i i0 i1 => by
    unfold bL
    rw [if_pos ⟨i0, i1⟩, l6 _ (by omega) (by omega)]
  clear y2 y5
  generalize ha : ps num = a at *
  generalize hB' : bL C a = B at *
  generalize hn' : lnL C a = n at *
  generalize hcn : nvl B n 0 = cn at *
  have ip := h4 p p0 (by omega)
  have mp := isP_m ip
  have np := h5 p 4 p0 p4 (by omega)
  unfold w_X11_exchange
  refine ⟨p0, p4, cs p, by rw [hM 45 (by omega) (by omega) (by omega) (by omega)]; exact (h1 p p0 p4).1, ip, cs 4, by rw [hM 0 (by omega) (by omega) (by omega) (by omega)]; exact h2, ic, p0, p4, fun M3 e3 M4 e4 => ⟨p0, p4, cs 4, by rw [e4, e3, ux_c _ _ _ _ (by decide), ux_s], ic, fun vr er _ _ => ?_⟩⟩
  have kM : ∀ k, k ≠ 0 → k ≠ 45 → M4 k = M k := fun k a b => by rw [e4, e3]; funext i; rw [ux_c _ _ _ _ a, ux_c _ _ _ _ b]
  have kC : ∀ k, k ≠ 0 → k ≠ 45 → ¬ (cs 4 ≤ k ∧ k ≤ cs 4 + 18) → k ≠ 280 → k ≠ 283 → k ≠ 284 → M4 k = C k := fun k a b d e f g => by rw [kM k a b, hM k d e f g]
  have z4 : ∀ i, i ≠ 5 → M4 0 i = C 0 i := fun i hi => by
    rw [e4, ux_i _ _ _ hi, e3, ux_c _ _ _ _ (by decide), hM 0 (by omega) (by omega) (by omega) (by omega)]
  obtain ⟨c0, c4, hA'⟩ := id hD.1
  have hrc0 := hD.2.2.2.2.1
  have hrc1 := hD.2.2.2.2.2.1
  have hYM : Rty M R := Rty_C hY (fun k a b => hM k (by omega) (by omega) (by omega) (by omega))
  have hw : PW M4 (cs 4) := pw_fr hYM hwM (tyLe_of (by rw [kM 8 (by omega) (by omega)]) (fun k a b => kM k (by omega) (by omega))) (by rw [kM (cs 4) (by omega) (by omega)]) (by rw [kM (cs 4) (by omega) (by omega)]) (fun q a b => kM q (by omega) (by omega)) (fun t a b => by rw [kM (cs 4 + 13) (by omega) (by omega)]; exact hwM.2.2.2.2.2.2.2.2.2.2.2.1 t a b)
  have e16 : M4 16 = E 16 := by rw [kM 16 (by omega) (by omega), hF.1 16 (by omega) (by omega) (by omega) (by omega)]
  have h16 := hY.2.2.1
  -- the reference
  unfold w_X12_recall
  refine p_R_isPic (fun _ _ _ => ⟨fun y => absurd y (by decide), fun _ => ⟨fun y => by omega, fun _ v5 e5 _ => ⟨fun _ => ?_, fun y => by omega⟩⟩⟩) (fun y => absurd ⟨p0, p4⟩ y)
  unfold w_X12_recall_b30
  intro N1 g1 w2 f2 _
  rw [g1, ux_s] at f2
  refine ⟨fun _ => ⟨by omega, by omega, fun w4 f4 _ => ?_⟩, fun y => by omega⟩
  rw [g1, ux_c _ _ _ _ (by decide), h102 num nK, ha] at f4
  rw [f4]
  have n99 : N1 99 = R 99 := by rw [g1]; funext i; exact ux_c _ _ _ _ (by decide)
  have n16 : N1 16 = R 16 := by rw [g1]; funext i; exact ux_c _ _ _ _ (by decide)
  have hYA : Rty E N1 := Rty_R hYE (fun k a b _ => by rw [g1]; funext i; exact ux_c _ _ _ _ (by omega)) (by rw [g1, ux_i _ _ _ (by decide)])
  have e8 : E 8 0 = C 8 0 := by rw [hE.1 8 (by omega) (by omega) (by omega) (by omega) (by omega)]
  refine p_recR (E := E) (B := B) (n := n) hYA hLE y1 (by have := byB; omega) (by omega) (by rw [n99]; exact elB) (fun i i0 i1 => by rw [n99]; exact byB i i0 i1) dz (fun u hu' q => ?_) fun N hN n83 _ hR => ?_
  · rw [hcn] at hu'
    have tv := (hA' u (by omega)).1.2.2.2.1
    unfold vT at tv
    have cl := (hY.2.2.2.1 (tY E B n u) (by omega) (by omega)).1
    unfold Rcls at cl
    rw [n16, ← cl.2.2.2.2.2.1]
    exact hu u hu' q
  rw [hcn] at hR
  refine p_copyNow (E := E) p0 p4 c0 c4 hR hrc0 hrc1 fun M9 FC k38 kt kv k55 kr => ?_
  have r9 : ∀ k, k ∉ [0, 16, 38, 39, 40, 41, 42, 55, 56, 57, 58, 60, 98, 100, 101] → M9 k = R k := fun k hk => by
    rw [FC.1 k (by simp only [List.mem_cons, List.not_mem_nil, or_false] at hk ⊢; omega), hN.1 k hk, g1]; funext i; exact ux_c _ _ _ _ (fun y => hk (by rw [y]; decide))
  have z9 : ∀ i, i ∉ ([0, 83, 84, 141, 142, 143, 146] : List Int) → M9 0 i = R 0 i := fun i hi => by
    rw [FC.1 0 (by decide), hN.2.2.1 i (by simp only [List.mem_cons, List.not_mem_nil, or_false] at hi ⊢; omega), g1, ux_i _ _ _ (fun y => hi (by rw [y]; decide))]
  have u9 : ∀ i, 0 ≤ i → i < 16 → M9 16 i = R 16 i := fun i a b => by rw [FC.1 16 (by decide), hN.2.2.2 i a b, n16]
  have m12 : M4 12 = C 12 := kC 12 (by omega) (by omega) (by omega) (by omega) (by omega) (by omega)
  have rb := fun (R' : MM) (r : ∀ k, k ∉ [0, 16, 36, 37] → k < 38 → R' k = R k) (r16 : R' 16 = M9 16) (r0 : ∀ i, i ∈ ([3, 20, 26, 27, 28, 29, 31, 36, 44] : List Int) → R' 0 i = R 0 i) => RB_ld (C' := M4) (R' := R') hB hJ (fun k a b d => kC k a (by omega) (by omega) (by omega) (by omega) (by omega)) (fun i a b => by
    have cl := (hY.2.2.2.1 i a b).1
    unfold Rcls at cl
    rw [r16, m12, u9 i a (by omega)]
    exact ⟨cl.2.2.2.2.2.1, fun q => q⟩) (fun i _ _ => by rw [m12]) r r0
  obtain ⟨nB, nJ, tl⟩ := rb M9 (fun k a b => r9 k (by simp only [List.mem_cons, List.not_mem_nil, or_false] at a ⊢; omega)) rfl (fun i hi => z9 i (by simp only [List.mem_cons, List.not_mem_nil, or_false] at hi ⊢; omega))
  obtain ⟨ec0, hb9⟩ := Rpb_dec (p := p) hYE hD (fun k a b => kM k (by omega) (by omega)) e16 hR k38 kt kv k55 kr
  have hch : ∀ t, 0 ≤ t → t < M4 (cs 4) 0 → M4 (cs 4 + 13) t = 0 := fun t a b => by
    rw [kM (cs 4 + 13) (by omega) (by omega), hF.1 (cs 4 + 13) (by omega) (by omega) (by omega) (by omega)]; exact hE.2.2.2.2.2.2.1 t a (by omega)
  have hlo : M4 (cs 4) 16 = 0 := by rw [kM (cs 4) (by omega) (by omega), hF.2.1 16 (by decide) (by decide)]; exact hE.2.2.2.2.1
  refine p_R_study nB.1.2.2.2.2 hw hb9 p0 (by omega) hch hlo fun RR hs hb3 ht3 => ⟨p0, by omega, fun vv ev _ => ?_⟩
  have hsh : ShK M4 RR (cs 4) p := by
    have k1 : M4 (cs 4 + 18) 1 = 0 := by rw [kM (cs 4 + 18) (by omega) (by omega), hF.1 (cs 4 + 18) (by omega) (by omega) (by omega) (by omega)]; exact hE.2.2.2.2.2.2.2.1
    obtain ⟨j1, j2, j4, j8⟩ := kb_0
    refine ⟨by omega, by omega, fun q => absurd (by rw [k1]; exact j1) q, fun q => absurd (by rw [k1]; exact j2) q, fun q => absurd (by rw [k1]; exact j4) q, fun q => absurd (by rw [k1]; exact j8) q⟩
  have zR : ∀ i, i ∉ ([0, 73, 83, 84, 141, 142, 143, 146] : List Int) → RR 0 i = R 0 i := fun i hi => by
    rw [hs.2.1 i (fun y => hi (by rw [y]; decide)), z9 i (fun y => hi (by simp only [List.mem_cons, List.not_mem_nil, or_false] at y ⊢; omega))]
  obtain ⟨fB, fJ, -⟩ := rb RR (fun k a b => by rw [hs.1 k (fun y => a (by rw [y]; decide)) (Or.inl b), r9 k (by simp only [List.mem_cons, List.not_mem_nil, or_false] at a ⊢; omega)]) (hs.1 16 (by decide) (Or.inl (by decide))) (fun i hi => zR i (by simp only [List.mem_cons, List.not_mem_nil, or_false] at hi ⊢; omega))
  refine ⟨by rw [er, ec0, ev, ← hb3.1, ec0], ?_, ⟨fB, fJ, ?_⟩, ⟨fun k hk hk2 => ?_, fun i hi => z4 i hi, fun i hi => ?_⟩, fun k hk hk2 => ?_, zR⟩
  · rw [hs.2.1 0 (by decide), FC.1 0 (by decide), hN.2.2.1 0 (by decide), g1, ux_s]
  · refine ps_ex hY p0 p4 hcs tl ⟨hw, hb3, ht3, hsh⟩ (fun q a b d => ?_) (by rw [e4, e3, ux_c _ _ _ _ (by decide), ux_s]) (fun q hq => ?_) (by rw [e4, ux_s]) (fun k i q a b q0 q4' hqp w => ?_)
    · exact kC q (by omega) (by omega) (by omega) (by omega) (by omega) (by omega)
    · rw [e4, e3, ux_c _ _ _ _ (by decide), ux_i _ _ _ hq, hM 45 (by omega) (by omega) (by omega) (by omega)]
    · have nw : ¬ rw_ k p i := by unfold rw_ at w ⊢; omega
      rw [hs.2.2 k i a b nw, FC.2 k i a b nw, hN.2.1 k i q a b q0 q4' w, g1, ux_c _ _ _ _ (by omega)]
  · simp only [List.mem_cons, List.not_mem_nil, or_false, not_or] at hk
    exact kC k hk.1 (by omega) (by omega) hk.2.1 hk.2.2.1 hk.2.2.2
  · rw [kM 280 (by omega) (by omega)]; exact hI i hi
  · simp only [List.mem_cons, List.not_mem_nil, or_false, not_or] at hk
    rw [hs.1 k hk.1 hk2, r9 k (by simp only [List.mem_cons, List.not_mem_nil, or_false]; omega)]
