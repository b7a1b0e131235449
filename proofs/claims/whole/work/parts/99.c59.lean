/-! swap, on both sides: the call -/
def FQqc (C C' : MM) : Prop := (∀ k, k ∉ [30, 32, 33, 36, 37, 38, 39, 43, 44, 260] → k < 46 ∨ 231 < k → C' k = C k) ∧ (∀ i, i ∉ ([1, 5, 6] : List Int) → C' 36 i = C 36 i) ∧ C' 219 20 = C 219 20
def FQqr (R R' : MM) : Prop := (∀ k, k ∉ [0, 6, 23, 24, 25, 26, 27, 28, 31, 32, 33, 34, 35, 36, 37, 60, 62, 72, 73, 74, 79] → k < 38 ∨ 59 < k → R' k = R k) ∧ ∀ i, i ∉ ([0, 29, 36, 47, 73, 97, 98, 99, 101, 102, 103] : List Int) → R' 0 i = R 0 i
set_option maxHeartbeats 1000000 in
theorem t_swap {C R : MM} {a b B : Int} (ra : ri_ a) (rb : ri_ b) (h : RD C R) (hP : Rpr C R) (hX : SXq B C) (B0 : 0 ≤ B) (B1 : B + 90003 ≤ 2147483646) (wb : C 36 1 + 4200 < 2147483647) : w_X11_swap (fun r C' => w_X12_swap (fun r' R' => r = r' ∧ R' 0 0 = 0 ∧ RD C' R' ∧ Rpr C' R' ∧ SXq (B + 90003) C' ∧ C' 36 1 ≤ C 36 1 + 4100 ∧ FQqc C C' ∧ FQqr R R') a b R) (fun E C' => C' = C ∧ w_X12_swap (fun r' R' => (E = "java/util/NoSuchElementException" ∧ R' = ux_ R 0 0 1) ∨ (E = "java/lang/IllegalArgumentException" ∧ R' = ux_ R 0 0 2)) a b R) a b C := by
  obtain ⟨hB, hJ, cs, hcs⟩ := id h
  have hH := hB.2.2
  have hY := hB.1.2.2.2.2
  have n4 := hH.2.2.1
  have b31 : ∀ (Q : Int → MM → Prop) s, 0 < s → Q 0 (ux_ R 0 0 s) → w_X12_swap_b31 Q a b s R := fun Q s s0 hq => by
    unfold w_X12_swap_b31
    intro M1 e1 v2 e2 _
    rw [e1, ux_s] at e2
    exact ⟨fun y => by omega, fun _ => by rw [e1]; exact hq⟩
  have ref1 : ∀ Q : Int → MM → Prop, ¬ (hOk C a ∧ hOk C b) → Q 0 (ux_ R 0 0 1) → w_X12_swap Q a b R := fun Q hn hq => by
    unfold w_X12_swap
    refine p_R_isObject hH (fun ha _ => ⟨fun q => absurd q (by decide), fun _ => p_R_isObject hH (fun hb => absurd ⟨ha, hb⟩ hn) (fun _ _ => ⟨fun q => absurd rfl q, fun _ => ?_⟩)⟩) (fun _ _ => ⟨fun _ => ?_, fun q => absurd rfl q⟩)
    · unfold w_X12_swap_b17; exact b31 Q 1 (by omega) hq
    · unfold w_X12_swap_b17; exact b31 Q 1 (by omega) hq
  unfold w_X11_swap
  have no : ∀ M, M = C → ¬ (hOk C a ∧ hOk C b) → w_X11_swap_b22 (fun r C' => w_X12_swap (fun r' R' => r = r' ∧ R' 0 0 = 0 ∧ RD C' R' ∧ Rpr C' R' ∧ SXq (B + 90003) C' ∧ C' 36 1 ≤ C 36 1 + 4100 ∧ FQqc C C' ∧ FQqr R R') a b R) (fun E C' => C' = C ∧ w_X12_swap (fun r' R' => (E = "java/util/NoSuchElementException" ∧ R' = ux_ R 0 0 1) ∨ (E = "java/lang/IllegalArgumentException" ∧ R' = ux_ R 0 0 2)) a b R) M := fun M e hn => by
    unfold w_X11_swap_b22
    exact ⟨e, ref1 _ hn (Or.inl ⟨rfl, rfl⟩)⟩
  refine p_isThere n4 (fun ha _ => ⟨fun q => absurd q (by decide), fun _ => p_isThere n4 (fun hb _ => ⟨fun _ => ⟨fun z => ?_, fun z => ?_⟩, fun q => absurd q (by decide)⟩) (fun hb _ => ⟨fun q => absurd rfl q, fun _ => no C rfl fun q => hb q.2⟩)⟩) (fun ha _ => ⟨fun _ => no C rfl fun q => ha q.1, fun q => absurd rfl q⟩)
  · unfold w_X11_swap_b47
    refine ⟨rfl, ?_⟩
    unfold w_X12_swap
    exact p_R_isObject hH (fun _ _ => ⟨fun q => absurd q (by decide), fun _ => p_R_isObject hH (fun _ _ => ⟨fun _ => ⟨fun q => absurd z q, fun _ => b31 _ 2 (by omega) (Or.inr ⟨rfl, rfl⟩)⟩, fun q => absurd q (by decide)⟩) (fun q => absurd hb q)⟩) (fun q => absurd ha q)
  have hB0 := RB_00 hB 0
  have hJ0 := Rjn_00 hJ 0
  have ref : ∀ Q : Int → MM → Prop, w_X12_swap_b48 Q a b 1 0 (ux_ R 0 0 0) → w_X12_swap Q a b R := fun Q hq => by
    unfold w_X12_swap
    refine p_R_isObject hH (fun _ _ => ⟨fun q => absurd q (by decide), fun _ => p_R_isObject hH (fun _ _ => ⟨fun _ => ⟨fun _ => ?_, fun q => absurd q z⟩, fun q => absurd q (by decide)⟩) (fun q => absurd hb q)⟩) (fun q => absurd ha q)
    unfold w_X12_swap_b31
    intro M1 e1 v2 e2 _
    exact ⟨fun _ => by rw [e1]; exact hq, fun y => absurd (by rw [e2, e1, ux_s]; decide) y⟩
  refine p_canSwap hB ha hb (fun hg _ => ⟨fun _ => ?_, fun q => absurd q (by decide)⟩) (fun hg _ => ⟨fun q => absurd rfl q, fun _ => ?_⟩)
  rotate_left
  · unfold w_X11_swap_b47
    refine ⟨rfl, ref _ (r_canSwap hB0 ha hb z (fun q => absurd q hg) (fun _ => ?_))⟩
    unfold w_X12_swap_b291
    intro M1 e1 v2 e2 _
    rw [e1, ux_s] at e2
    exact ⟨fun y => by omega, fun _ => Or.inr ⟨rfl, by rw [e1, ux_00]⟩⟩
  refine p_swapSlots hB hJ ha hb hg.1 (by omega) (fun M1 n1 fw1 hR1 c32 c36 p0 p1 ⟨m1, t1⟩ _ => ?_)
  obtain ⟨Rc1, hBc1, hJc1⟩ := hR1
  have gf1 : ∀ f, 0 ≤ f → f < 6 * M1 8 0 → gdf M1 a b f := fun f f0 f1 q1 q2 => by
    rw [fw1.1 8 (by decide)] at f1
    rw [fw1.1 21 (by decide)] at q1
    rw [fw1.1 19 (by decide)] at q2
    have gd := hg.2 f f0 f1 q1 q2
    rw [c32, fw1.1 20 (by decide)]
    unfold gdv
    rw [fw1.1 27 (by decide)]
    exact ⟨fun q => (ft_eq (fw1.1 11 (by decide)) _ _).mpr (gd.1 q), fun q w => (ft_eq (fw1.1 11 (by decide)) _ _).mpr (gd.2 q w)⟩
  refine p_swapStatics hBc1 hJc1 ((fw_ok fw1 a).mpr ha) ((fw_ok fw1 b).mpr hb) gf1 (by omega) (fun M2 n2 fw2 hR2 d36 s0 s1 ⟨m2, t2⟩ _ => ⟨by unfold ri_; omega, ?_⟩)
  obtain ⟨Rc2, hBc2, hJc2⟩ := hR2
  have fw := FWc_t fw1 fw2
  have rt := hBc2.2.2.2.2.2.2.2.2.2.2.2.2.2.1
  have ha2 := (fw_ok fw a).mpr ha
  have hb2 := (fw_ok fw b).mpr hb
  obtain ⟨hB3, hJ3⟩ := RB_rt hBc2 hJc2 ha2 hb2
  refine p_swapRoots rt.2.1 rt.2.2.1 ?_
  obtain ⟨M3, e3⟩ : ∃ M3, M3 = rtn 33 a b (M2 26 11) M2 := ⟨_, rfl⟩
  rw [← e3] at hB3 hJ3
  have k3 : ∀ k, k ≠ 33 → M3 k = M2 k := fun k hk => by rw [e3]; exact rtn_o hk
  have kC : ∀ k, k ∉ [30, 32, 33, 36, 37, 38, 39, 43, 44] → M3 k = C k := fun k hk => by
    simp only [List.mem_cons, List.not_mem_nil, or_false] at hk
    rw [k3 k (by omega), fw.1 k (by simp; omega)]
  have m36 : M3 36 1 = C 36 1 + (n1 + n2) := by rw [k3 36 (by decide)]; omega
  -- the reference, as far as the roots
  have refr : ∀ Q : Int → MM → Prop, (∀ R3, RB M3 R3 → Rjn M3 R3 → (∀ k, k ∉ [0, 6, 23, 24, 25, 26, 27, 28, 31, 32, 33, 34, 35] → R3 k = R k) → (∀ i, i ∉ ([0, 29, 36] : List Int) → R3 0 i = R 0 i) → R3 0 0 = 0 → (n1 + n2 ≤ 0 → Q (n1 + n2) R3) ∧ (¬ n1 + n2 ≤ 0 → (∀ v4, v4 = R3 0 29 → ri_ v4 → ri_ (v4 - 1) ∧ (w_X12_lookAtPromises (fun _ M7 => Q (n1 + n2) M7) (v4 - 1) R3)))) → w_X12_swap Q a b R := fun Q hq => by
    refine ref Q (r_canSwap hB0 ha hb z (fun _ => ?_) (fun q => absurd hg q))
    unfold w_X12_swap_b291
    intro N1 f1 v2 f2 _
    refine ⟨fun _ => ?_, fun y => absurd (by rw [f2, f1, ux_s]; decide) y⟩
    rw [f1, ux_00]
    refine r_swapSlots hB0 hJ0 z t1 (fun R1 hB1 hJ1 fr1 _ _ => ?_)
    refine r_swapStatics hB1 hJ1 z p0 (by omega) t2 (fun R2 hB2 hJ2 fr2 _ _ => ?_)
    have fr := FWr_t fr1 fr2
    have rt2 := hB2.2.2.2.2.2.2.2.2.2.2.2.2.2.1
    refine r_swapRoots (by rw [← rt2.1]; exact rt2.2.1) (by rw [← rt2.1]; exact rt2.2.2.1) ra rb (fun R3 f3 => ?_)
    obtain ⟨q1, q2⟩ := RB_rt hB2 hJ2 ha2 hb2
    rw [← e3, ← f3] at q1 q2
    refine hq R3 q1 q2 (fun k hk => ?_) (fun i hi => ?_) ?_
    · simp only [List.mem_cons, List.not_mem_nil, or_false] at hk
      rw [f3, rtn_o (by omega), fr.1 k (by simp; omega), ux_g _ _ _ (by omega)]
    · simp only [List.mem_cons, List.not_mem_nil, or_false] at hi
      rw [f3, rtn_o (by decide), fr.2 i (by simp only [List.mem_cons, List.not_mem_nil, or_false]; omega), ux_i _ _ _ (by omega)]
    · rw [f3, rtn_o (by decide), fr.2 0 (by decide), ux_s]
  rw [← e3]
  have tl : tyLe C M3 := tyLe_of (by rw [kC 8 (by decide)]) (fun k x y => kC k (by simp; omega))
  refine ⟨fun y => ?_, fun y v19 e19 _ => ⟨by unfold ri_; have := hJ.2.1; omega, ?_⟩⟩
  · refine refr _ (fun R3 q1 q2 q3 q4 q5 => ⟨fun _ => ⟨rfl, q5, ⟨q1, q2, cs, pcs_fr hY hcs tl (fun q x w => kC q (by simp; omega)) (by rw [kC 0 (by decide)]) (fun k x w => q3 k (by simp; omega))⟩, ?_, SXq_m (SXq_e hX (fun k hk => kC k (by simp; omega))) (by omega), by omega, ⟨fun k hk _ => kC k (by simp only [List.mem_cons, List.not_mem_nil, or_false] at hk ⊢; omega), fun i hi => ?_, by rw [kC 219 (by decide)]⟩, ⟨fun k hk _ => q3 k (by simp only [List.mem_cons, List.not_mem_nil, or_false] at hk ⊢; omega), fun i hi => q4 i (by simp only [List.mem_cons, List.not_mem_nil, or_false] at hi ⊢; omega)⟩⟩, fun w => absurd y w⟩)
    · exact Rpr_fr hP (by rw [kC 0 (by decide)]) (fun q x w => kC q (by simp; omega)) (fun j i x w _ => by rw [q3 j (by simp; omega)]) (q3 78 (by decide)) (q3 79 (by decide)) (q4 113 (by decide)) (q4 114 (by decide))
    · rw [k3 36 (by decide)]; exact fw.2 i hi
  · rw [e19, m36]
    refine aft (cs := cs) hY hcs hP hX B0 B1 (fun k hk => kC k (by simp; omega)) hB3.1.2.2.2.2 hB3.2.2 (fun C' f1 f2 sx lk => ?_)
    refine refr _ (fun R3 q1 q2 q3 q4 q5 => ⟨fun w => absurd w y, fun _ v4 e4 _ => ⟨?_, ?_⟩⟩)
    · rw [← q2.1, m36] at e4; unfold ri_; have := hJ.2.1; omega
    · rw [e4, ← q2.1, m36]
      refine lk R3 _ q1 q2 (fun k x w u => q3 k (by simp; omega)) (fun i hi => q4 i (by simp only [List.mem_cons, List.not_mem_nil, or_false] at hi ⊢; omega)) (fun R' hD hPr fl => ⟨rfl, ?_, hD, hPr, sx, ?_, ⟨fun k hk hr => ?_, fun i hi => ?_, f2⟩, ⟨fun k hk hr => ?_, fun i hi => ?_⟩⟩)
      · rw [fl.2.2 0 (by decide)]; exact q5
      · rw [f1 36 (by omega) (by omega)]; omega
      · simp only [List.mem_cons, List.not_mem_nil, or_false] at hk
        rw [f1 k (by omega) hr]; exact kC k (by simp; omega)
      · rw [f1 36 (by omega) (by omega), k3 36 (by decide)]; exact fw.2 i hi
      · simp only [List.mem_cons, List.not_mem_nil, or_false] at hk
        rw [fl.1 k (by simp; omega) hr]; exact q3 k (by simp; omega)
      · simp only [List.mem_cons, List.not_mem_nil, or_false] at hi
        rw [fl.2.2 i (by simp only [List.mem_cons, List.not_mem_nil, or_false]; omega)]; exact q4 i (by simp only [List.mem_cons, List.not_mem_nil, or_false]; omega)
