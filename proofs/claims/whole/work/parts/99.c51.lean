/-! set, setStatic, on both sides -/
def FSqc (C C' : MM) : Prop := (∀ k, k ∉ [30, 32, 36, 37, 38, 39, 43, 44, 260] → k < 46 ∨ 231 < k → C' k = C k) ∧ (∀ i, i ∉ ([1, 5, 6] : List Int) → C' 36 i = C 36 i) ∧ C' 219 20 = C 219 20
def FSqr (R R' : MM) : Prop := (∀ k, k ∉ [0, 6, 23, 25, 26, 27, 28, 31, 32, 33, 34, 35, 36, 37, 60, 62, 72, 73, 74, 79] → k < 38 ∨ 59 < k → R' k = R k) ∧ ∀ i, i ∉ ([0, 29, 36, 47, 73, 97, 98, 99, 101, 102, 103] : List Int) → R' 0 i = R 0 i
theorem ux_00 (R : MM) (a b : Int) : ux_ (ux_ R 0 0 a) 0 0 b = ux_ R 0 0 b := by
  funext k i
  unfold ux_
  by_cases y : k = 0 ∧ i = 0
  · rw [if_pos y, if_pos y]
  · rw [if_neg y, if_neg y, if_neg y]
theorem FS_of {C C1 C' : MM} (fw : FWc C C1) (f : ∀ k, k ≠ 260 → k < 46 ∨ 231 < k → C' k = C1 k) (h20 : C' 219 20 = C 219 20) : FSqc C C' := by
  refine ⟨fun k hk hr => ?_, fun i hi => ?_, h20⟩
  · simp only [List.mem_cons, List.not_mem_nil, or_false] at hk
    rw [f k (by omega) hr, fw.1 k (by simp; omega)]
  · rw [f 36 (by omega) (by omega)]; exact fw.2 i hi
theorem FSqr_of {R R1 R' : MM} (fw : FWr (ux_ R 0 0 0) R1) (fl : FLq R1 R') : FSqr R R' := by
  refine ⟨fun k hk hr => ?_, fun i hi => ?_⟩
  · simp only [List.mem_cons, List.not_mem_nil, or_false] at hk
    rw [fl.1 k (by simp; omega) hr, fw.1 k (by simp; omega), ux_g _ _ _ (by omega)]
  · simp only [List.mem_cons, List.not_mem_nil, or_false] at hi
    rw [fl.2.2 i (by simp only [List.mem_cons, List.not_mem_nil, or_false]; omega), fw.2 i (by simp only [List.mem_cons, List.not_mem_nil, or_false]; omega), ux_i _ _ _ (by omega)]
set_option maxHeartbeats 1000000 in
theorem tt_set {C R : MM} {o s v B : Int} (h : RD C R) (hP : Rpr C R) (hX : SXq B C) (B0 : 0 ≤ B) (B1 : B + 90003 ≤ 2147483646) (wb : C 36 1 < 2147483647) : w_X11_set (fun r C' => w_X12_set (fun r' R' => r = r' ∧ R' 0 0 = 0 ∧ RD C' R' ∧ Rpr C' R' ∧ SXq (B + 90003) C' ∧ C' 36 1 = C 36 1 + 1 ∧ FSqc C C' ∧ FSqr R R') o s v R) (fun E C' => C' = C ∧ w_X12_set (fun r' R' => (E = "java/util/NoSuchElementException" ∧ R' = ux_ R 0 0 1) ∨ (E = "java/lang/IllegalArgumentException" ∧ R' = ux_ R 0 0 2)) o s v R) o s v C := by
  obtain ⟨hB, hJ, cs, hcs⟩ := h
  obtain ⟨hA, hL, hH⟩ := id hB
  have hY := hA.2.2.2.2
  have h16 := hY.2.2.1
  have bad : ∀ Q : Int → MM → Prop, ¬ (hOk C o ∧ 0 ≤ s ∧ s < ln C o) → Q 0 (ux_ R 0 0 1) → w_X12_set Q o s v R := fun Q hn hq => by
    have hb : w_X12_set_b33 Q o s v R := by
      unfold w_X12_set_b33 w_X12_set_b38
      intro M1 e1 w2 f2 _
      rw [e1, ux_s] at f2
      exact ⟨fun y => by omega, fun _ => by rw [e1]; exact hq⟩
    unfold w_X12_set
    refine p_R_isObject hH (fun hk _ => ⟨fun q => by omega, fun _ => ⟨fun _ => hb, fun z => ⟨hk.1, by have := hk.2.1; have := hH.2.2.1; omega, fun w e _ => ⟨hk.1, by have := hk.2.1; have := hH.2.2.1; omega, fun w2 e2 _ => ?_⟩⟩⟩⟩) (fun _ _ => ⟨fun _ => hb, fun q => absurd rfl q⟩)
    have hr := (hH.2.2.2.2.2.2.2.2.2.1 o hk.1 hk.2.1).2 hk.2.2
    rw [← hr.1] at e
    rw [← hr.2.2.2.1] at e2
    rw [e, e2]
    exact p_R_so hY hr.2.1 fun _ => ⟨fun z2 => absurd ⟨hk, by omega, z2⟩ hn, fun _ => hb⟩
  unfold w_X11_set
  refine p_hasSlot hY hH (fun ho s0 s1 _ => ⟨fun _ => ?_, fun q => by omega⟩) (fun ho _ => ⟨fun q => absurd rfl q, fun _ => ⟨rfl, bad _ ho (Or.inl ⟨rfl, rfl⟩)⟩⟩)
  have hr := (hH.2.2.2.2.2.2.2.2.2.1 o ho.1 ho.2.1).2 ho.2.2
  obtain ⟨r1, r2, r3, r4, r5, r6, r7, r8, r9, r10⟩ := id hr
  have hat := hp_at hY hH ho
  have o0 := ho.1
  have s96 : C 27 o < 20 → s < C 16 (C 27 o) := fun z => by unfold ln so at s1; rw [if_neg (by omega)] at s1; exact s1
  have kb := kA_bd hY r2 s0 s96
  refine ⟨o0, by omega, fun v4 e4 _ => ?_⟩
  subst e4
  refine p_kA h16 r2 s0 (fun z => by omega) (fun _ => p_lA h16 r2 s0 (fun z => by omega) (fun gl => ?_))
  -- the reference, as far as the kind
  have ref : ∀ Q : Int → MM → Prop, (vK C (kA C (C 27 o) s) (lA C (C 27 o) s) v → w_X12_set_b105 Q o s v 0 (ux_ R 0 0 0)) → (¬ vK C (kA C (C 27 o) s) (lA C (C 27 o) s) v → w_X12_set_b105 Q o s v 2 (ux_ R 0 0 0)) → w_X12_set Q o s v R := fun Q hq hx => by
    unfold w_X12_set
    refine p_R_isObject hH (fun _ _ => ⟨fun q => by omega, fun _ => ⟨fun z => by omega, fun _ => ⟨o0, by omega, fun w e g => ⟨o0, by omega, fun w2 e2 g2 => ?_⟩⟩⟩⟩) (fun q => absurd ho q)
    rw [← r1] at e
    rw [← r4] at e2
    rw [e, e2]
    refine p_R_so hY r2 fun _ => ⟨fun z => ?_, fun z => absurd s1 z⟩
    unfold w_X12_set_b38
    intro M1 e1 w3 f3 _
    subst e1
    refine ⟨fun _ => ⟨o0, by omega, fun w4 f4 _ => ?_⟩, fun y => absurd (by rw [f3, ux_s]; decide) y⟩
    have hY1 : Rty C (ux_ R 0 0 0) := (RB_00 hB 0).1.2.2.2.2
    have hH1 : Rhp C (ux_ R 0 0 0) := (RB_00 hB 0).2.2
    rw [ux_c _ _ _ _ (by decide), ← r1] at f4
    rw [f4]
    refine p_R_kA hY1 r2 s0 s96 (fun _ => ⟨o0, by omega, fun w7 f7 _ => ?_⟩)
    rw [ux_c _ _ _ _ (by decide), ← r1] at f7
    rw [f7]
    have go : ∀ l, (kA C (C 27 o) s = 5 → l = lA C (C 27 o) s) → w_X12_set_b93 Q o s v l (kA C (C 27 o) s) (ux_ R 0 0 0) := fun l hl => by
      unfold w_X12_set_b93
      have eqv : vK C (kA C (C 27 o) s) l v ↔ vK C (kA C (C 27 o) s) (lA C (C 27 o) s) v := by
        by_cases y : kA C (C 27 o) s = 5
        · rw [hl y]
        · unfold vK
          exact ⟨fun q => q.elim (fun q => absurd q.1 y) Or.inr, fun q => q.elim (fun q => absurd q.1 y) Or.inr⟩
      exact p_R_isOfKind hY1 hH1 kb.1 kb.2 (fun y => by rw [hl y]; exact lA_ok hY hL r2 s0 s96 y) (fun y _ => ⟨fun q => by omega, fun _ => hq (eqv.mp y)⟩) (fun y _ => ⟨fun _ => hx (fun q => y (eqv.mpr q)), fun q => absurd rfl q⟩)
    refine p_R_kA hY1 r2 s0 s96 (fun _ => ⟨fun y => go (-1) (fun q => absurd q y), fun y => ⟨o0, by omega, fun w11 f11 _ => ?_⟩⟩)
    rw [ux_c _ _ _ _ (by decide), ← r1] at f11
    rw [f11]
    exact p_R_lA hY1 r2 s0 s96 y (fun _ => go _ (fun _ => rfl))
  refine p_isValue hY hH kb.1 kb.2 gl (fun hv _ => ⟨fun _ => ?_, fun q => by omega⟩) (fun hv _ => ⟨fun q => absurd rfl q, fun _ => ⟨rfl, ?_⟩⟩)
  · have hB0 := RB_00 hB 0
    have hJ0 := Rjn_00 hJ 0
    refine s_write2 hB0 hJ0 ho s0 s1 hv wb (fun C1 fw c36 ⟨Rc, hYc, hHc⟩ _ _ wr _ => ?_)
    refine aft (cs := cs) hY hcs hP hX B0 B1 (fun k hk => fw.1 k (by simp; omega)) hYc hHc (fun C' f1 f2 sx lk => ?_)
    refine ref _ (fun _ => ?_) (fun q => absurd hv q)
    unfold w_X12_set_b105
    intro M1 e1 w2 f2' _
    have eM : M1 = ux_ R 0 0 0 := by rw [e1]; exact ux_00 R 0 0
    rw [eM]
    refine ⟨fun _ => wr _ (fun R1 hB1 hJ1 fr => ?_), fun y => absurd (by rw [f2', e1, ux_s]; decide) y⟩
    intro v6 e6 _
    have w29 : R1 0 29 = C 36 1 + 1 := by rw [← hJ1.1]; exact c36
    refine ⟨by unfold ri_; have := hJ.2.1; omega, ?_⟩
    rw [e6, w29, show C 36 1 + 1 - 1 = C 36 1 from by omega]
    refine lk R1 _ hB1 hJ1 (fun k a b d => by rw [fr.1 k (by simp; omega), ux_g _ _ _ a]) (fun i hi => ?_) (fun R' hD hPr fl v10 e10 _ => ?_)
    · simp only [List.mem_cons, List.not_mem_nil, or_false] at hi
      rw [fr.2 i (by simp only [List.mem_cons, List.not_mem_nil, or_false]; omega), ux_i _ _ _ (by omega)]
    · rw [fl.2.2 29 (by decide), w29] at e10
      refine ⟨by unfold ri_; have := hJ.2.1; omega, by omega, ?_, hD, hPr, sx, by rw [f1 36 (by omega) (by omega)]; exact c36, FS_of fw f1 f2, FSqr_of fr fl⟩
      rw [fl.2.2 0 (by decide), fr.2 0 (by decide), ux_s]
  · refine ref _ (fun q => absurd q hv) (fun _ => ?_)
    unfold w_X12_set_b105
    intro M1 e1 w2 f2 _
    rw [e1, ux_s] at f2
    exact ⟨fun y => by omega, fun _ => Or.inr ⟨rfl, by rw [e1, ux_00]⟩⟩
set_option maxHeartbeats 1000000 in
theorem tt_setStatic {C R : MM} {c k v B : Int} (h : RD C R) (hP : Rpr C R) (hX : SXq B C) (B0 : 0 ≤ B) (B1 : B + 90003 ≤ 2147483646) (wb : C 36 1 < 2147483647) : w_X11_setStatic (fun r C' => w_X12_setStatic (fun r' R' => r = r' ∧ R' 0 0 = 0 ∧ RD C' R' ∧ Rpr C' R' ∧ SXq (B + 90003) C' ∧ C' 36 1 = C 36 1 + 1 ∧ FSqc C C' ∧ FSqr R R') c k v R) (fun E C' => C' = C ∧ w_X12_setStatic (fun r' R' => (E = "java/util/NoSuchElementException" ∧ R' = ux_ R 0 0 1) ∨ (E = "java/lang/IllegalArgumentException" ∧ R' = ux_ R 0 0 2)) c k v R) c k v C := by
  obtain ⟨hB, hJ, cs, hcs⟩ := h
  obtain ⟨hA, hL, hH⟩ := id hB
  have hY := hA.2.2.2.2
  have h16 := hY.2.2.1
  unfold w_X11_setStatic
  refine p_staticField hY (fun j hj gj => ⟨fun _ => ?_, fun q => by have := hj.2.2.1; omega⟩) (fun hno _ => ⟨fun q => absurd rfl q, fun _ => ⟨rfl, ?_⟩⟩)
  rotate_left
  · unfold w_X12_setStatic
    refine p_R_staticOf hY (fun j hj => absurd hj (hno j)) (fun _ _ => ⟨fun q => absurd rfl q, fun _ => ?_⟩)
    unfold w_X12_setStatic_b20
    intro M1 e1 w2 f2 _
    rw [e1, ux_s] at f2
    exact ⟨fun y => by omega, fun _ => Or.inl ⟨rfl, e1⟩⟩
  obtain ⟨c0, c1, j0, j1, js, -⟩ := id hj
  obtain ⟨g, eg⟩ : ∃ g, g = 6 * c + j := ⟨_, rfl⟩
  have n1 := (hY.2.2.2.1 c c0 c1).1.2.2.2.2.2.2.2.2.2.1
  have rf := (hY.2.2.2.1 c c0 c1).2.2.2 j j0 j1
  have lk0 := hL c j c0 c1 j0 j1
  rw [← eg] at rf lk0
  have hgs : C 21 g ≠ 0 := by rw [eg]; exact js
  rw [show c * 6 + j = g from by omega]
  have kd : C 19 g = R 12 g ∧ 0 ≤ C 19 g ∧ C 19 g ≤ 5 ∧ C 20 g = R 13 g := ⟨rf.2.1, rf.2.2.1, rf.2.2.2.1, rf.2.2.2.2.1⟩
  refine ⟨by unfold ri_; omega, by unfold ri_; omega, by omega, by omega, fun v6 e6 _ => ⟨by omega, by omega, fun v7 e7 g7 => ?_⟩⟩
  rw [e6]
  rw [e7] at g7 ⊢
  have ref : ∀ Q : Int → MM → Prop, (vK C (C 19 g) (C 20 g) v → w_X12_setStatic_b60 Q v g 0 (ux_ R 0 0 0)) → (¬ vK C (C 19 g) (C 20 g) v → w_X12_setStatic_b60 Q v g 2 (ux_ R 0 0 0)) → w_X12_setStatic Q c k v R := fun Q hq hx => by
    unfold w_X12_setStatic
    refine p_R_staticOf hY (fun i hi _ => ⟨fun _ => ?_, fun q => by have := hi.2.2.1; omega⟩) (fun hno => absurd hj (hno j))
    have ei := st_inj hY hi hj
    subst ei
    rw [← eg]
    unfold w_X12_setStatic_b20
    intro M1 e1 w3 f3 _
    subst e1
    refine ⟨fun _ => ⟨by omega, by omega, fun w4 f4 _ => ⟨by omega, by omega, fun w5 f5 _ => ?_⟩⟩, fun y => absurd (by rw [f3, ux_s]; decide) y⟩
    have hY1 : Rty C (ux_ R 0 0 0) := (RB_00 hB 0).1.2.2.2.2
    have hH1 : Rhp C (ux_ R 0 0 0) := (RB_00 hB 0).2.2
    rw [ux_c _ _ _ _ (by decide), ← kd.1] at f4
    rw [ux_c _ _ _ _ (by decide), ← kd.2.2.2] at f5
    rw [f4, f5]
    exact p_R_isOfKind hY1 hH1 kd.2.1 kd.2.2.1 (fun y => lk0.elim (fun q => q.2) (fun q => absurd y q.1)) (fun y _ => ⟨fun q => by omega, fun _ => hq y⟩) (fun y _ => ⟨fun _ => hx y, fun q => absurd rfl q⟩)
  refine p_isValue hY hH kd.2.1 kd.2.2.1 g7 (fun hv _ => ⟨fun _ => ?_, fun q => by omega⟩) (fun hv _ => ⟨fun q => absurd rfl q, fun _ => ⟨rfl, ?_⟩⟩)
  · have hB0 := RB_00 hB 0
    have hJ0 := Rjn_00 hJ 0
    have hv5 : C 19 g = 5 → vL C v (C 20 g) := fun y => by
      rcases hv with q | q
      · exact q.2
      · exact absurd y q.1
    refine s_writeS2 hB0 hJ0 ⟨c, j, c0, c1, j0, j1, eg⟩ hgs hv5 wb (fun C1 fw c36 ⟨Rc, hYc, hHc⟩ _ _ wr _ => ?_)
    refine aft (cs := cs) hY hcs hP hX B0 B1 (fun k hk => fw.1 k (by simp; omega)) hYc hHc (fun C' f1 f2 sx lk => ?_)
    refine ref _ (fun _ => ?_) (fun q => absurd hv q)
    unfold w_X12_setStatic_b60
    intro M1 e1 w2 f2' _
    have eM : M1 = ux_ R 0 0 0 := by rw [e1]; exact ux_00 R 0 0
    rw [eM]
    refine ⟨fun _ => wr _ (fun R1 hB1 hJ1 fr => ?_), fun y => absurd (by rw [f2', e1, ux_s]; decide) y⟩
    intro v6 e6 _
    have w29 : R1 0 29 = C 36 1 + 1 := by rw [← hJ1.1]; exact c36
    refine ⟨by unfold ri_; have := hJ.2.1; omega, ?_⟩
    rw [e6, w29, show C 36 1 + 1 - 1 = C 36 1 from by omega]
    refine lk R1 _ hB1 hJ1 (fun k a b d => by rw [fr.1 k (by simp; omega), ux_g _ _ _ a]) (fun i hi => ?_) (fun R' hD hPr fl v10 e10 _ => ?_)
    · simp only [List.mem_cons, List.not_mem_nil, or_false] at hi
      rw [fr.2 i (by simp only [List.mem_cons, List.not_mem_nil, or_false]; omega), ux_i _ _ _ (by omega)]
    · rw [fl.2.2 29 (by decide), w29] at e10
      refine ⟨by unfold ri_; have := hJ.2.1; omega, by omega, ?_, hD, hPr, sx, by rw [f1 36 (by omega) (by omega)]; exact c36, FS_of fw f1 f2, FSqr_of fr fl⟩
      rw [fl.2.2 0 (by decide), fr.2 0 (by decide), ux_s]
  · refine ref _ (fun q => absurd q hv) (fun _ => ?_)
    unfold w_X12_setStatic_b60
    intro M1 e1 w2 f2 _
    rw [e1, ux_s] at f2
    exact ⟨fun y => by omega, fun _ => Or.inr ⟨rfl, by rw [e1, ux_00]⟩⟩
