/-! what is thrown has a name -/
theorem RA_sc2 {C R C1 : MM} {x : Int} (h : RA C R) (hf : ∀ k i, ¬ (k = 1 ∧ (i = 4 ∨ i = 9 ∨ i = 10 ∨ i = 11)) → C1 k i = C k i) : RA C1 (ux_ R 0 0 x) ∧ FC C C1 ∧ FR R (ux_ R 0 0 x) ∧ C1 7 = C 7 ∧ ux_ R 0 0 x 3 = R 3 := ⟨(RA_sc (x := x) h hf).1, (RA_sc (x := x) h hf).2.1, (RA_sc (x := x) h hf).2.2, funext fun i => hf 7 i (by omega), ux_g _ _ _ (by decide)⟩
theorem sc_F22 {C R C1 : MM} {x : Int} (h : RA C R) (hf : ∀ k i, ¬ (k = 1 ∧ (i = 4 ∨ i = 9 ∨ i = 10 ∨ i = 11)) → C1 k i = C k i) : RA C1 (ux_ R 0 0 x) ∧ FC2 C C1 ∧ FR2 R (ux_ R 0 0 x) ∧ (Rst C R → Rst C1 (ux_ R 0 0 x)) ∧ C1 7 = C 7 ∧ ux_ R 0 0 x 3 = R 3 := ⟨(sc_F2 (x := x) h hf).1, (sc_F2 (x := x) h hf).2.1, (sc_F2 (x := x) h hf).2.2.1, (sc_F2 (x := x) h hf).2.2.2, funext fun i => hf 7 i (by omega), ux_g _ _ _ (by decide)⟩
theorem u_get {C R : MM} {o s : Int} (h : RB C R) : w_X11_get (fun r C' => C' = C ∧ w_X12_get (fun r' R' => r = r' ∧ R' = ux_ R 0 0 0) o s R) (fun E C' => E ∈ (["java/util/NoSuchElementException"] : List String) ∧ C' = C ∧ w_X12_get (fun r' R' => R' = ux_ R 0 0 1) o s R) o s C := by
  obtain ⟨hA, hL, hH⟩ := h
  have hY := hA.2.2.2.2
  unfold w_X11_get
  refine p_hasSlot hY hH (fun ho s0 s1 _ => ⟨fun _ => ?_, fun q => by omega⟩) (fun ho _ => ⟨fun q => absurd rfl q, fun _ => ⟨by simp, rfl, ?_⟩⟩)
  · have hr := (hH.2.2.2.2.2.2.2.2.2.1 o ho.1 ho.2.1).2 ho.2.2
    obtain ⟨r1, r2, r3, r4, r5, r6, r7, r8, r9, r10⟩ := hr
    have hat := hp_at hY hH ho
    have o5 := ho.1
    refine ⟨o5, by omega, fun v4 e4 g4 => ?_⟩
    subst e4
    refine ⟨by unfold ri_; omega, by omega, by omega, fun v6 e6 g6 => ⟨rfl, ?_⟩⟩
    unfold w_X12_get
    refine p_R_isObject hH (fun _ _ => ⟨fun q => by omega, fun _ => ⟨fun z => by omega, fun _ => ⟨o5, by omega, fun v e g => ⟨o5, by omega, fun v2 e2 g2 => ?_⟩⟩⟩⟩) (fun q => absurd ho q)
    rw [← r1] at e
    rw [← r4] at e2
    rw [e, e2]
    refine p_R_so hY r2 fun _ => ⟨fun z => ?_, fun z => absurd s1 z⟩
    unfold w_X12_get_b38
    intro M1 e1 w2 f2 g3
    have : w2 = 0 := by rw [f2, e1, ux_s]
    refine ⟨fun _ => ⟨o5, by omega, fun v4 e4 g4' => ?_⟩, fun q => by omega⟩
    rw [e1, ux_c _ _ _ _ (by decide)] at e4
    subst e4
    refine ⟨by unfold ri_; omega, by omega, by omega, fun v7 e7 g7 => ⟨?_, e1⟩⟩
    rw [e7, e1, ux_c _ _ _ _ (by decide), e6]
    exact (r10 s s0 s1).1
  · have hb : w_X12_get_b33 (fun r' R' => R' = ux_ R 0 0 1) o s R := by
      unfold w_X12_get_b33 w_X12_get_b38
      intro M1 e1 w2 f2 g3
      have : w2 = 1 := by rw [f2, e1, ux_s]
      exact ⟨fun q => by omega, fun _ => e1⟩
    unfold w_X12_get
    refine p_R_isObject hH (fun hk _ => ⟨fun q => by omega, fun _ => ⟨fun z => hb, fun z => ⟨hk.1, by have := hk.2.1; have := hH.2.2.1; omega, fun v e g => ⟨hk.1, by have := hk.2.1; have := hH.2.2.1; omega, fun v2 e2 g2 => ?_⟩⟩⟩⟩) (fun _ _ => ⟨fun _ => hb, fun q => absurd rfl q⟩)
    have hr := (hH.2.2.2.2.2.2.2.2.2.1 o hk.1 hk.2.1).2 hk.2.2
    rw [← hr.1] at e
    rw [← hr.2.2.2.1] at e2
    rw [e, e2]
    exact p_R_so hY hr.2.1 fun _ => ⟨fun z2 => absurd ⟨hk, by omega, z2⟩ ho, fun _ => hb⟩
theorem u_getStatic {C R : MM} {c k : Int} (h : RB C R) : w_X11_getStatic (fun r C' => C' = C ∧ w_X12_getStatic (fun r' R' => r = r' ∧ R' = ux_ R 0 0 0) c k R) (fun E C' => E ∈ (["java/util/NoSuchElementException"] : List String) ∧ C' = C ∧ w_X12_getStatic (fun r' R' => R' = ux_ R 0 0 1) c k R) c k C := by
  obtain ⟨hA, hL, hH⟩ := h
  have hY := hA.2.2.2.2
  have h16 := hY.2.2.1
  unfold w_X11_getStatic w_X12_getStatic
  refine p_staticField hY (fun j hj _ => ⟨fun _ => ?_, fun q => by have := hj.2.2.1; omega⟩) (fun hno _ => ⟨fun q => absurd rfl q, fun _ => ⟨by simp, rfl, p_R_staticOf hY (fun j hj => absurd hj (hno j)) (fun _ _ => ⟨fun q => absurd rfl q, fun _ => ?_⟩)⟩⟩)
  · obtain ⟨c0, c1, j0, j1, -, -⟩ := id hj
    have n1 := (hY.2.2.2.1 c c0 c1).1.2.2.2.2.2.2.2.2.2.1
    refine ⟨by unfold ri_; omega, by unfold ri_; omega, by omega, by omega, fun v e g => ⟨rfl, p_R_staticOf hY (fun i hi _ => ⟨fun _ => ?_, fun q => by have := hi.2.2.1; omega⟩) (fun hno => absurd hj (hno j))⟩⟩
    have ei := st_inj hY hi hj
    subst ei
    unfold w_X12_getStatic_b18
    intro M1 e1 w2 f2 g3
    have : w2 = 0 := by rw [f2, e1, ux_s]
    refine ⟨fun _ => ⟨by omega, by omega, fun v4 e4 g4 => ⟨?_, e1⟩⟩, fun q => by omega⟩
    rw [e4, e1, ux_c _ _ _ _ (by decide), e, show c * 6 + i = 6 * c + i from by omega]
    exact hH.2.2.2.2.2.2.2.2.2.2.2.2.1 (6 * c + i) (by omega) (by omega)
  · unfold w_X12_getStatic_b18
    intro M1 e1 w2 f2 g3
    have : w2 = 1 := by rw [f2, e1, ux_s]
    exact ⟨fun q => by omega, fun _ => e1⟩
theorem u_row {C R : MM} {w k x : Int} (hJ : Rjn C R) : w_X11_row (fun r C' => C' = C ∧ w_X12_row (fun r' R' => r = r' ∧ R' = ux_ R 0 0 0) w k x R) (fun E C' => E ∈ (["java/util/NoSuchElementException"] : List String) ∧ C' = C ∧ w_X12_row (fun r' R' => R' = ux_ R 0 0 1) w k x R) w k x C := by
  obtain ⟨h1, h2, h3, h4, -⟩ := hJ.2.2.2
  have bad : ∀ Q : Int → MM → Prop, Q 0 (ux_ R 0 0 1) → w_X12_row_b36 Q w k x R := by
    intro Q hq
    unfold w_X12_row_b36 w_X12_row_b41
    intro M1 e1 v2 e2 _
    have : v2 = 1 := by rw [e2, e1, ux_s]
    exact ⟨fun q => by omega, fun _ => by rw [e1]; exact hq⟩
  unfold w_X11_row w_X11_row_b22
  refine ⟨fun z => ⟨by simp, rfl, ?_⟩, fun z => ?_⟩
  · unfold w_X12_row
    refine ⟨fun _ => bad _ rfl, fun _ v2 e2 _ => ⟨fun _ => bad _ rfl, fun _ => ⟨fun _ => bad _ rfl, fun q => absurd z q⟩⟩⟩
  · unfold w_X11_rows
    refine ⟨fun zw _ => ⟨fun _ => ⟨by simp, rfl, ?_⟩, fun q => absurd (by omega) q⟩, fun zw v2 e2 _ => ?_⟩
    · unfold w_X12_row
      exact ⟨fun _ => bad _ rfl, fun q => absurd zw q⟩
    · subst e2
      refine ⟨fun z2 _ => ⟨fun _ => ⟨by simp, rfl, ?_⟩, fun q => absurd (by omega) q⟩, fun z2 => ⟨by omega, by omega, fun v4 e4 _ _ => ?_⟩⟩
      · unfold w_X12_row
        refine ⟨fun _ => bad _ rfl, fun _ v2 e2 _ => ⟨fun _ => bad _ rfl, fun q => absurd (by omega) q⟩⟩
      · obtain ⟨-, -, -, -, -, -, -, -, a9, a10, a11, a12⟩ := h4 w (by omega) (by omega)
        have go : ∀ Q : Int → MM → Prop, (C 43 w ≤ k → w_X12_row_b36 Q w k x R) → (¬ C 43 w ≤ k → (x < 0 → w_X12_row_b36 Q w k x R) ∧ (¬ x < 0 → (x ≤ 3 → w_X12_row_b41 Q w k x 0 R) ∧ (¬ x ≤ 3 → w_X12_row_b36 Q w k x R))) → w_X12_row Q w k x R := by
          intro Q q1 q2
          unfold w_X12_row
          refine ⟨fun q => absurd q zw, fun _ v2 e2 _ => ?_⟩
          rw [← h1] at e2
          subst e2
          refine ⟨fun q => absurd q z2, fun _ => ⟨fun q => absurd q z, fun _ => ⟨by omega, by omega, fun v5 e5 _ => ?_⟩⟩⟩
          rw [← a9] at e5
          subst e5
          exact ⟨q1, q2⟩
        subst e4
        refine ⟨fun z4 => ⟨by simp, rfl, go _ (fun _ => bad _ rfl) (fun q => absurd z4 q)⟩, fun z4 => ⟨fun z5 => ⟨by simp, rfl, go _ (fun _ => bad _ rfl) (fun _ => ⟨fun _ => bad _ rfl, fun q => absurd z5 q⟩)⟩, fun z5 => ⟨fun z6 => ?_, fun z6 => ⟨by simp, rfl, go _ (fun _ => bad _ rfl) (fun _ => ⟨fun _ => bad _ rfl, fun _ => ⟨fun q => by omega, fun _ => bad _ rfl⟩⟩)⟩⟩⟩⟩
        unfold w_X3_rowPart
        refine ⟨by unfold ri_; omega, by unfold ri_; omega, by unfold ri_; omega, by unfold ri_; omega, by omega, by omega, fun v5 e5 _ _ => ⟨rfl, go _ (fun q => absurd q z4) (fun _ => ⟨fun q => absurd q z5, fun _ => ⟨fun _ => ?_, fun q => by omega⟩⟩)⟩⟩
        have key : ∀ q : Nat, q < 4 → x = q → v5 = R (32 + q) (6 * w + k) := by
          intro q q4 hx
          rw [e5, show (w * 6 + k) * 4 + x = 24 * w + 4 * k + (q : Int) from by omega]
          exact a12 k q (by omega) (by omega) q4
        unfold w_X12_row_b41
        intro M1 e1 v2 e2 _
        have : v2 = 0 := by rw [e2, e1, ux_s]
        have eR : ∀ c i, c ≠ 0 → M1 c i = R c i := fun c i hc => by rw [e1, ux_c _ _ _ _ hc]
        refine ⟨fun _ => ⟨by unfold ri_; omega, by unfold ri_; omega, fun x0 => ⟨fun x1 => ⟨fun x2 => ⟨by omega, by omega, fun v9 e9 _ => ⟨?_, e1⟩⟩, fun x2 => ⟨by omega, by omega, fun v9 e9 _ => ⟨?_, e1⟩⟩⟩, fun x1 => ⟨by omega, by omega, fun v9 e9 _ => ⟨?_, e1⟩⟩⟩, fun x0 => ⟨by omega, by omega, fun v9 e9 _ => ⟨?_, e1⟩⟩⟩, fun q => by omega⟩
        · rw [e9, eR _ _ (by decide)]; exact key 3 (by omega) (by omega)
        · rw [e9, eR _ _ (by decide)]; exact key 2 (by omega) (by omega)
        · rw [e9, eR _ _ (by decide)]; exact key 1 (by omega) (by omega)
        · rw [e9, eR _ _ (by decide)]; exact key 0 (by omega) (by omega)
theorem u_take {C R : MM} {p : Int} (h : RD C R) : w_X11_take (fun r C' => w_X12_take (fun r' R' => r = r' ∧ R' 0 0 = 0 ∧ RD C' R' ∧ FPc C C' ∧ FPr R R') p R) (fun E C' => E ∈ (["java/lang/IndexOutOfBoundsException"] : List String) ∧ C' = C ∧ w_X12_take (fun r' R' => R' = ux_ R 0 0 1) p R) p C := by
  obtain ⟨hB, hJ, cs, h1, h2, h3, h4, h5⟩ := h
  have hY := hB.1.2.2.2.2
  have hH := hB.2.2
  unfold w_X11_take w_X11_needPicture w_X11_isPicture
  have bad : ¬ (0 ≤ p ∧ p < 4) → w_X12_take (fun r' R' => R' = ux_ R 0 0 1) p R := by
    intro hp
    have go : w_X12_take_b14 (fun r' R' => R' = ux_ R 0 0 1) p 1 R := by
      unfold w_X12_take_b14
      intro M1 e1 v2 e2 _
      have : v2 = 1 := by rw [e2, e1, ux_s]
      exact ⟨fun q => by omega, fun _ => e1⟩
    unfold w_X12_take w_X12_isPicture
    exact ⟨fun _ _ => ⟨fun _ => go, fun q => absurd rfl q⟩, fun z => ⟨fun _ _ => ⟨fun _ => go, fun q => absurd rfl q⟩, fun z2 => by omega⟩⟩
  refine ⟨fun z _ => ⟨fun q => absurd rfl q, fun _ => ⟨by simp, rfl, bad (by omega)⟩⟩, fun z => ⟨fun z2 _ => ⟨fun q => absurd rfl q, fun _ => ⟨by simp, rfl, bad (by omega)⟩⟩, fun z2 _ => ⟨fun _ => ⟨by omega, by omega, cs p, (h1 p (by omega) (by omega)).1, h4 p (by omega) (by omega), ?_⟩, fun q => by omega⟩⟩⟩
  have p0 : 0 ≤ p := by omega
  have p4 : p < 4 := by omega
  have hc := pB_of (h4 p p0 (by omega))
  have hpic := (h1 p p0 p4).2
  refine p_takeFrom hc hY hH (PF_of hpic.1) fun C0 M hE hT hS => ?_
  obtain ⟨hw, eM, f4, h7⟩ := PW_take hc hY hH hE hT hS
  have hc' := hc
  unfold pB at hc'
  have eC : ∀ k, ¬ (cs p ≤ k ∧ k ≤ cs p + 18) → M k = C k := fun k hk => by rw [hT.1 k (by omega), hE.1 k (by omega) (by omega) (by omega) (by omega)]
  refine ⟨by omega, by omega, cs p, by rw [eC 45 (by omega)]; exact (h1 p p0 p4).1, h4 p p0 (by omega), fun v6 e6 _ => ?_⟩
  -- the reference
  unfold w_X12_take w_X12_isPicture
  refine ⟨fun q => absurd q z, fun _ => ⟨fun q => absurd q z2, fun _ _ => ⟨fun q => by omega, fun _ => ?_⟩⟩⟩
  unfold w_X12_take_b14
  intro A1 g1 v2 g2 _
  have : v2 = 0 := by rw [g2, g1, ux_s]
  refine ⟨fun _ => ?_, fun q => by omega⟩
  have hB1 : RB C A1 := by rw [g1]; exact RB_00 hB 0
  refine p_R_picture0 hB1.1.2.2.2.2 hB1.2.2 p0 (by omega) fun A A2 hA hfP hRP => ?_
  have hbb := Rpb_take hc hY hH hE hT hS hRP
  have hYA : Rty M A2 := by
    have x : Rty C A2 := Rty_R hB1.1.2.2.2.2 (fun k a b _ => by rw [hfP.1 k (by omega), hA.1 k (by simp; omega)]) (by rw [hfP.1 0 (by omega), hA.2.1 20 (by decide)])
    exact Rty_C x (fun k a b => eM k (by omega))
  have n0 := hw.1
  have hch : ∀ t, 0 ≤ t → t < M (cs p) 0 → M (cs p + 13) t = 0 := fun t t0 t1 => by
    rw [hT.1 (cs p + 13) (by omega)]
    exact hE.2.2.2.2.2.2.1 t t0 (by have := hw.2.1; omega)
  have hlo : M (cs p) 16 = 0 := by rw [hT.2.1 16 (by decide) (by decide)]; exact hE.2.2.2.2.1
  refine p_R_study hYA hw hbb p0 (by omega) hch hlo fun A3 hs hb3 ht3 => ⟨p0, by omega, fun v8 e8 _ => ?_⟩
  have hsh : ShK M A3 (cs p) p := by
    have k1 : M (cs p + 18) 1 = 0 := by rw [hT.1 (cs p + 18) (by omega)]; exact hE.2.2.2.2.2.2.2.1
    obtain ⟨j1, j2, j4, j8⟩ := kb_0
    refine ⟨by omega, by omega, fun q => absurd (by rw [k1]; exact j1) q, fun q => absurd (by rw [k1]; exact j2) q, fun q => absurd (by rw [k1]; exact j4) q, fun q => absurd (by rw [k1]; exact j8) q⟩
  have rfr : ∀ k, k ∉ [0, 36, 37] → k < 38 ∨ 62 < k → A3 k = R k := fun k hk hk2 => by
    simp at hk
    rw [hs.1 k (by omega) (by omega), hfP.1 k (by omega), hA.1 k (by simp; omega), g1]
    funext i
    rw [ux_c _ _ _ _ (by omega)]
  have r0fr : ∀ i, i ∉ ([0, 47, 73] : List Int) → A3 0 i = R 0 i := fun i hi => by
    simp at hi
    rw [hs.2.1 i (by omega), hfP.1 0 (by omega), hA.2.1 i (by omega), g1, ux_i _ _ _ (by omega)]
  have cfr : ∀ k, k ≠ 0 → k < 45 ∨ 210 < k → M k = C k := fun k hk hk2 => eC k (by omega)
  obtain ⟨nB, nJ⟩ := RB_p hB hJ cfr (fun k a b => rfr k a (Or.inl b)) (fun i hi => r0fr i (fun q => hi (by revert q; simp; omega)))
  refine ⟨by rw [e6, e8, hb3.1], ?_, ⟨nB, nJ, ?_⟩, ⟨cfr, fun i _ => by rw [eC 0 (by omega)]⟩, ⟨rfr, r0fr⟩⟩
  · rw [hs.2.1 0 (by decide), hfP.1 0 (by omega), hA.2.1 0 (by decide), g1, ux_s]
  · refine ps_put hY p0 p4 h1 h2 h3 h4 h5 ⟨hw, hb3, ht3, hsh⟩ (fun k hk => eC k (by omega)) (fun k i a b hn => ?_)
    rw [hs.2.2 k i a b hn, hfP.2 k i a b hn, hA.1 k (by simp; omega), g1, ux_c _ _ _ _ (by omega)]
theorem u_slot {C R : MM} {p t k : Int} (h : RD C R) : w_X11_slot (fun r C' => C' = C ∧ w_X12_slot (fun r' R' => r = r' ∧ R' = ux_ R 0 0 0) p t k R) (fun E C' => E ∈ (["java/util/NoSuchElementException"] : List String) ∧ C' = C ∧ w_X12_slot (fun r' R' => R' = ux_ R 0 0 1) p t k R) p t k C := by
  obtain ⟨hB, hJ, cs, hcs⟩ := h
  have hY := hB.1.2.2.2.2
  have bad : ∀ Q : Int → MM → Prop, Q 0 (ux_ R 0 0 1) → w_X12_slot_b24 Q p t k R := fun Q hq => by
    unfold w_X12_slot_b24 w_X12_slot_b29
    intro M1 e1 v2 e2 _
    have : v2 = 1 := by rw [e2, e1, ux_s]
    exact ⟨fun q => by omega, fun _ => by rw [e1]; exact hq⟩
  unfold w_X11_slot w_X11_slot_b42
  refine p_isThing hcs (fun p0 p4 t0 t1 _ => ⟨fun q => by omega, fun _ => ?_⟩) (fun hn _ => ⟨fun _ => ⟨by simp, rfl, ?_⟩, fun q => absurd rfl q⟩)
  · have hc := hcs.1 p p0 p4
    have hw := hc.2.1
    have hb := hc.2.2.1
    have n4 := hw.2.1
    have ip := hcs.2.2.2.1 p p0 (by omega)
    have hpc := pw_bd hY hw t0 t1
    have et := (hw.2.2.2.1 t t0 t1).2.2.2.2.2.2.1
    have hf := pw_f hY hw t0 (by omega)
    have hmx := hw.2.2.2.2.1
    have go : ∀ Q : Int → MM → Prop, ((k < 0 → w_X12_slot_b24 Q p t k R) ∧ (¬ k < 0 → (k < pcn C (cs p) t → w_X12_slot_b29 Q p t k 0 R) ∧ (¬ k < pcn C (cs p) t → w_X12_slot_b24 Q p t k R))) → w_X12_slot Q p t k R := fun Q hq => by
      unfold w_X12_slot
      exact p_R_isThing hcs rfl (fun _ _ _ _ _ => ⟨fun q => by omega, fun _ => ⟨hq.1, fun z => p_slotsIn hY hw hb p0 (by omega) t0 t1 fun _ => hq.2 z⟩⟩) (fun q => absurd ⟨p0, p4, t0, t1⟩ q)
    refine ⟨fun z => ⟨by simp, rfl, go _ ⟨fun _ => bad _ rfl, fun q => absurd z q⟩⟩, fun z => ⟨p0, p4, cs p, hc.1, ip, by unfold ri_; omega, by omega, by omega, fun v7 e7 _ => ⟨p0, p4, cs p, hc.1, ip, t0, by omega, fun v9 e9 _ => ?_⟩⟩⟩
    rw [et] at e7
    subst e7 e9
    rw [show C (cs p + 4) t + pcn C (cs p) t - C (cs p + 4) t = pcn C (cs p) t from by omega]
    refine ⟨by unfold ri_; omega, fun z2 => ⟨p0, p4, cs p, hc.1, ip, p0, p4, cs p, hc.1, ip, t0, by omega, fun v14 e14 _ => ?_⟩, fun z2 => ⟨by simp, rfl, go _ ⟨fun _ => bad _ rfl, fun _ => ⟨fun q => absurd q z2, fun _ => bad _ rfl⟩⟩⟩⟩
    subst e14
    have ha := pw_at hY hw t0 t1 (k := k) (by omega) z2
    refine ⟨by unfold ri_; omega, by omega, by omega, fun v16 e16 _ => ⟨rfl, go _ ⟨fun q => absurd q z, fun _ => ⟨fun _ => ?_, fun q => absurd z2 q⟩⟩⟩⟩
    unfold w_X12_slot_b29
    intro M1 e1 v2 e2 _
    have : v2 = 0 := by rw [e2, e1, ux_s]
    refine ⟨fun _ => ?_, fun q => by omega⟩
    subst e1
    exact p_valueIn (RB_00 hB 0).1.2.2.2.2 hw (pic_00 0 hb) p0 (by omega) t0 t1 (by omega) z2 fun _ _ => ⟨e16, rfl⟩
  · unfold w_X12_slot
    exact p_R_isThing hcs rfl (fun a b d e => absurd ⟨a, b, d, e⟩ hn) (fun _ _ => ⟨fun _ => bad _ rfl, fun q => absurd rfl q⟩)
theorem u_lost {C R : MM} {p : Int} (h : RD C R) : w_X11_lost (fun r C' => w_X12_lost (fun r' R' => r = r' ∧ R' 0 0 = 0 ∧ RD C' R' ∧ FPc C C' ∧ FPr R R') p R) (fun E C' => E ∈ (["java/lang/IndexOutOfBoundsException"] : List String) ∧ C' = C ∧ w_X12_lost (fun r' R' => R' = ux_ R 0 0 1) p R) p C := by
  obtain ⟨hB, hJ, cs, hcs⟩ := h
  have hY := hB.1.2.2.2.2
  unfold w_X11_lost w_X11_needPicture
  refine p_isPic (fun p0 p4 _ => ⟨fun _ => ?_, fun q => by omega⟩) (fun hn _ => ⟨fun q => absurd rfl q, fun _ => ⟨by simp, rfl, ?_⟩⟩)
  · have hc := hcs.1 p p0 p4
    have hw := hc.2.1
    have hb := hc.2.2.1
    have ht := hc.2.2.2.1
    have n0 := hw.1
    have n4 := hw.2.1
    have ip := hcs.2.2.2.1 p p0 (by omega)
    have ip' := ip
    unfold isP at ip'
    refine ⟨p0, p4, cs p, hc.1, ip, p_findLost hY hw fun M m1 m2 m3 m4 _ => ?_⟩
    unfold w_X12_lost
    refine p_R_isPic (fun _ _ _ => ⟨fun q => by omega, fun _ => ?_⟩) (fun q => absurd ⟨p0, p4⟩ q)
    unfold w_X12_lost_b14
    intro A1 g1 v2 g2 _
    have : v2 = 0 := by rw [g2, g1, ux_s]
    refine ⟨fun _ => ?_, fun q => by omega⟩
    have hB1 : RB C A1 := by rw [g1]; exact RB_00 hB 0
    have hb1 : Rpb C A1 (cs p) p := by rw [g1]; exact pic_00 0 hb
    refine p_R_reach hB1.1.2.2.2.2 hw hb1 p0 (by omega) (Or.inr rfl) (Or.inl rfl) fun A2 hv => ⟨p0, by omega, ?_⟩
    have e59 : A1 59 = R 59 := by rw [g1]; funext i; rw [ux_c _ _ _ _ (by decide)]
    have hS : ∀ t, 0 ≤ t → t < C (cs p) 0 → (sC C (cs p) t ↔ sB A1 p (-1) 1 t) := fun t t0 t1 => by
      unfold sC sB
      rw [e59, (ht.1 t t0 t1).2.2.2]
      exact ⟨fun q => ⟨by omega, Or.inr q⟩, fun q => by rcases q.2 with q | q; omega; exact q⟩
    have hV := vis_S hw hS
    have hct : ∀ k : Nat, ctV (vis C (cs p) (sC C (cs p)) (beg C (cs p) (sC C (cs p)) (-1))) k = ctV (vis C (cs p) (sB A1 p (-1) 1) (beg C (cs p) (sB A1 p (-1) 1) (-1))) k := fun k => ctV_c k fun u _ _ => hV u
    refine p_R_lost43 n0 n4 p0 (by omega) hb1.1.symm hv fun A3 f1 f2 f3 f4 f5 => ?_
    have eR : ∀ k, k ∉ [0, 51, 52, 60, 62] → A3 k = R k := fun k hk => by
      simp at hk
      rw [f1 k (by omega) (by omega), hv.1 k (by simp; omega), g1]
      funext i
      rw [ux_c _ _ _ _ (by omega)]
    have e0 : ∀ i, i ≠ 0 → i ≠ 73 → A3 0 i = R 0 i := fun i hi h73 => by rw [f1 0 (by decide) (by decide), hv.2.1 i h73, g1, ux_i _ _ _ hi]
    have nP : Rpic M A3 (cs p) p := by
      refine pic_fr0 hY hc.2 (tyLe_of (by rw [m1 8 (by omega) (by omega) (by omega) (by omega)]) (fun k a b => m1 k (by omega) (by omega) (by omega) (by omega))) (m2 0 (by decide)) (m2 11 (by decide)) (fun q a b => m1 q (by omega) (by omega) (by omega) (by omega)) (fun q a b => m1 q (by omega) (by omega) (by omega) (by omega)) (fun u a b => ?_) (fun u a b => ?_) ⟨?_, ?_, ?_, fun k a b => ?_⟩ (fun k i a b d e f _ => by rw [eR k (by simp; omega)])
      · rw [m1 _ (by omega) (by omega) (by omega) (by omega)]; exact hw.2.2.2.2.2.2.2.2.2.2.2.1 u a b
      · rw [m1 _ (by omega) (by omega) (by omega) (by omega), eR 59 (by decide)]; exact (ht.1 u a b).2.2.2
      · rw [m3, f4, hct]
      · rw [m3]; exact (ctV_bd _ _).1
      · rw [m3]; have := (ctV_bd (vis C (cs p) (sC C (cs p)) (beg C (cs p) (sC C (cs p)) (-1))) (C (cs p) 0).toNat).2; omega
      · rw [m3] at b
        obtain ⟨u, u0, u1, u2, u3⟩ := ctV_sur _ _ k a b
        have x1 := m4 u u0 (by omega) u2
        have x2 := f5 u u0 (by omega) (fun q => u2 ((hV u).mpr q))
        rw [u3, show (0 : Int) + k = k from by omega] at x1
        rw [← hct, u3] at x2
        rw [x1, x2]
    obtain ⟨nB, nJ⟩ := RB_p (C' := M) (R' := A3) hB hJ (fun k a b => m1 k (by omega) (by omega) (by omega) (by omega)) (fun k a b => eR k (by simp at a; simp; omega)) (fun i hi => e0 i (fun q => hi (by rw [q]; decide)) (fun q => hi (by rw [q]; decide)))
    refine ⟨hct _, by rw [f1 0 (by decide) (by decide), hv.2.1 0 (by decide), g1, ux_s], ⟨nB, nJ, ps_put hY p0 p4 hcs.1 hcs.2.1 hcs.2.2.1 hcs.2.2.2.1 hcs.2.2.2.2 nP (fun k hk => m1 k (by omega) (by omega) (by omega) (by omega)) (fun k i a b hn => ?_)⟩, ⟨fun k a b => m1 k (by omega) (by omega) (by omega) (by omega), fun i _ => by rw [m1 0 (by omega) (by omega) (by omega) (by omega)]⟩, ⟨fun k a b => eR k (by simp at a; simp; omega), fun i hi => e0 i (fun q => hi (by rw [q]; decide)) (fun q => hi (by rw [q]; decide))⟩⟩
    by_cases y : k = 51
    · rw [y, f2 i (by rw [y] at hn; unfold rw_ at hn; omega), g1, ux_c _ _ _ _ (by decide)]
    · by_cases y2 : k = 52
      · rw [y2, f3 i (by rw [y2] at hn; unfold rw_ at hn; omega), g1, ux_c _ _ _ _ (by decide)]
      · rw [eR k (by simp; omega)]
  · unfold w_X12_lost
    refine p_R_isPic (fun a b => absurd ⟨a, b⟩ hn) (fun _ _ => ⟨fun _ => ?_, fun q => absurd rfl q⟩)
    unfold w_X12_lost_b14
    intro M1 e1 v2 e2 _
    have : v2 = 1 := by rw [e2, e1, ux_s]
    exact ⟨fun q => by omega, fun _ => e1⟩
theorem u_holder {C R : MM} {p t k w : Int} (h : RD C R) : w_X11_holder (fun r C' => w_X12_holder (fun r' R' => r = r' ∧ R' = ux_ R 0 0 0 ∧ RD C' R' ∧ FPc C C') p t k w R) (fun E C' => E ∈ (["java/util/NoSuchElementException"] : List String) ∧ RD C' R ∧ FPc C C' ∧ w_X12_holder (fun r' R' => R' = ux_ R 0 0 1) p t k w R) p t k w C := by
  have h' := h
  obtain ⟨hB, hJ, cs, hcs⟩ := h
  have hY := hB.1.2.2.2.2
  have bad : ∀ Q : Int → MM → Prop, Q 0 (ux_ R 0 0 1) → w_X12_holder_b35 Q p t k w R := fun Q hq => by
    unfold w_X12_holder_b35 w_X12_holder_b40
    intro M1 e1 v2 e2 _
    have : v2 = 1 := by rw [e2, e1, ux_s]
    exact ⟨fun q => by omega, fun _ => by rw [e1]; exact hq⟩
  unfold w_X11_holder w_X11_holder_b38
  refine p_isThing hcs (fun p0 p4 t0 t1 _ => ⟨fun q => absurd q (by decide), fun _ => ?_⟩) (fun hn _ => ⟨fun _ => ⟨by simp, h', FPc_r C, ?_⟩, fun q => absurd rfl q⟩)
  · have hc := hcs.1 p p0 p4
    have hw := hc.2.1
    have hb := hc.2.2.1
    have n4 := hw.2.1
    have ip := hcs.2.2.2.1 p p0 (by omega)
    have cc : 25 < cs p := by unfold isP at ip; omega
    have go : ∀ Q : Int → MM → Prop, ((k < 0 → w_X12_holder_b35 Q p t k w R) ∧ (¬ k < 0 → (((hl C (cs p) t).length : Int) ≤ k → w_X12_holder_b35 Q p t k w R) ∧ (¬ ((hl C (cs p) t).length : Int) ≤ k → (w < 0 → w_X12_holder_b35 Q p t k w R) ∧ (¬ w < 0 → (w ≤ 1 → w_X12_holder_b40 Q p t k w 0 R) ∧ (¬ w ≤ 1 → w_X12_holder_b35 Q p t k w R))))) → w_X12_holder Q p t k w R := fun Q hq => by
      unfold w_X12_holder
      exact p_R_isThing hcs rfl (fun _ _ _ _ _ => ⟨fun q => absurd q (by decide), fun _ => ⟨hq.1, fun z => p_R_holders hY hw hb p0 (by omega) t0 t1 fun _ => hq.2 z⟩⟩) (fun q => absurd ⟨p0, p4, t0, t1⟩ q)
    refine ⟨fun z => ⟨by simp, h', FPc_r C, go _ ⟨fun _ => bad _ rfl, fun q => absurd z q⟩⟩, fun z => ⟨p0, p4, cs p, hc.1, ip, ?_⟩⟩
    unfold w_X5_holdersOf
    refine nd_H hY cc hc.2 fun M hS hP hd => ⟨by unfold ri_; omega, by omega, by omega, fun v4 e4 g4 => ⟨t0, by omega, fun v5 e5 g5 => ?_⟩⟩
    have el := hl_fr hY hw (SHf_ty cc hS) (by rw [hS (cs p) (by omega)]) (by rw [hS (cs p) (by omega)]) (fun q a b => hS q (by omega)) t
    have eN : M (cs p) 0 = C (cs p) 0 := by rw [hS (cs p) (by omega)]
    obtain ⟨q, qv⟩ := hd.2 t t0 (by rw [eN]; exact t1)
    rw [el] at q qv
    obtain ⟨nD, nF⟩ := RD_sh hB hJ hcs p0 p4 hS hP
    have hb := hs_bd hY hw
    have hsv : M (cs p + 19) t = hs C (cs p) t.toNat ∧ M (cs p + 19) (t + 1) ≤ 4108 := by
      have s1 := HD_hs hd t.toNat (by omega)
      have s2 := HD_hs hd (t.toNat + 1) (by omega)
      have eh : ∀ n : Nat, hs M (cs p) n = hs C (cs p) n := fun n => sum_c n fun u _ _ => by
        rw [hl_fr hY hw (SHf_ty cc hS) (by rw [hS (cs p) (by omega)]) (by rw [hS (cs p) (by omega)]) (fun q a b => hS q (by omega)) u]
      rw [eh] at s1 s2
      rw [show ((t.toNat : Nat) : Int) = t from by omega] at s1
      rw [show ((t.toNat + 1 : Nat) : Int) = t + 1 from by omega] at s2
      have m1 := hs_m C (cs p) (t.toNat + 1) (C (cs p) 0).toNat (by omega)
      exact ⟨s1, by omega⟩
    have m0 := hs_m C (cs p) 0 t.toNat (by omega)
    have z0 : hs C (cs p) 0 = 0 := rfl
    have e : v4 - v5 = ((hl C (cs p) t).length : Int) := by rw [e4, e5, q]; omega
    rw [e]
    refine ⟨by unfold ri_; omega, fun _ => ⟨fun z2 => ⟨by simp, nD, nF, go _ ⟨fun q => absurd q z, fun _ => ⟨fun _ => bad _ rfl, fun q => absurd z2 q⟩⟩⟩, fun z2 => ⟨fun z3 => ⟨by simp, nD, nF, go _ ⟨fun q => absurd q z, fun _ => ⟨fun q => absurd q z2, fun _ => ⟨fun _ => bad _ rfl, fun q => absurd z3 q⟩⟩⟩⟩, fun z3 => ⟨fun z4 => ?_, fun z4 => ⟨by simp, nD, nF, go _ ⟨fun q => absurd q z, fun _ => ⟨fun q => absurd q z2, fun _ => ⟨fun q => absurd q z3, fun _ => ⟨fun q => absurd q z4, fun _ => bad _ rfl⟩⟩⟩⟩⟩⟩⟩⟩⟩
    obtain ⟨x1, x2⟩ := qv k.toNat (by omega)
    rw [show ((k.toNat : Nat) : Int) = k from by omega] at x1 x2
    have fin : ∀ v, v = hv C (cs p) t k w → w_X12_holder (fun r' R' => v = r' ∧ R' = ux_ R 0 0 0 ∧ RD M R' ∧ FPc C M) p t k w R := fun v ev => by
      refine go _ ⟨fun q => absurd q z, fun _ => ⟨fun q => absurd q z2, fun _ => ⟨fun q => absurd q z3, fun _ => ⟨fun _ => ?_, fun q => absurd z4 q⟩⟩⟩⟩
      unfold w_X12_holder_b40
      intro M1 e1 v2 e2 _
      have : v2 = 0 := by rw [e2, e1, ux_s]
      refine ⟨fun _ => ?_, fun q => by omega⟩
      subst e1
      exact p_R_holder (RB_00 hB 0).1.2.2.2.2 hw (pic_00 0 hc.2.2.1) p0 (by omega) t0 t1 (by omega) (by omega) ⟨ev, rfl, RD_00 nD 0, nF⟩
    refine ⟨p0, p4, cs p, by rw [hS 45 (by unfold isP at ip; omega)]; exact hc.1, ip, t0, by omega, fun v12 e12 _ => ⟨by unfold ri_; omega, fun w0 => ⟨by omega, by omega, fun v15 e15 _ => fin v15 ?_⟩, fun w0 => ⟨by omega, by omega, fun v16 e16 _ => fin v16 ?_⟩⟩⟩
    · unfold hv; rw [if_neg w0, e15, e12]; exact x2
    · unfold hv; rw [if_pos w0, e16, e12]; exact x1
  · unfold w_X12_holder
    exact p_R_isThing hcs rfl (fun a b d e => absurd ⟨a, b, d, e⟩ hn) (fun _ _ => ⟨fun _ => bad _ rfl, fun q => absurd rfl q⟩)
theorem u_root {C R : MM} {o b : Int} (hb : b = 0 ∨ b = 1) (h : RB C R) : w_X11_root (fun r C' => w_X12_root (fun r' R' => R' 0 0 = 0 ∧ RB C' R' ∧ (∀ k, k ∉ [26, 33] → C' k = C k) ∧ (∀ i, i ≠ 11 → C' 26 i = C 26 i) ∧ (∀ k, k ∉ [0, 24] → R' k = R k) ∧ (∀ i, i ∉ ([0, 31] : List Int) → R' 0 i = R 0 i)) o b R) (fun E C' => E ∈ (["java/util/NoSuchElementException", "java/lang/IllegalStateException"] : List String) ∧ C' = C ∧ w_X12_root (fun r' R' => R' = ux_ R 0 0 (if E = "java/lang/IllegalStateException" then 2 else 1)) o b R) o b C := by
  have hB := h
  obtain ⟨hA, hL, hH⟩ := h
  have hRt := hH.2.2.2.2.2.2.2.2.2.2.2.1
  obtain ⟨g1, g2, g3, g4, g5⟩ := hRt
  have e00 : ∀ x, ux_ R 0 0 x 0 0 = x := fun x => ux_s _ _ _ _
  have eO : ∀ x k, k ≠ 0 → ux_ R 0 0 x k = R k := fun x k hk => funext fun i => ux_c _ _ _ _ hk
  have e31 : ∀ x, ux_ R 0 0 x 0 31 = C 26 11 := fun x => by rw [ux_i _ _ _ (by decide)]; exact g1.symm
  have h24 : ∀ k, 0 ≤ k → k < C 26 11 → (R 24 k = o ↔ C 33 k = o) := fun k k0 k1 => by rw [(g4 k k0 k1).1]
  -- the reference's start, of a thing that is there
  have start : hOk C o → ∀ Q : Int → MM → Prop, (∀ at', (0 ≤ at' ∧ at' < C 26 11 ∧ C 33 at' = o) ∨ (at' = -1 ∧ ∀ k, 0 ≤ k → k < C 26 11 → C 33 k ≠ o) → (¬ (b ≠ 0 ∧ at' = -1 ∧ C 26 11 = 12) → w_X12_root_b55 Q o b at' 0 (ux_ R 0 0 0)) ∧ (b ≠ 0 ∧ at' = -1 ∧ C 26 11 = 12 → w_X12_root_b55 Q o b at' 2 (ux_ R 0 0 0))) → w_X12_root Q o b R := by
    intro ho Q hq
    unfold w_X12_root
    refine p_R_isObject hH (fun _ _ => ⟨fun q => by omega, fun _ => ?_⟩) (fun q => absurd ho q)
    unfold w_X12_root_b14
    intro M1 e1 v2 e2 g2'
    have : v2 = 0 := by rw [e2, e1, ux_s]
    refine ⟨fun _ => ?_, fun q => by omega⟩
    subst e1
    have fin : ∀ at', (0 ≤ at' ∧ at' < C 26 11 ∧ C 33 at' = o) ∨ (at' = -1 ∧ ∀ k, 0 ≤ k → k < C 26 11 → C 33 k ≠ o) → ri_ at' → (b = 0 → w_X12_root_b54 Q o b at' (ux_ R 0 0 0)) ∧ (¬ b = 0 → (¬ at' = (-1) → w_X12_root_b54 Q o b at' (ux_ R 0 0 0)) ∧ (at' = (-1) → (∀ v8, v8 = ux_ R 0 0 0 0 31 → ri_ v8 → (¬ v8 = 12 → w_X12_root_b54 Q o b at' (ux_ R 0 0 0)) ∧ (v8 = 12 → w_X12_root_b55 Q o b at' 2 (ux_ R 0 0 0))))) := by
      intro at' ha _
      obtain ⟨q1, q2⟩ := hq at' ha
      unfold w_X12_root_b54
      refine ⟨fun z => q1 (fun q => q.1 z), fun z => ⟨fun z2 => q1 (fun q => z2 q.2.1), fun z2 v8 e8 g8 => ?_⟩⟩
      rw [e31] at e8
      subst e8
      exact ⟨fun z3 => q1 (fun q => z3 q.2.2), fun z3 => q2 ⟨z, z2, z3⟩⟩
    refine p_R_rootAt (by rw [e31]; exact g2) (by rw [e31]; exact g3) (fun k k0 k1 k2 => fin k (Or.inl ?_)) (fun hn => fin (-1) (Or.inr ⟨rfl, fun k k0 k1 q => ?_⟩))
    · rw [e31] at k1
      rw [eO 0 24 (by decide)] at k2
      exact ⟨k0, k1, (h24 k k0 k1).mp k2⟩
    · refine hn k k0 (by rw [e31]; exact k1) ?_
      rw [eO 0 24 (by decide)]
      exact (h24 k k0 k1).mpr q
  have uniq : ∀ j k, 0 ≤ j → j < C 26 11 → C 33 j = o → 0 ≤ k → k < C 26 11 → C 33 k = o → j = k := by
    intro j k j0 j1 j2 k0 k1 k2
    by_cases q : j < k
    · exact absurd (by rw [j2, k2]) (g5 j k j0 q k1)
    · by_cases q2 : k < j
      · exact absurd (by rw [j2, k2]) (g5 k j k0 q2 j1)
      · omega
  have same : ∀ Q : Int → MM → Prop, Q 0 (ux_ R 0 0 0) → ∀ at', (b ≠ 0 ∧ at' ≠ -1) ∨ (b = 0 ∧ at' = -1) → w_X12_root_b55 Q o b at' 0 (ux_ R 0 0 0) := by
    intro Q hq at' ha
    unfold w_X12_root_b55
    intro M1 e1 v2 e2 _
    rw [uu00] at e1
    have : v2 = 0 := by rw [e2, e1, ux_s]
    have hz : w_X12_root_b95 Q b at' M1 := by
      unfold w_X12_root_b95
      rw [e1]
      exact ⟨fun _ => hq, fun z => ⟨fun z2 => by omega, fun _ => hq⟩⟩
    exact ⟨fun _ => ⟨fun _ => hz, fun z => ⟨fun _ => hz, fun z2 => by omega⟩⟩, fun q => by omega⟩
  unfold w_X11_root
  refine p_isThere hH.2.2.1 (fun ho _ => ⟨fun _ => ?_, fun q => by omega⟩) (fun ho _ => ⟨fun q => absurd rfl q, fun _ => ⟨by simp, rfl, ?_⟩⟩)
  · have fine : ∀ Q : Int → MM → Prop, Q 0 (ux_ R 0 0 0) → ∀ at9, ((b ≠ 0 ∧ at9 ≠ -1) ∨ (b = 0 ∧ at9 = -1)) → ((0 ≤ at9 ∧ at9 < C 26 11 ∧ C 33 at9 = o) ∨ (at9 = -1 ∧ ∀ k, 0 ≤ k → k < C 26 11 → C 33 k ≠ o)) → w_X12_root Q o b R := by
      intro Q hq at9 h9 h8
      refine start ho Q fun at' ha => ?_
      have : at' = at9 := by
        rcases ha with ⟨a, b, c⟩ | ⟨a, b⟩
        · rcases h8 with ⟨d, e, f⟩ | ⟨d, e⟩
          · exact uniq _ _ a b c d e f
          · exact absurd c (e _ a b)
        · rcases h8 with ⟨d, e, f⟩ | ⟨d, e⟩
          · exact absurd f (b _ d e)
          · rw [a, d]
      subst this
      exact ⟨fun _ => same Q hq at' h9, fun q => by omega⟩
    have fineC : w_X12_root (fun r' R' => R' 0 0 = 0 ∧ RB C R' ∧ (∀ k, k ∉ [26, 33] → C k = C k) ∧ (∀ i, i ≠ 11 → C 26 i = C 26 i) ∧ (∀ k, k ∉ [0, 24] → R' k = R k) ∧ (∀ i, i ∉ ([0, 31] : List Int) → R' 0 i = R 0 i)) o b R → True := fun _ => trivial
    have ok0 : (fun (r' : Int) (R' : MM) => R' 0 0 = 0 ∧ RB C R' ∧ (∀ k, k ∉ [26, 33] → C k = C k) ∧ (∀ i, i ≠ 11 → C 26 i = C 26 i) ∧ (∀ k, k ∉ [0, 24] → R' k = R k) ∧ (∀ i, i ∉ ([0, 31] : List Int) → R' 0 i = R 0 i)) 0 (ux_ R 0 0 0) := by
      refine ⟨ux_s _ _ _ _, RB_00 hB 0, fun _ _ => rfl, fun _ _ => rfl, fun k hk => eO 0 k (fun q => hk (by rw [q]; decide)), fun i hi => ux_i _ _ _ (fun q => hi (by rw [q]; decide))⟩
    refine p_rootPlace g2 g3 (fun k k0 k1 k2 _ => ⟨fun z => ?_, fun z => ⟨fun z2 => ?_, fun z2 => by omega⟩⟩) (fun hno _ => ⟨fun z => ?_, fun z => ⟨fun q => absurd rfl q, fun _ v8 e8 g8 => ?_⟩⟩)
    · -- a root is taken away
      unfold w_X11_root_b86
      refine ⟨fun q => absurd z q, fun _ => ⟨fun q => by omega, fun _ => p_dropRoot k0 k1 g3 ?_⟩⟩
      refine start ho _ fun at' ha => ?_
      have : at' = k := by
        rcases ha with ⟨a, b, c⟩ | ⟨a, b⟩
        · exact uniq _ _ a b c k0 k1 k2
        · exact absurd k2 (b k k0 k1)
      subst this
      refine ⟨fun _ => ?_, fun q => absurd z q.1⟩
      unfold w_X12_root_b55
      intro M1 e1 v2 e2 _
      rw [uu00] at e1
      have : v2 = 0 := by rw [e2, e1, ux_s]
      refine ⟨fun _ => ⟨fun _ => ?_, fun q => absurd z q⟩, fun q => by omega⟩
      unfold w_X12_root_b95
      refine ⟨fun q => absurd z q, fun _ => ⟨fun _ => ?_, fun q => by omega⟩⟩
      subst e1
      refine p_R_drop k0 (by rw [e31]; exact k1) (by rw [e31]; exact g3) ?_
      rw [e31]
      have c' : ∀ k, k ∉ [26, 33] → shf (ux_ C 26 11 (C 26 11 - 1)) 33 at' (C 26 11 - 1) k = C k := by
        intro k hk
        funext i
        unfold shf
        rw [if_neg (fun q => hk (by rw [q.1]; decide)), ux_c _ _ _ _ (fun q => hk (by rw [q]; decide))]
      have c26 : ∀ i, i ≠ 11 → shf (ux_ C 26 11 (C 26 11 - 1)) 33 at' (C 26 11 - 1) 26 i = C 26 i := by
        intro i hi
        unfold shf
        rw [if_neg (by omega), ux_i _ _ _ hi]
      have c11 : shf (ux_ C 26 11 (C 26 11 - 1)) 33 at' (C 26 11 - 1) 26 11 = C 26 11 - 1 := by
        unfold shf
        rw [if_neg (by omega), ux_s]
      have r' : ∀ k, k ∉ [0, 24] → ux_ (shf (ux_ R 0 0 0) 24 at' (C 26 11 - 1)) 0 31 (C 26 11 - 1) k = R k := by
        intro k hk
        funext i
        have k0 : k ≠ 0 := fun q => hk (by rw [q]; decide)
        rw [ux_c _ _ _ _ k0]
        unfold shf
        rw [if_neg (fun q => hk (by rw [q.1]; decide)), ux_c _ _ _ _ k0]
      have r0 : ∀ i, i ∉ ([0, 31] : List Int) → ux_ (shf (ux_ R 0 0 0) 24 at' (C 26 11 - 1)) 0 31 (C 26 11 - 1) 0 i = R 0 i := by
        intro i hi
        rw [ux_i _ _ _ (fun q => hi (by rw [q]; decide))]
        unfold shf
        rw [if_neg (by omega), ux_i _ _ _ (fun q => hi (by rw [q]; decide))]
      refine ⟨?_, ⟨?_, ?_, ?_⟩, c', c26, r', r0⟩
      · rw [ux_i _ _ _ (by decide)]
        unfold shf
        rw [if_neg (by omega), ux_s]
      · refine RA_R (RA_of hA (by rw [c' 1 (by decide)]) (fun k i a b _ _ _ => by rw [c' k (by simp; omega)]) (fun k i _ _ => rfl) rfl rfl) (fun k a b _ => r' k (by simp; omega)) (fun i hi => r0 i (by revert hi; simp; omega))
      · exact Rlk_of hL (by rw [c' 8 (by decide)]) (c' 14 (by decide)) (c' 19 (by decide)) (c' 20 (by decide))
      · refine Rhp_C hH (fun k hk => c' k (by intro q; simp at q; rcases q with rfl | rfl <;> simp at hk)) (by rw [c' 8 (by decide)]) (fun i hi => c26 i (by intro q; rw [q] at hi; revert hi; decide)) (fun k hk => r' k (by intro q; simp at q; rcases q with rfl | rfl <;> simp at hk)) (fun i hi => r0 i (by intro q; simp at q; rcases q with rfl | rfl <;> simp at hi)) ?_
        have x24 : ∀ i, ux_ (shf (ux_ R 0 0 0) 24 at' (C 26 11 - 1)) 0 31 (C 26 11 - 1) 24 i = if at' ≤ i ∧ i < C 26 11 - 1 then R 24 (i + 1) else R 24 i := fun i => by
          rw [ux_c _ _ _ _ (by decide)]
          unfold shf
          rw [ux_c _ _ _ _ (by decide), ux_c _ _ _ _ (by decide)]
          simp
        have x33 : ∀ i, shf (ux_ C 26 11 (C 26 11 - 1)) 33 at' (C 26 11 - 1) 33 i = if at' ≤ i ∧ i < C 26 11 - 1 then C 33 (i + 1) else C 33 i := fun i => by
          unfold shf
          rw [ux_c _ _ _ _ (by decide), ux_c _ _ _ _ (by decide)]
          simp
        have hk : hOk (shf (ux_ C 26 11 (C 26 11 - 1)) 33 at' (C 26 11 - 1)) = hOk C := hOk_eq (c26 1 (by decide)) (c' 27 (by decide))
        refine ⟨by rw [c11, ux_s], by rw [c11]; omega, by rw [c11]; omega, ?_, ?_⟩
        · rw [c11, hk]
          intro k k0 k1
          rw [x24, x33]
          by_cases q : at' ≤ k ∧ k < C 26 11 - 1
          · rw [if_pos q, if_pos q]; exact g4 (k + 1) (by omega) (by omega)
          · rw [if_neg q, if_neg q]; exact g4 k k0 (by omega)
        · rw [c11]
          intro j k j0 j1 k1
          rw [x33, x33]
          by_cases q : at' ≤ k ∧ k < C 26 11 - 1
          · rw [if_pos q]
            by_cases q2 : at' ≤ j ∧ j < C 26 11 - 1
            · rw [if_pos q2]; exact g5 (j + 1) (k + 1) (by omega) (by omega) (by omega)
            · rw [if_neg q2]; exact g5 j (k + 1) (by omega) (by omega) (by omega)
          · rw [if_neg q, if_neg (by omega)]; exact g5 j k j0 j1 (by omega)
    · unfold w_X11_root_b86
      exact ⟨fun _ => fine _ ok0 k (by omega) (Or.inl ⟨k0, k1, k2⟩), fun q => absurd q z⟩
    · unfold w_X11_root_b86
      exact ⟨fun q => absurd z q, fun _ => ⟨fun _ => fine _ ok0 (-1) (by omega) (Or.inr ⟨rfl, hno⟩), fun q => absurd rfl q⟩⟩
    · subst e8
      refine ⟨fun z8 v10 e10 g10 => ?_, fun z8 => ⟨by simp, rfl, ?_⟩⟩
      · subst e10
        refine ⟨g2, by omega, fun M11 e11 v12 e12 g12 => ?_⟩
        have r12 : v12 = C 26 11 := by rw [e12, e11, ux_c _ _ _ _ (by decide)]
        subst r12
        refine ⟨by unfold ri_; omega, fun M14 e14 => ?_⟩
        unfold w_X11_root_b86
        refine ⟨fun _ => ?_, fun q => absurd q z⟩
        subst e14 e11
        refine start ho _ fun at' ha => ?_
        have : at' = -1 := by
          rcases ha with ⟨a, b, c⟩ | ⟨a, b⟩
          · exact absurd c (hno _ a b)
          · exact a
        subst this
        refine ⟨fun _ => ?_, fun q => absurd q.2.2 z8⟩
        unfold w_X12_root_b55
        intro M1 e1 v2 e2 _
        rw [uu00] at e1
        have : v2 = 0 := by rw [e2, e1, ux_s]
        refine ⟨fun _ => ⟨fun q => absurd q z, fun _ => ⟨fun q => absurd rfl q, fun _ v6 e6 g6 => ?_⟩⟩, fun q => by omega⟩
        subst e1
        rw [e31] at e6
        subst e6
        refine ⟨g2, by omega, fun M7 e7 v8 e8 g8 => ?_⟩
        have r8 : v8 = C 26 11 := by rw [e8, e7, ux_c _ _ _ _ (by decide), e31]
        subst r8
        refine ⟨by unfold ri_; omega, fun M10 e10 => ?_⟩
        unfold w_X12_root_b95
        refine ⟨fun _ => ?_, fun q => absurd q z⟩
        subst e10 e7
        have c' : ∀ k, k ∉ [26, 33] → ux_ (ux_ C 33 (C 26 11) o) 26 11 (C 26 11 + 1) k = C k := by
          intro k hk
          funext i
          rw [ux_c _ _ _ _ (fun q => hk (by rw [q]; decide)), ux_c _ _ _ _ (fun q => hk (by rw [q]; decide))]
        have c26 : ∀ i, i ≠ 11 → ux_ (ux_ C 33 (C 26 11) o) 26 11 (C 26 11 + 1) 26 i = C 26 i := by
          intro i hi
          rw [ux_i _ _ _ hi, ux_c _ _ _ _ (by decide)]
        have c11 : ux_ (ux_ C 33 (C 26 11) o) 26 11 (C 26 11 + 1) 26 11 = C 26 11 + 1 := ux_s _ _ _ _
        have r' : ∀ k, k ∉ [0, 24] → ux_ (ux_ (ux_ R 0 0 0) 24 (C 26 11) o) 0 31 (C 26 11 + 1) k = R k := by
          intro k hk
          funext i
          have k0 : k ≠ 0 := fun q => hk (by rw [q]; decide)
          rw [ux_c _ _ _ _ k0, ux_c _ _ _ _ (fun q => hk (by rw [q]; decide)), ux_c _ _ _ _ k0]
        have r0 : ∀ i, i ∉ ([0, 31] : List Int) → ux_ (ux_ (ux_ R 0 0 0) 24 (C 26 11) o) 0 31 (C 26 11 + 1) 0 i = R 0 i := by
          intro i hi
          rw [ux_i _ _ _ (fun q => hi (by rw [q]; decide)), ux_c _ _ _ _ (by decide), ux_i _ _ _ (fun q => hi (by rw [q]; decide))]
        refine ⟨?_, ⟨?_, ?_, ?_⟩, c', c26, r', r0⟩
        · rw [ux_i _ _ _ (by decide), ux_c _ _ _ _ (by decide), ux_s]
        · refine RA_R (RA_of hA (by rw [c' 1 (by decide)]) (fun k i a b _ _ _ => by rw [c' k (by simp; omega)]) (fun k i _ _ => rfl) rfl rfl) (fun k a b _ => r' k (by simp; omega)) (fun i hi => r0 i (by revert hi; simp; omega))
        · exact Rlk_of hL (by rw [c' 8 (by decide)]) (c' 14 (by decide)) (c' 19 (by decide)) (c' 20 (by decide))
        · refine Rhp_C hH (fun k hk => c' k (by intro q; simp at q; rcases q with rfl | rfl <;> simp at hk)) (by rw [c' 8 (by decide)]) (fun i hi => c26 i (by intro q; rw [q] at hi; revert hi; decide)) (fun k hk => r' k (by intro q; simp at q; rcases q with rfl | rfl <;> simp at hk)) (fun i hi => r0 i (by intro q; simp at q; rcases q with rfl | rfl <;> simp at hi)) ?_
          have x24 : ∀ i, ux_ (ux_ (ux_ R 0 0 0) 24 (C 26 11) o) 0 31 (C 26 11 + 1) 24 i = if i = C 26 11 then o else R 24 i := fun i => by
            rw [ux_c _ _ _ _ (by decide)]
            by_cases q : i = C 26 11
            · rw [if_pos q, q, ux_s]
            · rw [if_neg q, ux_i _ _ _ q, ux_c _ _ _ _ (by decide)]
          have x33 : ∀ i, ux_ (ux_ C 33 (C 26 11) o) 26 11 (C 26 11 + 1) 33 i = if i = C 26 11 then o else C 33 i := fun i => by
            rw [ux_c _ _ _ _ (by decide)]
            by_cases q : i = C 26 11
            · rw [if_pos q, q, ux_s]
            · rw [if_neg q, ux_i _ _ _ q]
          have hk : hOk (ux_ (ux_ C 33 (C 26 11) o) 26 11 (C 26 11 + 1)) = hOk C := hOk_eq (c26 1 (by decide)) (c' 27 (by decide))
          refine ⟨by rw [c11, ux_s], by rw [c11]; omega, by rw [c11]; omega, ?_, ?_⟩
          · rw [c11, hk]
            intro k k0 k1
            rw [x24, x33]
            by_cases q : k = C 26 11
            · rw [if_pos q, if_pos q]; exact ⟨rfl, ho⟩
            · rw [if_neg q, if_neg q]; exact g4 k k0 (by omega)
          · rw [c11]
            intro j k j0 j1 k1
            rw [x33, x33, if_neg (by omega)]
            by_cases q : k = C 26 11
            · rw [if_pos q]; exact hno j j0 (by omega)
            · rw [if_neg q]; exact g5 j k j0 j1 (by omega)
      · refine start ho _ fun at' ha => ?_
        have : at' = -1 := by
          rcases ha with ⟨a, b, c⟩ | ⟨a, b⟩
          · exact absurd c (hno _ a b)
          · exact a
        subst this
        refine ⟨fun q => absurd ⟨z, rfl, z8⟩ q, fun _ => ?_⟩
        unfold w_X12_root_b55
        intro M1 e1 v2 e2 _
        rw [uu00] at e1
        have : v2 = 2 := by rw [e2, e1, ux_s]
        exact ⟨fun q => by omega, fun _ => by rw [e1]; rfl⟩
  · unfold w_X12_root
    refine p_R_isObject hH (fun q => absurd q ho) (fun _ _ => ⟨fun _ => ?_, fun q => absurd rfl q⟩)
    unfold w_X12_root_b14
    intro M1 e1 v2 e2 _
    have : v2 = 1 := by rw [e2, e1, ux_s]
    exact ⟨fun q => by omega, fun _ => by rw [e1]; rfl⟩
theorem u_make {C R : MM} {t n : Int} (gt : ri_ t) (h : RB C R) : w_X11_make (fun r C' => w_X12_make (fun r' R' => r = r' ∧ R' 0 0 = 0 ∧ RB C' R' ∧ (∃ m, C' = crt C t m) ∧ (∀ k, k ∉ [0, 16, 19, 20, 21, 22, 23] → R' k = R k) ∧ (∀ i, i ∉ ([0, 26, 27, 28] : List Int) → R' 0 i = R 0 i)) t n R) (fun E C' => E ∈ (["java/lang/IllegalArgumentException", "java/lang/IllegalStateException"] : List String) ∧ C' = C ∧ w_X12_make (fun r' R' => R' = ux_ R 0 0 (if E = "java/lang/IllegalStateException" then 2 else 1)) t n R) t n C := by
  have hB := h
  obtain ⟨hA, hL, hH⟩ := h
  have hY := hA.2.2.2.2
  have h16 := hY.2.2.1
  have hnn := sm_nn hY hH
  have bad : ¬ mkA C t n → w_X12_make (fun r' R' => R' = ux_ R 0 0 1) t n R := fun q => p_R_make gt hB (fun _ => rfl) (fun a => absurd a q) (fun a => absurd a q)
  have go : mkA C t n → ∀ m, (20 ≤ t → n = m) → (t < 20 → m = 0) → 0 ≤ m → m ≤ 60 → w_X11_make_b48 (fun r C' => w_X12_make (fun r' R' => r = r' ∧ R' 0 0 = 0 ∧ RB C' R' ∧ (∃ m, C' = crt C t m) ∧ (∀ k, k ∉ [0, 16, 19, 20, 21, 22, 23] → R' k = R k) ∧ (∀ i, i ∉ ([0, 26, 27, 28] : List Int) → R' 0 i = R 0 i)) t n R) (fun E C' => E ∈ (["java/lang/IllegalArgumentException", "java/lang/IllegalStateException"] : List String) ∧ C' = C ∧ w_X12_make (fun r' R' => R' = ux_ R 0 0 (if E = "java/lang/IllegalStateException" then 2 else 1)) t n R) t m C := by
    intro ha m hm hm2 m0 m1
    have hs := so_bd hY ha.1 m0 m1
    have hso : so C t n = so C t m := by
      by_cases q : 20 ≤ t
      · rw [hm q]
      · unfold so; rw [if_neg q, if_neg q]
    unfold w_X11_make_b48
    refine p_so h16 ha.1 fun _ => ?_
    refine p_hasRoom hH.2.1 hH.2.2.1 hnn hH.2.2.2.2.2.2.1 (by omega) (by omega) hs.1 (by omega) (fun r1 r2 _ => ⟨fun _ => ?_, fun q => by omega⟩) (fun hr _ => ⟨fun q => absurd rfl q, fun _ => ⟨by simp, rfl, ?_⟩⟩)
    · have hc := ct_bd C (C 26 1).toNat
      have h2 := hH.2.2.2.1
      have hm0 := hH.2.1
      refine p_create hY ha.1 m0 m1 hH.2.1 (by omega) (by omega) (by omega) hnn (by omega) fun _ => ?_
      refine p_R_make gt hB (fun q => absurd ha q) (fun _ q => absurd ⟨by omega, by rw [hso]; omega⟩ q) fun _ _ => ?_
      have q0 : ∀ i, i ≠ 0 → (if t < 20 then ux_ (ux_ R 0 0 0) 16 t 1 else ux_ R 0 0 0) 0 i = R 0 i := by
        intro i hi
        by_cases z : t < 20
        · rw [if_pos z, ux_c _ _ _ _ (by decide), ux_i _ _ _ hi]
        · rw [if_neg z, ux_i _ _ _ hi]
      have q00 : (if t < 20 then ux_ (ux_ R 0 0 0) 16 t 1 else ux_ R 0 0 0) 0 0 = 0 := by
        by_cases z : t < 20
        · rw [if_pos z, ux_c _ _ _ _ (by decide), ux_s]
        · rw [if_neg z, ux_s]
      have qk : ∀ k, k ≠ 0 → k ≠ 16 → (if t < 20 then ux_ (ux_ R 0 0 0) 16 t 1 else ux_ R 0 0 0) k = R k := by
        intro k hk hk2
        funext i
        by_cases z : t < 20
        · rw [if_pos z, ux_c _ _ _ _ hk2, ux_c _ _ _ _ hk]
        · rw [if_neg z, ux_c _ _ _ _ hk]
      have q16 : ∀ i, 0 ≤ i → i < C 8 0 → (if t < 20 then ux_ (ux_ R 0 0 0) 16 t 1 else ux_ R 0 0 0) 16 i = if i = t then 1 else R 16 i := by
        intro i i0 i1
        by_cases z : t < 20
        · rw [if_pos z]
          by_cases z2 : i = t
          · rw [if_pos z2, z2, ux_s]
          · rw [if_neg z2, ux_i _ _ _ z2, ux_c _ _ _ _ (by decide)]
        · rw [if_neg z, if_neg (by omega), ux_c _ _ _ _ (by decide)]
      refine ⟨rfl, ?_, RB_new hB ha.1 m0 m1 hm2 (fun q => hm q) (by omega) (by omega) q0 qk q16, ⟨m, rfl⟩, fun k hk => ?_, fun i hi => ?_⟩
      · rw [rdd_0 _ _ _ _ _ (by decide) (by decide) (by decide), q00]
      · rw [rdd_o _ _ _ _ (fun q => hk (by revert q; simp; omega))]
        exact qk k (fun q => hk (by rw [q]; decide)) (fun q => hk (by rw [q]; decide))
      · rw [rdd_0 _ _ _ _ _ (fun q => hi (by rw [q]; decide)) (fun q => hi (by rw [q]; decide)) (fun q => hi (by rw [q]; decide))]
        exact q0 i (fun q => hi (by rw [q]; decide))
    · exact p_R_make gt hB (fun q => absurd ha q) (fun _ _ => rfl) (fun _ q => absurd ⟨by have := q.1; omega, by have := q.2; rw [hso] at this; exact this⟩ hr)
  unfold w_X11_make
  refine p_isType gt (fun ht _ => ⟨fun q => by omega, fun _ => ?_⟩) (fun ht _ => ⟨fun _ => ⟨by simp, rfl, bad (fun q => ht q.1)⟩, fun q => absurd rfl q⟩)
  unfold w_X10_isArray
  refine ⟨fun z _ => ⟨fun _ => ?_, fun q => absurd rfl q⟩, fun z _ => ⟨fun q => by omega, fun _ => ⟨fun z2 => ⟨by simp, rfl, bad (fun q => by have := q.2 (by omega); omega)⟩, fun z2 => ⟨fun z3 => ?_, fun z3 => ⟨by simp, rfl, bad (fun q => by have := q.2 (by omega); omega)⟩⟩⟩⟩⟩
  · unfold w_X11_make_b36 w_X10_isArray
    exact ⟨fun _ _ => ⟨fun _ => go ⟨ht, fun q => by omega⟩ 0 (fun q => by omega) (fun _ => rfl) (by omega) (by omega), fun q => absurd rfl q⟩, fun q => absurd z q⟩
  · unfold w_X11_make_b36 w_X10_isArray
    exact ⟨fun q => absurd q z, fun _ _ => ⟨fun q => by omega, fun _ => go ⟨ht, fun _ => ⟨by omega, z3⟩⟩ n (fun _ => rfl) (fun q => by omega) (by omega) z3⟩⟩
theorem u_type {C R : MM} {u l : Int} (h : RA C R) : w_X11_type (fun r C' => w_X12_type (fun r' R' => R' 0 0 = 0 ∧ r = r' ∧ RA C' R' ∧ FC C C' ∧ FR R R' ∧ C' 7 = C 7 ∧ R' 3 = R 3) u l R) (fun E C' => E ∈ (["java/lang/IndexOutOfBoundsException", "java/lang/IllegalArgumentException", "java/lang/IllegalStateException"] : List String) ∧ w_X12_type (fun r' R' => R' 0 0 = xT E ∧ RA C' R' ∧ FC C C' ∧ FR R R' ∧ C' 7 = C 7 ∧ R' 3 = R 3) u l R) u l C := by
  obtain ⟨hT, b1, b2, hK, hY⟩ := id h
  obtain ⟨y1, y2, y3, y4, y5, y6⟩ := id hY
  obtain ⟨t1, t2, t3, t4, t5⟩ := id hT
  have hbad : ((u ≠ -1 ∧ ¬ (0 ≤ u ∧ u < C 8 0)) ∨ l < 0 ∨ 3 < l) → w_X11_type_b25 (fun r C' => w_X12_type (fun r' R' => R' 0 0 = 0 ∧ r = r' ∧ RA C' R' ∧ FC C C' ∧ FR R R' ∧ C' 7 = C 7 ∧ R' 3 = R 3) u l R) (fun E C' => E ∈ (["java/lang/IndexOutOfBoundsException", "java/lang/IllegalArgumentException", "java/lang/IllegalStateException"] : List String) ∧ w_X12_type (fun r' R' => R' 0 0 = xT E ∧ RA C' R' ∧ FC C C' ∧ FR R R' ∧ C' 7 = C 7 ∧ R' 3 = R 3) u l R) C := by
    intro hb
    unfold w_X11_type_b25
    refine ⟨by simp, ?_⟩
    refine R_type_bad (by rw [← y1]; exact hb) ⟨by rw [ux_s]; rfl, ?_⟩
    exact RA_sc2 h (fun _ _ _ => rfl)
  have H16 : (u = -1 ∨ (0 ≤ u ∧ u < C 8 0)) → w_X11_type_b16 (fun r C' => w_X12_type (fun r' R' => R' 0 0 = 0 ∧ r = r' ∧ RA C' R' ∧ FC C C' ∧ FR R R' ∧ C' 7 = C 7 ∧ R' 3 = R 3) u l R) (fun E C' => E ∈ (["java/lang/IndexOutOfBoundsException", "java/lang/IllegalArgumentException", "java/lang/IllegalStateException"] : List String) ∧ w_X12_type (fun r' R' => R' 0 0 = xT E ∧ RA C' R' ∧ FC C C' ∧ FR R R' ∧ C' 7 = C 7 ∧ R' 3 = R 3) u l R) u l C := by
    intro hu
    unfold w_X11_type_b16
    refine ⟨fun z => hbad (by omega), fun z => ⟨fun z2 => p_wholeName (okT_of hT) fun C1 v hf hv _ => ?_, fun z2 => hbad (by omega)⟩⟩
    have hR := @R_type_ok
    have e8 : C1 8 0 = C 8 0 := hf 8 0 (by omega)
    have e9 : ∀ i, C1 9 i = C 9 i := fun i => hf 9 i (by omega)
    have e10 : ∀ i, C1 10 i = C 10 i := fun i => hf 10 i (by omega)
    have hnm : ∀ v', nmR R v' → nr v v' ∧ (v = 0 ↔ v' = 0) := fun v' h' => nm_rel hT b1 hK hv h'
    have hhas : ∀ v', nmR R v' → ∀ c, 0 ≤ c → c < C 8 0 → ((C 10 c = l ∧ C 9 c = v) ↔ (R 7 c = l ∧ R 4 c = v')) := by
      intro v' h' c c0 c1
      obtain ⟨⟨a1, a2, -⟩, -⟩ := y4 c c0 c1
      rw [a2, nr_eq a1 (hnm v' h').1]
    have h79 : (C 8 0 = 16 ∨ ∃ c, 0 ≤ c ∧ c < C 8 0 ∧ C 10 c = l ∧ C 9 c = v) → v ≠ 0 → w_X11_type_b79 (fun r C' => w_X12_type (fun r' R' => R' 0 0 = 0 ∧ r = r' ∧ RA C' R' ∧ FC C C' ∧ FR R R' ∧ C' 7 = C 7 ∧ R' 3 = R 3) u l R) (fun E C' => E ∈ (["java/lang/IndexOutOfBoundsException", "java/lang/IllegalArgumentException", "java/lang/IllegalStateException"] : List String) ∧ w_X12_type (fun r' R' => R' 0 0 = xT E ∧ RA C' R' ∧ FC C C' ∧ FR R R' ∧ C' 7 = C 7 ∧ R' 3 = R 3) u l R) C1 := by
      intro hh hv0
      unfold w_X11_type_b79
      refine ⟨by simp, ?_⟩
      refine R_type_ok (by rw [← y1]; exact hu) (by omega) (by omega) (by omega) (by omega) (by omega) (by omega) (fun v' h' z' => absurd ((hnm v' h').2.mpr z') hv0) (fun v' h' _ _ => ⟨by rw [ux_s]; rfl, RA_sc2 h hf⟩) (fun v' h' _ n16 hno => ?_)
      exfalso
      rcases hh with q | ⟨c, c0, c1, c2⟩
      · exact n16 (by rw [← y1]; exact q)
      · exact hno c c0 (by rw [← y1]; exact c1) ((hhas v' h' c c0 c1).mp c2)
    refine ⟨fun zv v6 e6 g6 => ?_, fun zv => ?_⟩
    · rw [e8] at e6
      subst e6
      refine ⟨fun z16 => h79 (Or.inl z16) zv, fun z16 => ?_⟩
      refine p_hasName (by omega) (by omega) (fun c c0 c1 c2 c3 _ => ⟨fun q => by omega, fun _ => h79 (Or.inr ⟨c, c0, by rw [← e8]; exact c1, by rw [← e10]; exact c2, by rw [← e9]; exact c3⟩) zv⟩) (fun hno _ => ⟨fun _ M11 e11 => ?_, fun q => absurd rfl q⟩)
      have hno' : ∀ c, 0 ≤ c → c < C 8 0 → ¬ (C 10 c = l ∧ C 9 c = v) := fun c c0 c1 q => hno c c0 (by rw [e8]; exact c1) ⟨by rw [e10]; exact q.1, by rw [e9]; exact q.2⟩
      have m : ∀ k i, k ≠ 1 → M11 k i = C k i := fun k i hk => by rw [e11, ux_c _ _ _ _ hk]; exact hf k i (by omega)
      have m11 : M11 1 1 = 0 := by rw [e11, ux_s]
      have m8 := m 8 0 (by decide)
      have hbdu : u ≠ -1 → 0 ≤ C 16 u ∧ C 16 u ≤ 96 ∧ 12 ≤ C 17 u ∧ C 17 u ≤ 7000 := fun z => by have := ty_bd hY u (by omega) (by omega); omega
      refine p_addClass (by omega) (by omega) (by omega) (by omega) (fun z => by rw [m 16 u (by decide)]; have := hbdu z; omega) (fun z => by rw [m 17 u (by decide)]; have := hbdu z; unfold ri_; omega) (fun C' f0 f8 f9 f10 f11 f12 f16 f17 f23 _ => ?_)
      rw [m8] at f8 f9 f10 f11 f16 f17 f23 ⊢
      refine R_type_ok (by rw [← y1]; exact hu) (by omega) (by omega) (by omega) (by omega) (by omega) (by omega) (fun v' h' z' => absurd ((hnm v' h').2.mpr z') zv) (fun v' h' _ hh => ?_) (fun v' h' _ n16 hno2 => ?_)
      · exfalso
        rcases hh with q | ⟨c, c0, c1, c2⟩
        · exact z16 (by rw [y1]; exact q)
        · exact hno' c c0 (by rw [y1]; exact c1) ((hhas v' h' c c0 (by rw [y1]; exact c1)).mpr c2)
      · -- the reference lays out and empties the tape
        unfold w_X12_type_b229
        rw [← y1]
        have rA : ∀ k i, rAdd R u l v' k i = if k = 0 ∧ i = 0 then 0 else if k = 0 ∧ i = 20 then C 8 0 + 1 else if k = 4 ∧ i = C 8 0 then v' else if k = 7 ∧ i = C 8 0 then l else if k = 8 ∧ i = C 8 0 then u else if k = 9 ∧ i = C 8 0 then 0 else if k = 16 ∧ u ≠ -1 ∧ i = u then 1 else if k = 16 ∧ i = C 8 0 then 0 else R k i := by
          intro k i; unfold rAdd; rw [← y1]
        have rO : ∀ k i, k ≠ 0 → k ≠ 4 → k ≠ 7 → k ≠ 8 → k ≠ 9 → k ≠ 16 → rAdd R u l v' k i = R k i := by
          intro k i a1 a2 a3 a4 a5 a6
          rw [rA, if_neg (by omega), if_neg (by omega), if_neg (by omega), if_neg (by omega), if_neg (by omega), if_neg (by omega), if_neg (by omega), if_neg (by omega)]
        have r8n : rAdd R u l v' 8 (C 8 0) = u := by rw [rA]; simp
        have r9n : rAdd R u l v' 9 (C 8 0) = 0 := by rw [rA]; simp
        have hcl : u ≠ -1 → R 10 u = C 16 u ∧ R 11 u = C 17 u := fun z => by
          obtain ⟨⟨-, -, -, -, -, -, -, -, -, -, a11, a12, -⟩, -⟩ := y4 u (by omega) (by omega)
          exact ⟨a11.symm, a12.symm⟩
        refine p_R_layOut (n := 0) (base := if u = -1 then 0 else R 10 u) (e := if u = -1 then 12 else R 11 u) y2 (by omega) (by omega) r9n (fun j j1 => by omega) (by rw [r8n]; omega) (by rw [r8n]; omega) (by rw [r8n, rO 10 u (by decide) (by decide) (by decide) (by decide) (by decide) (by decide)]) (by rw [r8n]; omega) (by rw [r8n, rO 11 u (by decide) (by decide) (by decide) (by decide) (by decide) (by decide)]) ?_ ?_ ?_ ?_ (fun M' g1 g2 g3 g4 g5 g6 M3 e3 => ?_)
        · by_cases z : u = -1
          · rw [if_pos z]; omega
          · rw [if_neg z, (hcl z).1]; have := hbdu z; omega
        · by_cases z : u = -1
          · rw [if_pos z]; omega
          · rw [if_neg z, (hcl z).1]; have := hbdu z; omega
        · by_cases z : u = -1
          · rw [if_pos z]; omega
          · rw [if_neg z, (hcl z).2]; have := hbdu z; omega
        · by_cases z : u = -1
          · rw [if_pos z]; omega
          · rw [if_neg z, (hcl z).2]; have := hbdu z; omega
        · have n3 : ∀ k i, k ≠ 0 → M3 k i = M' k i := fun k i hk => by rw [e3, ux_c _ _ _ _ hk]
          have n0 : ∀ i, i ≠ 3 → M3 0 i = M' 0 i := fun i hi => by rw [e3, ux_i _ _ _ hi]
          have gA : ∀ k i, k ≠ 10 → k ≠ 11 → k ≠ 14 → k ≠ 15 → M' k i = rAdd R u l v' k i := g1
          have g14 : ∀ i, M' 14 i = R 14 i ∧ M' 15 i = R 15 i := fun i => by
            have := g3 i (by omega)
            rw [this.1, this.2, rO 14 i (by decide) (by decide) (by decide) (by decide) (by decide) (by decide), rO 15 i (by decide) (by decide) (by decide) (by decide) (by decide) (by decide)]
            exact ⟨rfl, rfl⟩
          have g10 : ∀ i, M' 10 i = if i = C 8 0 then (if u = -1 then 0 else R 10 u) else R 10 i := fun i => by
            by_cases z : i = C 8 0
            · rw [if_pos z, z, g4]; show _ + 0 = _; omega
            · rw [if_neg z, (g2 i z).1, rO 10 i (by decide) (by decide) (by decide) (by decide) (by decide) (by decide)]
          have g11 : ∀ i, M' 11 i = if i = C 8 0 then (if u = -1 then 12 else R 11 u) else R 11 i := fun i => by
            by_cases z : i = C 8 0
            · rw [if_pos z, z, g5, lb_n0]
            · rw [if_neg z, (g2 i z).2, rO 11 i (by decide) (by decide) (by decide) (by decide) (by decide) (by decide)]
          have g0 : ∀ i, M' 0 i = rAdd R u l v' 0 i := fun i => gA 0 i (by decide) (by decide) (by decide) (by decide)
          have r00 : M3 0 0 = 0 := by rw [n0 0 (by decide), g0, rA]; simp
          have r03 : M3 0 3 = 0 := by rw [e3, ux_s]
          have r020 : M3 0 20 = C 8 0 + 1 := by rw [n0 20 (by decide), g0, rA]; simp
          have rs : ∀ k i, k ≠ 0 → k ≠ 4 → k ≠ 7 → k ≠ 8 → k ≠ 9 → k ≠ 10 → k ≠ 11 → k ≠ 16 → M3 k i = R k i := fun k i a1 a2 a3 a4 a5 a6 a7 a8 => by
            rw [n3 k i a1]
            by_cases z : k = 14
            · subst z; exact (g14 i).1
            · by_cases z2 : k = 15
              · subst z2; exact (g14 i).2
              · rw [gA k i a6 a7 z z2]; exact rO k i a1 a2 a3 a4 a5 a8
          have cs : ∀ k i, k ≠ 1 → k ≠ 8 → k ≠ 9 → k ≠ 10 → k ≠ 11 → k ≠ 12 → k ≠ 16 → k ≠ 17 → k ≠ 23 → k ≠ 24 → k ≠ 25 → C' k i = C k i := fun k i a1 a2 a3 a4 a5 a6 a7 a8 a9 a10 a11 => by rw [f0 k i a2 a3 a4 a5 a6 a7 a8 a9 a10 a11]; exact m k i a1
          have c11 : C' 1 1 = 0 := by rw [f0 1 1 (by decide) (by decide) (by decide) (by decide) (by decide) (by decide) (by decide) (by decide) (by decide) (by decide)]; exact m11
          refine ⟨r00, rfl, ⟨⟨by rw [c11, r03], by omega, by omega, fun i i0 i1 => by omega, ?_⟩, ?_, ?_, ?_, ?_⟩, ⟨?_, ?_, ?_, ?_⟩, ⟨?_, ?_, ?_⟩, funext fun i => cs 7 i (by decide) (by decide) (by decide) (by decide) (by decide) (by decide) (by decide) (by decide) (by decide) (by decide) (by decide), funext fun i => rs 3 i (by decide) (by decide) (by decide) (by decide) (by decide) (by decide) (by decide) (by decide)⟩
          · intro i i0 i1
            rw [cs 3 i (by decide) (by decide) (by decide) (by decide) (by decide) (by decide) (by decide) (by decide) (by decide) (by decide) (by decide), rs 2 i (by decide) (by decide) (by decide) (by decide) (by decide) (by decide) (by decide) (by decide)]
            exact t5 i i0 i1
          · intro i; rw [rs 1 i (by decide) (by decide) (by decide) (by decide) (by decide) (by decide) (by decide) (by decide)]; exact b1 i
          · intro i; rw [rs 2 i (by decide) (by decide) (by decide) (by decide) (by decide) (by decide) (by decide) (by decide)]; exact b2 i
          · intro k k0 k1
            rw [cs 7 k (by decide) (by decide) (by decide) (by decide) (by decide) (by decide) (by decide) (by decide) (by decide) (by decide) (by decide), rs 3 _ (by decide) (by decide) (by decide) (by decide) (by decide) (by decide) (by decide) (by decide)]
            exact hK k k0 k1
          · refine ty_add hY (hnm v' h').1 (by omega) hu (fun k hk => funext fun i => cs k i (by omega) (by omega) (by omega) (by omega) (by omega) (by omega) (by omega) (by omega) (by omega) (by omega) (by omega)) f8 (fun i => by rw [f9, m 9 i (by decide)]) (fun i => by rw [f10, m 10 i (by decide)]) (fun i => by rw [f11, m 11 i (by decide)]) (fun i => by rw [f12, m 12 i (by decide)]) (fun i => by rw [f16, m 16 i (by decide), m 16 u (by decide)]) (fun i => by rw [f17, m 17 i (by decide), m 17 u (by decide)]) (fun k i hk => by rw [f23 k i hk, m k _ (by omega), m k _ (by omega), m 16 u (by decide)]) (fun k hk => funext fun i => rs k i (by omega) (by omega) (by omega) (by omega) (by omega) (by omega) (by omega) (by omega)) r020 ?_ ?_ ?_ ?_ ?_ ?_ ?_
            · intro i; rw [n3 4 i (by decide), gA 4 i (by decide) (by decide) (by decide) (by decide), rA]; simp
            · intro i; rw [n3 7 i (by decide), gA 7 i (by decide) (by decide) (by decide) (by decide), rA]; simp
            · intro i; rw [n3 8 i (by decide), gA 8 i (by decide) (by decide) (by decide) (by decide), rA]; simp
            · intro i; rw [n3 9 i (by decide), gA 9 i (by decide) (by decide) (by decide) (by decide), rA]; simp
            · intro i; rw [n3 16 i (by decide), gA 16 i (by decide) (by decide) (by decide) (by decide), rA]; simp
            · intro i; rw [n3 10 i (by decide)]; exact g10 i
            · intro i; rw [n3 11 i (by decide)]; exact g11 i
          · intro k i hk; exact cs k i (by omega) (by omega) (by omega) (by omega) (by omega) (by omega) (by omega) (by omega) (by omega) (by omega) (by omega)
          · intro i; exact ⟨cs 0 i (by decide) (by decide) (by decide) (by decide) (by decide) (by decide) (by decide) (by decide) (by decide) (by decide) (by decide), cs 14 i (by decide) (by decide) (by decide) (by decide) (by decide) (by decide) (by decide) (by decide) (by decide) (by decide) (by decide)⟩
          · refine ⟨by omega, fun c k0 k1 => ⟨by rw [f9, if_neg (by omega), m 9 c (by decide)], by rw [f11, if_neg (by omega), m 11 c (by decide)], fun uu => ⟨?_, by rw [f16, if_neg (by omega), m 16 c (by decide)], by rw [f17, if_neg (by omega), m 17 c (by decide)], fun k j hk j0 j1 => ?_⟩, fun k k0 k1 => ⟨by rw [cs 14 c (by decide) (by decide) (by decide) (by decide) (by decide) (by decide) (by decide) (by decide) (by decide) (by decide) (by decide)]; exact k1, fun q q0 q1 => cs q _ (by omega) (by omega) (by omega) (by omega) (by omega) (by omega) (by omega) (by omega) (by omega) (by omega) (by omega)⟩⟩⟩
            · rw [f12, m 12 c (by decide)]
              by_cases zz : u ≠ -1 ∧ c = u
              · rw [if_pos zz]
              · rw [if_neg zz]; exact uu
            · have hb := ty_bd hY c k0 k1
              rw [f23 k _ hk, if_neg (by omega), m k _ (by omega)]
          · intro hL c k k0 k1 k2 k3
            have e14 : C' 14 = C 14 := funext fun i => cs 14 i (by decide) (by decide) (by decide) (by decide) (by decide) (by decide) (by decide) (by decide) (by decide) (by decide) (by decide)
            have e19 : C' 19 = C 19 := funext fun i => cs 19 i (by decide) (by decide) (by decide) (by decide) (by decide) (by decide) (by decide) (by decide) (by decide) (by decide) (by decide)
            have e20 : C' 20 = C 20 := funext fun i => cs 20 i (by decide) (by decide) (by decide) (by decide) (by decide) (by decide) (by decide) (by decide) (by decide) (by decide) (by decide)
            rw [e14] at k3
            rw [e19, e20]
            by_cases zc : c = C 8 0
            · exfalso
              have := (y5 (C 8 0) (by omega) (by omega)).2.2.2.1
              rw [zc] at k3
              omega
            · rcases hL c k k0 (by omega) k2 k3 with ⟨a, b⟩ | a
              · exact Or.inl ⟨a, b.imp id fun q => vT_mono q (by omega)⟩
              · exact Or.inr a
          · intro k i hk; exact rs k i (by omega) (by omega) (by omega) (by omega) (by omega) (by omega) (by omega) (by omega)
          · intro i i0 i1 i2
            rw [n0 i i1, g0, rA]
            simp [i0, i2]
          · intro i; exact rs 6 i (by decide) (by decide) (by decide) (by decide) (by decide) (by decide) (by decide) (by decide)
    · -- no name
      refine ⟨by simp, ?_⟩
      refine R_type_ok (by rw [← y1]; exact hu) (by omega) (by omega) (by omega) (by omega) (by omega) (by omega) (fun v' h' _ => ⟨by rw [ux_s]; rfl, RA_sc2 h hf⟩) (fun v' h' z' _ => absurd ((hnm v' h').2.mp zv) z') (fun v' h' z' _ _ => absurd ((hnm v' h').2.mp zv) z')
  unfold w_X11_type
  refine ⟨fun z => H16 (Or.inl z), fun z => p_isClass (fun c0 c1 _ => ⟨fun q => by omega, fun _ => H16 (Or.inr ⟨c0, c1⟩)⟩) (fun c0 _ => ⟨fun _ => hbad (Or.inl ⟨z, c0⟩), fun q => absurd rfl q⟩)⟩
theorem u_field {C R : MM} {c kd lk st : Int} (glk : ri_ lk) (hst : st = 0 ∨ st = 1) (h : RA C R) : w_X11_field (fun r C' => w_X12_field (fun r' R' => R' 0 0 = 0 ∧ r = r' ∧ RA C' R' ∧ FC2 C C' ∧ FR2 R R' ∧ (Rst C R → Rst C' R') ∧ C' 7 = C 7 ∧ R' 3 = R 3) c kd lk st R) (fun E C' => E ∈ (["java/lang/IndexOutOfBoundsException", "java/lang/IllegalArgumentException", "java/lang/IllegalStateException"] : List String) ∧ w_X12_field (fun r' R' => R' 0 0 = xT E ∧ RA C' R' ∧ FC2 C C' ∧ FR2 R R' ∧ (Rst C R → Rst C' R') ∧ C' 7 = C 7 ∧ R' 3 = R 3) c kd lk st R) c kd lk st C := by
  obtain ⟨hT, b1, b2, hK, hY⟩ := id h
  obtain ⟨y1, y2, y3, y4, y5, y6⟩ := id hY
  obtain ⟨t1, t2, t3, t4, t5⟩ := id hT
  have hown : ∀ d, 0 ≤ d → d < R 0 20 → 0 ≤ R 9 d ∧ R 9 d ≤ 6 := fun d d0 d1 => by
    obtain ⟨⟨-, -, -, -, -, -, -, a8, a9, a10, -⟩, -⟩ := y4 d d0 (by omega)
    omega
  unfold w_X11_field
  refine p_isClass (fun c0 c1 _ => ⟨fun _ => ?_, fun q => by omega⟩) (fun c0 _ => ⟨fun q => absurd rfl q, fun _ => ?_⟩)
  · -- a class
    obtain ⟨⟨a1, a2, a3, a4, a5, a6, a7, a8, a9, a10, a11, a12, a13⟩, ⟨l1, l2, l3, l4⟩, sC, fl⟩ := y4 c c0 c1
    refine p_wholeName (okT_of hT) fun C1 v hf hv _ => ?_
    have hnm : ∀ v', nmR R v' → nr v v' ∧ (v = 0 ↔ v' = 0) := fun v' h' => nm_rel hT b1 hK hv h'
    have hB : ∀ v', nmR R v' → ((v = 0 ∨ kd < 0 ∨ 5 < kd ∨ (kd = 5 ∧ ¬ (lk = -1 ∨ vT (C 8 0) lk))) ↔ fdB R kd lk v') := fun v' h' => by
      unfold fdB
      rw [(hnm v' h').2, y1]
    have hH : ∀ v', nmR R v' → ((¬ C 12 c = 0 ∨ C 14 c = 6 ∨ ∃ j, 0 ≤ j ∧ j < C 14 c ∧ C 18 (6 * c + j) = v) ↔ fdH R c v' (R 9 c)) := fun v' h' => by
      unfold fdH
      rw [a6, a8]
      constructor
      · rintro (q | q | ⟨j, j0, j1, j2⟩)
        · exact Or.inl q
        · exact Or.inr (Or.inl q)
        · exact Or.inr (Or.inr ⟨j, j0, j1, (nr_eq (fl j j0 (by omega)).1 (hnm v' h').1).mp j2⟩)
      · rintro (q | q | ⟨j, j0, j1, j2⟩)
        · exact Or.inl q
        · exact Or.inr (Or.inl q)
        · exact Or.inr (Or.inr ⟨j, j0, j1, (nr_eq (fl j j0 (by omega)).1 (hnm v' h').1).mpr j2⟩)
    have h65 : (v = 0 ∨ kd < 0 ∨ 5 < kd ∨ (kd = 5 ∧ ¬ (lk = -1 ∨ vT (C 8 0) lk))) → w_X11_field_b65 (fun r C' => w_X12_field (fun r' R' => R' 0 0 = 0 ∧ r = r' ∧ RA C' R' ∧ FC2 C C' ∧ FR2 R R' ∧ (Rst C R → Rst C' R') ∧ C' 7 = C 7 ∧ R' 3 = R 3) c kd lk st R) (fun E C' => E ∈ (["java/lang/IndexOutOfBoundsException", "java/lang/IllegalArgumentException", "java/lang/IllegalStateException"] : List String) ∧ w_X12_field (fun r' R' => R' 0 0 = xT E ∧ RA C' R' ∧ FC2 C C' ∧ FR2 R R' ∧ (Rst C R → Rst C' R') ∧ C' 7 = C 7 ∧ R' 3 = R 3) c kd lk st R) C1 := by
      intro hb
      unfold w_X11_field_b65
      refine ⟨by simp, ?_⟩
      refine R_field glk hst (by omega) (by omega) (by omega) (by omega) hown (fun q => absurd ⟨c0, by omega⟩ q) (fun v' h' _ _ _ => ⟨by rw [ux_s]; rfl, sc_F22 h hf⟩) (fun v' h' _ _ q => absurd ((hB v' h').mp hb) q) (fun v' h' _ _ q => absurd ((hB v' h').mp hb) q)
    have h112 : ¬ (v = 0 ∨ kd < 0 ∨ 5 < kd ∨ (kd = 5 ∧ ¬ (lk = -1 ∨ vT (C 8 0) lk))) → (¬ C 12 c = 0 ∨ C 14 c = 6 ∨ ∃ j, 0 ≤ j ∧ j < C 14 c ∧ C 18 (6 * c + j) = v) → w_X11_field_b112 (fun r C' => w_X12_field (fun r' R' => R' 0 0 = 0 ∧ r = r' ∧ RA C' R' ∧ FC2 C C' ∧ FR2 R R' ∧ (Rst C R → Rst C' R') ∧ C' 7 = C 7 ∧ R' 3 = R 3) c kd lk st R) (fun E C' => E ∈ (["java/lang/IndexOutOfBoundsException", "java/lang/IllegalArgumentException", "java/lang/IllegalStateException"] : List String) ∧ w_X12_field (fun r' R' => R' 0 0 = xT E ∧ RA C' R' ∧ FC2 C C' ∧ FR2 R R' ∧ (Rst C R → Rst C' R') ∧ C' 7 = C 7 ∧ R' 3 = R 3) c kd lk st R) C1 := by
      intro hg hh
      unfold w_X11_field_b112
      refine ⟨by simp, ?_⟩
      refine R_field glk hst (by omega) (by omega) (by omega) (by omega) hown (fun q => absurd ⟨c0, by omega⟩ q) (fun v' h' _ _ q => absurd ((hB v' h').mpr q) hg) (fun v' h' _ _ _ _ => ⟨by rw [ux_s]; rfl, sc_F22 h hf⟩) (fun v' h' _ _ _ q => absurd ((hH v' h').mp hh) q)
    have q12 : C1 12 c = C 12 c := hf 12 c (by omega)
    have q14 : C1 14 c = C 14 c := hf 14 c (by omega)
    have q18 : ∀ i, C1 18 i = C 18 i := fun i => hf 18 i (by omega)
    have h73 : ¬ (v = 0 ∨ kd < 0 ∨ 5 < kd ∨ (kd = 5 ∧ ¬ (lk = -1 ∨ vT (C 8 0) lk))) → w_X11_field_b73 (fun r C' => w_X12_field (fun r' R' => R' 0 0 = 0 ∧ r = r' ∧ RA C' R' ∧ FC2 C C' ∧ FR2 R R' ∧ (Rst C R → Rst C' R') ∧ C' 7 = C 7 ∧ R' 3 = R 3) c kd lk st R) (fun E C' => E ∈ (["java/lang/IndexOutOfBoundsException", "java/lang/IllegalArgumentException", "java/lang/IllegalStateException"] : List String) ∧ w_X12_field (fun r' R' => R' 0 0 = xT E ∧ RA C' R' ∧ FC2 C C' ∧ FR2 R R' ∧ (Rst C R → Rst C' R') ∧ C' 7 = C 7 ∧ R' 3 = R 3) c kd lk st R) c kd lk st v C1 := by
      intro hg
      unfold w_X11_field_b73
      refine ⟨c0, by omega, fun v1 e1 g1 => ?_⟩
      rw [q12] at e1
      subst e1
      refine ⟨fun z => h112 hg (Or.inl z), fun z => ⟨c0, by omega, fun v3 e3 g3 => ?_⟩⟩
      rw [q14] at e3
      subst e3
      refine ⟨fun z3 => h112 hg (Or.inr (Or.inl z3)), fun z3 => ?_⟩
      refine p_hasField c0 (by omega) (by omega) (by omega) (fun k k0 k1 k2 _ => ⟨fun q => by omega, fun _ => h112 hg (Or.inr (Or.inr ⟨k, k0, by omega, by rw [← q18]; exact k2⟩))⟩) (fun hno _ => ⟨fun _ M8 e8 => ?_, fun q => absurd rfl q⟩)
      have hno' : ∀ j, 0 ≤ j → j < C 14 c → C 18 (6 * c + j) ≠ v := fun j j0 j1 q => hno j j0 (by omega) (by rw [q18]; exact q)
      have m : ∀ k i, k ≠ 1 → M8 k i = C k i := fun k i hk => by rw [e8, ux_c _ _ _ _ hk]; exact hf k i (by omega)
      have mf : ∀ k, k ≠ 1 → M8 k = C k := fun k hk => funext fun i => m k i hk
      have m11 : M8 1 1 = 0 := by rw [e8, ux_s]
      have hkd0 : 0 ≤ kd ∧ kd ≤ 5 := by omega
      have hbdc := ty_bd hY c c0 c1
      have hns := ns_bd (C 21) (6 * c) (C 14 c).toNat
      have hen : 0 ≤ enC C c ∧ enC C c ≤ 8000 := by
        unfold enC
        by_cases z9 : C 11 c = -1
        · rw [if_pos z9]; omega
        · rw [if_neg z9]
          have := ty_bd hY (C 11 c) (by omega) (by omega)
          omega
      have hbs : 0 ≤ bsC C c ∧ bsC C c ≤ 200 := by
        unfold bsC
        by_cases z9 : C 11 c = -1
        · rw [if_pos z9]; omega
        · rw [if_neg z9]
          have := ty_bd hY (C 11 c) (by omega) (by omega)
          omega
      have hbs90 : bsC C c ≤ 90 := by
        unfold bsC
        by_cases z9 : C 11 c = -1
        · rw [if_pos z9]; omega
        · rw [if_neg z9]
          have := ty_bd hY (C 11 c) (by omega) (by omega)
          omega
      have key : w_X11_field_b146 (fun r C' => w_X12_field (fun r' R' => R' 0 0 = 0 ∧ r = r' ∧ RA C' R' ∧ FC2 C C' ∧ FR2 R R' ∧ (Rst C R → Rst C' R') ∧ C' 7 = C 7 ∧ R' 3 = R 3) c kd lk st R) (fun E C' => E ∈ (["java/lang/IndexOutOfBoundsException", "java/lang/IllegalArgumentException", "java/lang/IllegalStateException"] : List String) ∧ w_X12_field (fun r' R' => R' 0 0 = xT E ∧ RA C' R' ∧ FC2 C C' ∧ FR2 R R' ∧ (Rst C R → Rst C' R') ∧ C' 7 = C 7 ∧ R' 3 = R 3) c kd lk st R) c kd st (if kd = 5 then lk else -1) kd v c M8 := by
        unfold w_X11_field_b146
        have hfin : ∀ C2, (∀ k i, (k ≠ 17 ∨ i ≠ c) → C2 k i = aF M8 c v kd (if kd = 5 then lk else -1) st k i) → (C2 17 c = lb (C2 21) (C2 19) (6 * c) (enC C c) (C 14 c + 1).toNat 0) → ri_ (C 14 c) → ri_ (c * 6) ∧ (ri_ ((c * 6) + C 14 c) ∧ (w_X10_firstValue (fun r5 M6 => rl_ r5 → 0 ≤ ((c * 6) + C 14 c) ∧ ((c * 6) + C 14 c) < 96 ∧ (∀ M7, M7 = ux_ M6 32 ((c * 6) + C 14 c) r5 → w_X12_field (fun r' R' => R' 0 0 = 0 ∧ C 14 c = r' ∧ RA M7 R' ∧ FC2 C M7 ∧ FR2 R R' ∧ (Rst C R → Rst M7 R') ∧ M7 7 = C 7 ∧ R' 3 = R 3) c kd lk st R)) kd C2)) := by
          intro C2 g g17 _
          have fst : ∀ r5, r5 = (if kd = 5 then -1 else 0) → ∀ M7, M7 = ux_ C2 32 (c * 6 + C 14 c) r5 → w_X12_field (fun r' R' => R' 0 0 = 0 ∧ C 14 c = r' ∧ RA M7 R' ∧ FC2 C M7 ∧ FR2 R R' ∧ (Rst C R → Rst M7 R') ∧ M7 7 = C 7 ∧ R' 3 = R 3) c kd lk st R := by
            intro r5 hr5 M7 e7
            rw [show c * 6 + C 14 c = 6 * c + C 14 c from by omega] at e7
            have n7 : ∀ k, k ≠ 32 → M7 k = C2 k := fun k hk => funext fun i => by rw [e7, ux_c _ _ _ _ hk]
            have gO : ∀ k, k ≠ 14 → k ≠ 15 → k ≠ 16 → k ≠ 17 → k ≠ 18 → k ≠ 19 → k ≠ 20 → k ≠ 21 → k ≠ 22 → k ≠ 23 → k ≠ 24 → k ≠ 25 → C2 k = M8 k := by
              intro k z1 z2 z3 z4 z5 z6 z7 z8 z9 z10 z11 z12
              funext i
              rw [g k i (Or.inl z4)]
              unfold aF
              rw [if_neg (by omega), if_neg (by omega), if_neg (by omega), if_neg (by omega), if_neg (by omega), if_neg (by omega), if_neg (by omega), if_neg (by omega), if_neg (by omega), if_neg (by omega), if_neg (by omega)]
            have cO : ∀ k, k ≠ 1 → k ≠ 32 → k ≠ 14 → k ≠ 15 → k ≠ 16 → k ≠ 17 → k ≠ 18 → k ≠ 19 → k ≠ 20 → k ≠ 21 → k ≠ 22 → k ≠ 23 → k ≠ 24 → k ≠ 25 → M7 k = C k := fun k w1 w2 z1 z2 z3 z4 z5 z6 z7 z8 z9 z10 z11 z12 => by rw [n7 k w2, gO k z1 z2 z3 z4 z5 z6 z7 z8 z9 z10 z11 z12, mf k w1]
            have p14 : ∀ i, M7 14 i = if i = c then C 14 c + 1 else C 14 i := fun i => by rw [n7 14 (by decide), g 14 i (by omega)]; simp [aF]; rw [mf 14 (by decide)]
            have p15 : ∀ i, M7 15 i = if i = c ∧ st ≠ 0 then C 15 c + 1 else C 15 i := fun i => by rw [n7 15 (by decide), g 15 i (by omega)]; simp [aF]; rw [mf 15 (by decide)]
            have p16 : ∀ i, M7 16 i = if i = c ∧ st = 0 then C 16 c + 1 else C 16 i := fun i => by rw [n7 16 (by decide), g 16 i (by omega)]; simp [aF]; rw [mf 16 (by decide)]
            have p18 : ∀ i, M7 18 i = if i = 6 * c + C 14 c then v else C 18 i := fun i => by rw [n7 18 (by decide), g 18 i (by omega)]; simp [aF]; rw [mf 14 (by decide), mf 18 (by decide)]
            have p19 : ∀ i, M7 19 i = if i = 6 * c + C 14 c then kd else C 19 i := fun i => by rw [n7 19 (by decide), g 19 i (by omega)]; simp [aF]; rw [mf 14 (by decide), mf 19 (by decide)]
            have p20 : ∀ i, M7 20 i = if i = 6 * c + C 14 c then (if kd = 5 then lk else -1) else C 20 i := fun i => by rw [n7 20 (by decide), g 20 i (by omega)]; simp [aF]; rw [mf 14 (by decide), mf 20 (by decide)]
            have p21 : ∀ i, M7 21 i = if i = 6 * c + C 14 c then st else C 21 i := fun i => by rw [n7 21 (by decide), g 21 i (by omega)]; simp [aF]; rw [mf 14 (by decide), mf 21 (by decide)]
            have p22 : ∀ i, M7 22 i = if i = 6 * c + C 14 c then (if st = 0 then C 16 c else C 15 c) else C 22 i := fun i => by rw [n7 22 (by decide), g 22 i (by omega)]; simp [aF]; rw [mf 14 (by decide), mf 22 (by decide), mf 16 (by decide), mf 15 (by decide)]
            have p23 : ∀ i, M7 23 i = if st = 0 ∧ i = 96 * c + C 16 c then v else C 23 i := fun i => by rw [n7 23 (by decide), g 23 i (by omega)]; simp [aF]; rw [mf 16 (by decide), mf 23 (by decide)]
            have p24 : ∀ i, M7 24 i = if st = 0 ∧ i = 96 * c + C 16 c then kd else C 24 i := fun i => by rw [n7 24 (by decide), g 24 i (by omega)]; simp [aF]; rw [mf 16 (by decide), mf 24 (by decide)]
            have p25 : ∀ i, M7 25 i = if st = 0 ∧ i = 96 * c + C 16 c then (if kd = 5 then lk else -1) else C 25 i := fun i => by rw [n7 25 (by decide), g 25 i (by omega)]; simp [aF]; rw [mf 16 (by decide), mf 25 (by decide)]
            have p17 : ∀ i, M7 17 i = if i = c then lb (M7 21) (M7 19) (6 * c) (enC C c) (C 14 c + 1).toNat 0 else C 17 i := fun i => by
              by_cases zi : i = c
              · rw [if_pos zi, zi, n7 17 (by decide), n7 21 (by decide), n7 19 (by decide)]; exact g17
              · rw [if_neg zi, n7 17 (by decide), g 17 i (Or.inr zi)]; simp [aF]; rw [mf 17 (by decide)]
            refine R_field glk hst (by omega) (by omega) (by omega) (by omega) hown (fun q => absurd ⟨c0, by omega⟩ q) (fun v' h' _ _ q => absurd ((hB v' h').mpr q) hg) (fun v' h' _ _ _ q => ?_) (fun v' h' _ _ _ _ => ?_)
            · exfalso
              rcases (hH v' h').mpr q with q | q | ⟨j, j0, j1, j2⟩
              · exact q z
              · exact z3 q
              · exact hno' j j0 j1 j2
            have rO : ∀ k, k ≠ 0 → k ≠ 9 → k ≠ 5 → k ≠ 12 → k ≠ 13 → k ≠ 17 → k ≠ 6 → rF R c v' kd lk st k = R k := by
              intro k z1 z2 z3 z4 z5 z6 z7
              funext i
              unfold rF
              rw [if_neg (by omega), if_neg (by omega), if_neg (by omega), if_neg (by omega), if_neg (by omega), if_neg (by omega), if_neg (by omega)]
            have r9 : ∀ i, rF R c v' kd lk st 9 i = if i = c then C 14 c + 1 else R 9 i := fun i => by rw [a8]; simp [rF]
            have r5' : ∀ i, rF R c v' kd lk st 5 i = if i = 6 * c + C 14 c then v' else R 5 i := fun i => by rw [a8]; simp [rF]
            have r12 : ∀ i, rF R c v' kd lk st 12 i = if i = 6 * c + C 14 c then kd else R 12 i := fun i => by rw [a8]; simp [rF]
            have r13 : ∀ i, rF R c v' kd lk st 13 i = if i = 6 * c + C 14 c then (if kd = 5 then lk else -1) else R 13 i := fun i => by rw [a8]; simp [rF]
            have r17 : ∀ i, rF R c v' kd lk st 17 i = if i = 6 * c + C 14 c then st else R 17 i := fun i => by rw [a8]; simp [rF]
            have r6 : ∀ i, rF R c v' kd lk st 6 i = if i = 6 * c + C 14 c then (if kd = 5 then -1 else 0) else R 6 i := fun i => by rw [a8]; simp [rF]
            have hn1 : (((C 14 c + 1).toNat : Nat) : Int) = C 14 c + 1 := by omega
            have rst : ∀ j : Nat, j < (C 14 c + 1).toNat → rF R c v' kd lk st 17 (6 * c + j) = M7 21 (6 * c + j) ∧ rF R c v' kd lk st 12 (6 * c + j) = M7 19 (6 * c + j) := fun j j1 => by
              rw [r17, r12, p21, p19]
              by_cases zj : (j : Int) = C 14 c
              · rw [if_pos (by omega), if_pos (by omega), if_pos (by omega), if_pos (by omega)]; exact ⟨rfl, rfl⟩
              · rw [if_neg (by omega), if_neg (by omega), if_neg (by omega), if_neg (by omega)]
                have := fl j (by omega) (by omega)
                exact ⟨this.2.2.2.2.2.1.symm, this.2.1.symm⟩
            have hpR : R 8 c = C 11 c := a3.symm
            have hcl : C 11 c ≠ -1 → R 10 (C 11 c) = C 16 (C 11 c) ∧ R 11 (C 11 c) = C 17 (C 11 c) := fun zz => by
              obtain ⟨⟨-, -, -, -, -, -, -, -, -, -, x11, x12, -⟩, -⟩ := y4 (C 11 c) (by omega) (by omega)
              exact ⟨x11.symm, x12.symm⟩
            refine p_R_layOut (n := (C 14 c + 1).toNat) (base := bsC C c) (e := enC C c) c0 (by omega) (by omega) (by rw [r9, if_pos rfl, hn1]) ?_ (by rw [rO 8 (by decide) (by decide) (by decide) (by decide) (by decide) (by decide) (by decide), hpR]; omega) (by rw [rO 8 (by decide) (by decide) (by decide) (by decide) (by decide) (by decide) (by decide), hpR]; omega) ?_ (by rw [rO 8 (by decide) (by decide) (by decide) (by decide) (by decide) (by decide) (by decide), hpR]; omega) ?_ hbs.1 hbs.2 hen.1 hen.2 (fun M' g1 g2 g3 g4 g5 g6 M3 e3 => ?_)
            · intro j j1
              rw [(rst j j1).2, p19]
              by_cases zj : 6 * c + (j : Int) = 6 * c + C 14 c
              · rw [if_pos zj]; exact hkd0
              · rw [if_neg zj]
                have := fl j (by omega) (by omega)
                exact ⟨this.2.2.1, this.2.2.2.1⟩
            · rw [rO 8 (by decide) (by decide) (by decide) (by decide) (by decide) (by decide) (by decide), rO 10 (by decide) (by decide) (by decide) (by decide) (by decide) (by decide) (by decide), hpR]
              unfold bsC
              by_cases zz : C 11 c = -1
              · rw [if_pos zz, if_pos zz]
              · rw [if_neg zz, if_neg zz, (hcl zz).1]
            · rw [rO 8 (by decide) (by decide) (by decide) (by decide) (by decide) (by decide) (by decide), rO 11 (by decide) (by decide) (by decide) (by decide) (by decide) (by decide) (by decide), hpR]
              unfold enC
              by_cases zz : C 11 c = -1
              · rw [if_pos zz, if_pos zz]
              · rw [if_neg zz, if_neg zz, (hcl zz).2]
            have nM : ∀ k, k ≠ 0 → M3 k = M' k := fun k hk => funext fun i => by rw [e3, ux_c _ _ _ _ hk]
            have nM0 : ∀ i, i ≠ 3 → M3 0 i = M' 0 i := fun i hi => by rw [e3, ux_i _ _ _ hi]
            have gM : ∀ k, k ≠ 10 → k ≠ 11 → k ≠ 14 → k ≠ 15 → M' k = rF R c v' kd lk st k := fun k z1 z2 z3 z4 => funext fun i => g1 k i z1 z2 z3 z4
            have q0 : ∀ i, i ≠ 3 → M3 0 i = if i = 0 then 0 else R 0 i := fun i hi => by rw [nM0 i hi, gM 0 (by decide) (by decide) (by decide) (by decide)]; simp [rF]
            have qO : ∀ k, k ≠ 0 → k ≠ 9 → k ≠ 5 → k ≠ 12 → k ≠ 13 → k ≠ 17 → k ≠ 6 → k ≠ 10 → k ≠ 11 → k ≠ 14 → k ≠ 15 → M3 k = R k := fun k z1 z2 z3 z4 z5 z6 z7 z8 z9 z10 z11 => by rw [nM k z1, gM k z8 z9 z10 z11, rO k z1 z2 z3 z4 z5 z6 z7]
            have r9' : M3 9 c = C 14 c + 1 := by rw [nM 9 (by decide), gM 9 (by decide) (by decide) (by decide) (by decide), r9, if_pos rfl]
            refine ⟨c0, by omega, fun v5 e5 g5' => ?_⟩
            rw [r9'] at e5
            subst e5
            refine ⟨by unfold ri_; omega, ?_, by omega, ?_, ⟨?_, ?_, ?_, ?_, ?_⟩, ⟨?_, ?_⟩, ?_, cO 7 (by decide) (by decide) (by decide) (by decide) (by decide) (by decide) (by decide) (by decide) (by decide) (by decide) (by decide) (by decide) (by decide) (by decide), qO 3 (by decide) (by decide) (by decide) (by decide) (by decide) (by decide) (by decide) (by decide) (by decide) (by decide) (by decide)⟩
            · rw [q0 0 (by decide), if_pos rfl]
            · refine ⟨⟨?_, ?_, ?_, ?_, ?_⟩, ?_, ?_, ?_, ?_⟩
              · rw [n7 1 (by decide), gO 1 (by decide) (by decide) (by decide) (by decide) (by decide) (by decide) (by decide) (by decide) (by decide) (by decide) (by decide) (by decide), m11, e3, ux_s]
              · rw [n7 1 (by decide), gO 1 (by decide) (by decide) (by decide) (by decide) (by decide) (by decide) (by decide) (by decide) (by decide) (by decide) (by decide) (by decide), m11]; omega
              · rw [n7 1 (by decide), gO 1 (by decide) (by decide) (by decide) (by decide) (by decide) (by decide) (by decide) (by decide) (by decide) (by decide) (by decide) (by decide), m11]; omega
              · intro i i0 i1
                rw [n7 1 (by decide), gO 1 (by decide) (by decide) (by decide) (by decide) (by decide) (by decide) (by decide) (by decide) (by decide) (by decide) (by decide) (by decide), m11] at i1
                omega
              · intro i i0 i1
                rw [cO 3 (by decide) (by decide) (by decide) (by decide) (by decide) (by decide) (by decide) (by decide) (by decide) (by decide) (by decide) (by decide) (by decide) (by decide), qO 2 (by decide) (by decide) (by decide) (by decide) (by decide) (by decide) (by decide) (by decide) (by decide) (by decide) (by decide)]
                exact t5 i i0 i1
              · intro i; rw [qO 1 (by decide) (by decide) (by decide) (by decide) (by decide) (by decide) (by decide) (by decide) (by decide) (by decide) (by decide)]; exact b1 i
              · intro i; rw [qO 2 (by decide) (by decide) (by decide) (by decide) (by decide) (by decide) (by decide) (by decide) (by decide) (by decide) (by decide)]; exact b2 i
              · intro k k0 k1
                rw [cO 7 (by decide) (by decide) (by decide) (by decide) (by decide) (by decide) (by decide) (by decide) (by decide) (by decide) (by decide) (by decide) (by decide) (by decide), qO 3 (by decide) (by decide) (by decide) (by decide) (by decide) (by decide) (by decide) (by decide) (by decide) (by decide) (by decide)]
                exact hK k k0 k1
              · refine ty_field hY c0 c1 z (by omega) (hnm v' h').1 hkd0.1 hkd0.2 hst (fun k k0 k1 => cO k (by omega) (by omega) (by omega) (by omega) (by omega) (by omega) (by omega) (by omega) (by omega) (by omega) (by omega) (by omega) (by omega) (by omega)) p14 p15 p16 p17 p18 p19 p20 p21 p22 p23 p24 p25 (fun k hk => qO k (by omega) (by omega) (by omega) (by omega) (by omega) (by omega) (by omega) (by omega) (by omega) (by omega) (by omega)) (by rw [q0 20 (by decide), if_neg (by decide)]) (fun i => by rw [nM 9 (by decide), gM 9 (by decide) (by decide) (by decide) (by decide), r9]) (fun i => by rw [nM 5 (by decide), gM 5 (by decide) (by decide) (by decide) (by decide), r5']) (fun i => by rw [nM 12 (by decide), gM 12 (by decide) (by decide) (by decide) (by decide), r12]) (fun i => by rw [nM 13 (by decide), gM 13 (by decide) (by decide) (by decide) (by decide), r13]) (fun i => by rw [nM 17 (by decide), gM 17 (by decide) (by decide) (by decide) (by decide), r17]) ?_ ?_ ?_ ?_ ?_
                · intro i hi
                  rw [nM 10 (by decide), nM 11 (by decide), (g2 i hi).1, (g2 i hi).2, rO 10 (by decide) (by decide) (by decide) (by decide) (by decide) (by decide) (by decide), rO 11 (by decide) (by decide) (by decide) (by decide) (by decide) (by decide) (by decide)]
                  exact ⟨rfl, rfl⟩
                · rw [nM 10 (by decide), g4, ns_cong _ fun j j1 => (rst j j1).1]
                · rw [nM 11 (by decide), g5, lb_cong _ _ fun j j1 => rst j j1]
                · intro i hi
                  have := g3 i (by omega)
                  rw [nM 14 (by decide), nM 15 (by decide), this.1, this.2, rO 14 (by decide) (by decide) (by decide) (by decide) (by decide) (by decide) (by decide), rO 15 (by decide) (by decide) (by decide) (by decide) (by decide) (by decide) (by decide)]
                  exact ⟨rfl, rfl⟩
                · intro j j1
                  have := g6 j (by omega)
                  rw [nM 14 (by decide), nM 15 (by decide), this.1, sl_cong j fun i i1 => (rst i (by omega)).1]
                  refine ⟨rfl, fun qz => ?_⟩
                  rw [this.2 (by rw [(rst j (by omega)).1]; exact qz), lp_cong _ j (by omega) fun j j1 => rst j j1]
            · intro k i k0 k1
              rw [cO k (by omega) k1 (by omega) (by omega) (by omega) (by omega) (by omega) (by omega) (by omega) (by omega) (by omega) (by omega) (by omega) (by omega)]
            · intro i
              rw [cO 0 (by decide) (by decide) (by decide) (by decide) (by decide) (by decide) (by decide) (by decide) (by decide) (by decide) (by decide) (by decide) (by decide) (by decide)]
            · have x8 : M7 8 0 = C 8 0 := by rw [cO 8 (by decide) (by decide) (by decide) (by decide) (by decide) (by decide) (by decide) (by decide) (by decide) (by decide) (by decide) (by decide) (by decide) (by decide)]
              refine ⟨by omega, fun d d0 d1 => ⟨?_, ?_, fun uu => ?_, fun k k0 k1 => ⟨?_, fun q q0' q1' => ?_⟩⟩⟩
              · rw [cO 9 (by decide) (by decide) (by decide) (by decide) (by decide) (by decide) (by decide) (by decide) (by decide) (by decide) (by decide) (by decide) (by decide) (by decide)]
              · rw [cO 11 (by decide) (by decide) (by decide) (by decide) (by decide) (by decide) (by decide) (by decide) (by decide) (by decide) (by decide) (by decide) (by decide) (by decide)]
              · have hdc : d ≠ c := fun q => by rw [q, z] at uu; omega
                have hbd2 := ty_bd hY d d0 d1
                refine ⟨?_, by rw [p16, if_neg (fun q => hdc q.1)], by rw [p17, if_neg hdc], fun k j hk j0 j1 => ?_⟩
                · rw [cO 12 (by decide) (by decide) (by decide) (by decide) (by decide) (by decide) (by decide) (by decide) (by decide) (by decide) (by decide) (by decide) (by decide) (by decide)]; exact uu
                · rcases hk with rfl | rfl | rfl
                  · rw [p23, if_neg (by omega)]
                  · rw [p24, if_neg (by omega)]
                  · rw [p25, if_neg (by omega)]
              · rw [p14]
                by_cases zd : d = c
                · rw [if_pos zd]; rw [zd] at k1; omega
                · rw [if_neg zd]; exact k1
              · have hr : 6 * d + k ≠ 6 * c + C 14 c := by
                  intro qq
                  have := (y4 d d0 d1).1.2.2.2.2.2.2.2.2.2.1
                  have e : d = c := by omega
                  subst e; omega
                have : q = 18 ∨ q = 19 ∨ q = 20 ∨ q = 21 ∨ q = 22 := by omega
                rcases this with rfl | rfl | rfl | rfl | rfl
                · rw [p18, if_neg hr]
                · rw [p19, if_neg hr]
                · rw [p20, if_neg hr]
                · rw [p21, if_neg hr]
                · rw [p22, if_neg hr]
            · intro hL d k d0 d1 k0 k1
              rw [cO 8 (by decide) (by decide) (by decide) (by decide) (by decide) (by decide) (by decide) (by decide) (by decide) (by decide) (by decide) (by decide) (by decide) (by decide)] at d1 ⊢
              rw [p14] at k1
              rw [p19, p20]
              by_cases zz : 6 * d + k = 6 * c + C 14 c
              · rw [if_pos zz, if_pos zz]
                by_cases z5 : kd = 5
                · rw [if_pos z5]
                  refine Or.inl ⟨z5, ?_⟩
                  by_cases zl : lk = -1 ∨ vT (C 8 0) lk
                  · exact zl
                  · exact absurd (Or.inr (Or.inr (Or.inr ⟨z5, zl⟩))) hg
                · rw [if_neg z5]; exact Or.inr ⟨z5, rfl⟩
              · rw [if_neg zz, if_neg zz]
                refine hL d k d0 d1 k0 ?_
                by_cases zd : d = c
                · rw [if_pos zd] at k1; rw [zd]; rw [zd] at zz; omega
                · rw [if_neg zd] at k1; exact k1
            · intro d k d0 d1 k0 k1
              rw [cO 8 (by decide) (by decide) (by decide) (by decide) (by decide) (by decide) (by decide) (by decide) (by decide) (by decide) (by decide) (by decide) (by decide) (by decide)] at d1
              rw [p14] at k1
              by_cases zz : 6 * d + k = 6 * c + C 14 c
              · refine Or.inr fun q5 => ?_
                rw [p19, if_pos zz] at q5
                rw [e7, zz, ux_s, hr5, if_pos q5]
              · refine Or.inl ⟨d1, ?_, ?_⟩
                · by_cases zd : d = c
                  · rw [if_pos zd] at k1; rw [zd]; rw [zd] at zz; omega
                  · rw [if_neg zd] at k1; exact k1
                · rw [e7, ux_i _ _ _ zz, gO 32 (by decide) (by decide) (by decide) (by decide) (by decide) (by decide) (by decide) (by decide) (by decide) (by decide) (by decide) (by decide), mf 32 (by decide)]
            · intro k i hk
              rw [qO k (by omega) (by omega) (by omega) (by omega) (by omega) (by omega) (by omega) (by omega) (by omega) (by omega) (by omega)]
            · intro i i0 i1 i2
              rw [q0 i i1, if_neg i0]
            · intro hs f f0 f1
              rw [nM 6 (by decide), gM 6 (by decide) (by decide) (by decide) (by decide), r6, e7]
              by_cases zf : f = 6 * c + C 14 c
              · rw [if_pos zf, zf, ux_s, hr5]
              · rw [if_neg zf, ux_i _ _ _ zf, gO 32 (by decide) (by decide) (by decide) (by decide) (by decide) (by decide) (by decide) (by decide) (by decide) (by decide) (by decide) (by decide), mf 32 (by decide)]
                exact hs f f0 f1
          refine ⟨by unfold ri_; omega, by unfold ri_; omega, ?_⟩
          unfold w_X10_firstValue
          exact ⟨fun z5 _ => ⟨by omega, by omega, fun M7 e7 => fst 0 (by rw [if_neg z5]) M7 e7⟩, fun z5 _ => ⟨by omega, by omega, fun M7 e7 => fst (-1) (by rw [if_pos z5]) M7 e7⟩⟩
        have m14 : M8 14 c = C 14 c := m 14 c (by decide)
        have men : enC M8 c = enC C c := by unfold enC; rw [mf 11 (by decide), mf 17 (by decide)]
        refine ⟨hst, p_addField c0 (by omega) (by omega) (by omega) (by rw [mf 16 (by decide)]; omega) (by rw [mf 16 (by decide)]; omega) (by rw [mf 15 (by decide)]; omega) (by rw [mf 15 (by decide)]; omega) hkd0.1 hkd0.2 ?_ (by rw [mf 11 (by decide)]; omega) (by rw [mf 11 (by decide)]; omega) (by rw [men]; exact hen.1) (by rw [men]; exact hen.2) ?_ ?_⟩
        · intro j j1
          rw [mf 19 (by decide)]
          have := fl j (by omega) (by omega)
          exact ⟨this.2.2.1, this.2.2.2.1⟩
        · intro zs
          rw [m14]
          refine hfin _ (fun _ _ _ => rfl) ?_
          have e17 : aF M8 c v kd (if kd = 5 then lk else -1) st 17 c = C 17 c := by simp [aF]; rw [mf 17 (by decide)]
          have hnn : (C 14 c + 1).toNat = (C 14 c).toNat + 1 := by omega
          rw [e17, l3, hnn, lb_st (by
            rw [show (((C 14 c).toNat : Nat) : Int) = C 14 c from by omega]
            simp [aF, m14]; exact zs)]
          refine (lb_cong _ _ fun j j1 => ⟨?_, ?_⟩).symm
          · simp only [aF, m14]
            simp
            rw [if_neg (by omega), mf 21 (by decide)]
          · simp only [aF, m14]
            simp
            rw [if_neg (by omega), mf 19 (by decide)]
        · intro zs
          rw [m14]
          refine hfin _ (fun k i hk => ?_) ?_
          · by_cases zk : k = 17
            · subst zk; rw [ux_i _ _ _ (by omega)]
            · rw [ux_c _ _ _ _ zk]
          · rw [ux_s, men]
            have u21 : ∀ y, ux_ (aF M8 c v kd (if kd = 5 then lk else -1) st) 17 c y 21 = aF M8 c v kd (if kd = 5 then lk else -1) st 21 := fun y => funext fun i => ux_c _ _ _ _ (by decide)
            have u19 : ∀ y, ux_ (aF M8 c v kd (if kd = 5 then lk else -1) st) 17 c y 19 = aF M8 c v kd (if kd = 5 then lk else -1) st 19 := fun y => funext fun i => ux_c _ _ _ _ (by decide)
            rw [u21, u19]
      refine ⟨fun z5 => ?_, fun z5 => ?_⟩
      · rw [if_neg z5] at key; exact key
      · rw [if_pos z5] at key; exact key
    refine ⟨fun zv => h65 (Or.inl zv), fun zv => ⟨fun z1 => h65 (Or.inr (Or.inl z1)), fun z1 => ⟨fun z2 => h65 (Or.inr (Or.inr (Or.inl z2))), fun z2 => ⟨fun z3 => h73 ?_, fun z3 => ⟨fun z4 => h73 ?_, fun z4 => ?_⟩⟩⟩⟩⟩
    · rintro (q | q | q | q)
      · exact zv q
      · exact z1 q
      · exact z2 q
      · exact z3 q.1
    · rintro (q | q | q | q)
      · exact zv q
      · exact z1 q
      · exact z2 q
      · exact q.2 (Or.inl z4)
    · have q8 : C1 8 0 = C 8 0 := hf 8 0 (by omega)
      refine p_isType glk (fun hh _ => ⟨fun _ => h73 ?_, fun q => by omega⟩) (fun hh _ => ⟨fun q => absurd rfl q, fun _ => h65 (Or.inr (Or.inr (Or.inr ⟨z3, ?_⟩)))⟩)
      · rw [q8] at hh
        rintro (q | q | q | q)
        · exact zv q
        · exact z1 q
        · exact z2 q
        · exact q.2 (Or.inr hh)
      · rw [q8] at hh
        rintro (q | q)
        · exact z4 q
        · exact hh q
  · -- no class
    refine ⟨by simp, ?_⟩
    refine R_field glk hst (by omega) (by omega) (by omega) (by omega) hown (fun _ => ⟨by rw [ux_s]; rfl, sc_F22 h fun _ _ _ => rfl⟩) (fun v' h' q0 q1 => absurd ⟨q0, by omega⟩ c0) (fun v' h' q0 q1 => absurd ⟨q0, by omega⟩ c0) (fun v' h' q0 q1 => absurd ⟨q0, by omega⟩ c0)
theorem u_copy {C R : MM} {o w : Int} (hB : RB C R) (hJ : Rjn C R) : w_X11_copy (fun r C' => w_X12_copy (fun r' R' => r = r' ∧ R' 0 0 = 0 ∧ RB C' R' ∧ Rjn C' R' ∧ hpLe C C' ∧ FCc C C' ∧ FCr R R') o w R) (fun E C' => E ∈ (["java/util/NoSuchElementException", "java/lang/IllegalArgumentException", "java/lang/IllegalStateException"] : List String) ∧ w_X12_copy (fun r' R' => R' 0 0 = xW E ∧ RB C' R' ∧ Rjn C' R' ∧ hpLe C C' ∧ FCc C C' ∧ FCr R R') o w R) o w C := by
  have hH := hB.2.2
  have hY := hB.1.2.2.2.2
  have n0 := hH.2.1
  have n4 := hH.2.2.1
  have fr0 : ∀ x, FCr R (ux_ R 0 0 x) := fun x => ⟨fun q hq => funext fun i => ux_c _ _ _ _ (fun e => hq (by rw [e]; decide)), fun i hi => ux_i _ _ _ (fun e => hi (by rw [e]; decide))⟩
  have fc0 : FCc C C := ⟨fun _ _ => rfl, fun _ _ => rfl⟩
  have b27 : ∀ (Q : Int → MM → Prop) x, 0 < x → Q 0 (ux_ R 0 0 x) → w_X12_copy_b27 Q o w x R := by
    intro Q x hx hq
    unfold w_X12_copy_b27
    intro M1 e1 v2 e2 _
    have : v2 = x := by rw [e2, e1, ux_s]
    exact ⟨fun q => by omega, fun _ => by rw [e1]; exact hq⟩
  unfold w_X11_copy
  refine p_isThere n4 (fun ho _ => ⟨fun _ => ?_, fun q => by omega⟩) (fun ho _ => ⟨fun q => absurd rfl q, fun _ => ?_⟩)
  · have go : ∀ Q : Int → MM → Prop, ((w < 0 → w_X12_copy_b22 Q o w R) ∧ (¬ w < 0 → (w ≤ 2 → w_X12_copy_b27 Q o w 0 R) ∧ (¬ w ≤ 2 → w_X12_copy_b22 Q o w R))) → w_X12_copy Q o w R := by
      intro Q hq
      unfold w_X12_copy
      exact p_R_isObject hH (fun _ _ => ⟨fun _ => hq, fun q => by omega⟩) (fun q => absurd ho q)
    have bad : w < 0 ∨ 2 < w → w_X12_copy (fun r' R' => R' 0 0 = xW "java/lang/IllegalArgumentException" ∧ RB C R' ∧ Rjn C R' ∧ hpLe C C ∧ FCc C C ∧ FCr R R') o w R := by
      intro hw
      have b22 : w_X12_copy_b22 (fun r' R' => R' 0 0 = xW "java/lang/IllegalArgumentException" ∧ RB C R' ∧ Rjn C R' ∧ hpLe C C ∧ FCc C C ∧ FCr R R') o w R := b27 _ 2 (by omega) ⟨ux_s _ _ _ _, RB_00 hB 2, Rjn_00 hJ 2, hpLe_r C, fc0, fr0 2⟩
      exact go _ ⟨fun _ => b22, fun q => ⟨fun q2 => by omega, fun _ => b22⟩⟩
    unfold w_X11_copy_b28
    refine ⟨fun z => ⟨by simp, bad (Or.inl z)⟩, fun z => ⟨fun z2 => ?_, fun z2 => ⟨by simp, bad (Or.inr (by omega))⟩⟩⟩
    obtain ⟨wl1, wl2, wl3⟩ := cpL_ok hY hH (w := w) ho
    have hlen := wl_len wl1 n0
    have R00 := RB_00 hB 0
    have hY0 := R00.1.2.2.2.2
    have hH0 := R00.2.2
    unfold w_X2_duplicate
    refine p_walkToCopy hY hH ho (by omega) z2 fun M hM _ _ => ?_
    have refR : ∀ Q : Int → MM → Prop, (∀ A, WR (ux_ R 0 0 0) A (cpL C w o) → w_X12_copy_b89 Q A) → w_X12_copy Q o w R := by
      intro Q hq
      refine go Q ⟨fun q => absurd q z, fun _ => ⟨fun _ => ?_, fun q => absurd z2 q⟩⟩
      unfold w_X12_copy_b27
      intro M1 e1 v2 e2 _
      have : v2 = 0 := by rw [e2, e1, ux_s]
      refine ⟨fun _ => ?_, fun q => by omega⟩
      subst e1
      exact p_R_walkToCopy hY0 hH0 ho (by omega) z2 hq
    have hA : ∀ A x, WR (ux_ R 0 0 0) A (cpL C w o) → (∀ k, k ∉ [0, 36, 37] → ux_ A 0 0 x k = R k) ∧ (∀ i, i ∉ ([0, 47] : List Int) → ux_ A 0 0 x 0 i = R 0 i) := by
      intro A x hW
      refine ⟨fun k hk => funext fun i => ?_, fun i hi => ?_⟩
      · have k0 : k ≠ 0 := fun e => hk (by rw [e]; decide)
        rw [ux_c _ _ _ _ k0, hW.1 k hk, ux_c _ _ _ _ k0]
      · have i0 : i ≠ 0 := fun e => hi (by rw [e]; decide)
        rw [ux_i _ _ _ i0, hW.2.1 i (fun e => hi (by rw [e]; decide)), ux_i _ _ _ i0]
    have leM : hpLe C M := hpLe_e (fun k a b _ => hM.1 k (by omega) (by omega)) (by rw [hM.1 26 (by decide) (by decide)]) (fun k hk => hM.1 k (by intro q; rw [q] at hk; revert hk; decide) (by intro q; rw [q] at hk; revert hk; decide))
    refine p_dup13 hY hH wl2 (by omega) hM (fun hbad _ => ⟨fun q => absurd rfl q, fun _ => ?_⟩) (fun q1 q2 => ?_)
    · refine ⟨by simp, ?_⟩
      refine refR _ fun A hW => p_R_dup94 hY0 hH0 wl2 (by omega) hW (fun _ => ?_) (fun q1 q2 => absurd ⟨q1, q2⟩ hbad)
      obtain ⟨a1, a2⟩ := hA A 3 hW
      exact ⟨ux_s _ _ _ _, RB_w (L := cpL C w o) hB hM.1 a1 a2, le_jn hY hH leM hJ (fun k a b => hM.1 k (by omega) (by omega)) (fun k a b => a1 k (by simp; omega)) (fun i hi => a2 i (by revert hi; simp; omega)), leM, ⟨fun q hq => hM.1 q (fun e => hq (by rw [e]; decide)) (fun e => hq (by rw [e]; decide)), fun i _ => by rw [hM.1 26 (by decide) (by decide)]⟩, ⟨fun q hq => a1 q (fun e => hq (by revert e; simp; omega)), fun i hi => a2 i (fun e => hi (by revert e; simp; omega))⟩⟩
    · -- all goes well: the reference's memory behind its walk is taken for the class's proof first
      have fin : ∀ A, WR (ux_ R 0 0 0) A (cpL C w o) → RB M (ux_ A 0 0 0) := fun A hW => RB_w (L := cpL C w o) hB hM.1 (hA A 0 hW).1 (hA A 0 hW).2
      have hW0 := WR_ex (R := ux_ R 0 0 0) (L := cpL C w o)
      obtain ⟨A0, hA0⟩ : ∃ A0, A0 = exA (ux_ R 0 0 0) (cpL C w o) := ⟨_, rfl⟩
      rw [← hA0] at hW0
      refine p_dup62 hY hH wl2 hM (fin A0 hW0) q1 q2 ?_
      refine p_dup106 hY hH wl2 hM (fin A0 hW0) q1 q2 fun _ => ⟨fun _ => ?_, fun q => by omega⟩
      refine refR _ fun A hW => p_R_dup94 hY0 hH0 wl2 (by omega) hW (fun q => absurd ⟨q1, q2⟩ q) (fun _ _ => ?_)
      obtain ⟨a1, a2⟩ := hA A 0 hW
      have hBA := fin A hW
      have x47 : ux_ A 0 0 0 0 47 = (cpL C w o).length := by rw [ux_i _ _ _ (by decide)]; exact hW.2.2.1
      have x36 : ∀ k : Nat, k < (cpL C w o).length → ux_ A 0 0 0 36 k = (cpL C w o).getD k 0 := fun k hk => by rw [ux_c _ _ _ _ (by decide)]; exact hW.2.2.2.1 k hk
      have x37 : ∀ v, 0 ≤ v → v < 400 → ux_ A 0 0 0 37 v = ix (cpL C w o) v := fun v v0 v1 => by rw [ux_c _ _ _ _ (by decide)]; exact hW.2.2.2.2 v v0 v1
      refine p_R_dup194 hY hH wl2 hM.1 hBA x47 x36 (a1 19 (by decide)) (a1 20 (by decide)) q1 q2 ?_
      refine p_R_dup242 hY hH wl2 hM.1 hBA x47 x36 x37 (fun q hq => a1 q (by intro e; simp at e hq; omega)) (a2 27 (by decide)) q1 q2 ?_
      have rel := cA_I hY hH wl2 hM.1 hBA q1 q2 (cpL C w o).length (Nat.le_refl _)
      obtain ⟨i1, i2, i3, i4, i5, i6, i7, i8, i9, i10, i11, i12, i13, i14, i15⟩ := cr_I hY hH wl2 hM.1 hBA q1 q2 (cpL C w o).length (Nat.le_refl _)
      obtain ⟨f1, -⟩ := csA_f C (cpL C w o) (C 26 1) 30 29 (crN C M (cpL C w o) (cpL C w o).length) (C 26 3) (cpL C w o).length (fun j hj => by
        rw [(i8 j hj).2.2]
        have := (sL_mono hY hH wl2 0 j (by omega) (by omega)).1
        have z0 : sL C (cpL C w o) 0 = 0 := rfl
        omega)
      obtain ⟨g1, -⟩ := csA_f C (cpL C w o) (C 26 1) 23 21 (rdN C M (ux_ A 0 0 0) (cpL C w o) (cpL C w o).length) (ux_ A 0 0 0 0 27) (cpL C w o).length (fun j hj => by
        rw [i15 j hj]
        have := (sL_mono hY hH wl2 0 j (by omega) (by omega)).1
        have z0 : sL C (cpL C w o) 0 = 0 := rfl
        omega)
      have hle : hpLe C (csA C (cpL C w o) (C 26 1) 30 29 (crN C M (cpL C w o) (cpL C w o).length) (cpL C w o).length) := by
        refine ⟨⟨by rw [f1 8 (by decide), i4 8 (by decide), hM.1 8 (by decide) (by decide)]; omega, fun c c0 c1 => ⟨by rw [f1 9 (by decide), i4 9 (by decide), hM.1 9 (by decide) (by decide)], by rw [f1 11 (by decide), i4 11 (by decide), hM.1 11 (by decide) (by decide)], fun u => ⟨by rw [f1 12 (by decide)]; exact i9 c c0 c1 u, by rw [f1 16 (by decide), i4 16 (by decide), hM.1 16 (by decide) (by decide)], by rw [f1 17 (by decide), i4 17 (by decide), hM.1 17 (by decide) (by decide)], fun k j hk _ _ => by rw [f1 k (by omega), i4 k (by simp; omega), hM.1 k (by omega) (by omega)]⟩, fun k k0 k1 => ⟨by rw [f1 14 (by decide), i4 14 (by decide), hM.1 14 (by decide) (by decide)]; exact k1, fun q q0 q1 => by rw [f1 q (by omega), i4 q (by simp; omega), hM.1 q (by omega) (by omega)]⟩⟩⟩, fun x hx => ?_⟩
        obtain ⟨x1, x2, x3⟩ := i6 x hx.2.1
        rw [hM.1 27 (by decide) (by decide)] at x1
        rw [hM.1 28 (by decide) (by decide)] at x2
        rw [hM.1 29 (by decide) (by decide)] at x3
        unfold hOk
        rw [f1 26 (by decide), f1 27 (by decide), f1 28 (by decide), f1 29 (by decide), i2, x1, x2, x3]
        exact ⟨⟨hx.1, by have := hx.2.1; omega, hx.2.2⟩, rfl, rfl, rfl⟩
      have cq : ∀ q, q ∉ [12, 26, 27, 28, 29, 30, 31, 34, 35] → csA C (cpL C w o) (C 26 1) 30 29 (crN C M (cpL C w o) (cpL C w o).length) (cpL C w o).length q = C q := by
        intro q hq
        simp at hq
        rw [f1 q (by omega), i4 q (by simp; omega), hM.1 q (by omega) (by omega)]
      have rq' : ∀ q, q ∉ [0, 19, 20, 21, 22, 23, 36, 37] → csA C (cpL C w o) (C 26 1) 23 21 (rdN C M (ux_ A 0 0 0) (cpL C w o) (cpL C w o).length) (cpL C w o).length q = R q := by
        intro q hq
        simp at hq
        rw [g1 q (by omega), i11 q (by simp; omega), a1 q (by simp; omega)]
      have r0 : ∀ i, i ∉ ([0, 26, 27, 28, 47] : List Int) → csA C (cpL C w o) (C 26 1) 23 21 (rdN C M (ux_ A 0 0 0) (cpL C w o) (cpL C w o).length) (cpL C w o).length 0 i = R 0 i := by
        intro i hi
        simp at hi
        rw [g1 0 (by decide), i12 i (by simp; omega), a2 i (by simp; omega)]
      refine ⟨rfl, by rw [g1 0 (by decide), i12 0 (by decide), ux_s], rel, le_jn hY hH hle hJ (fun k a b => cq k (by simp; omega)) (fun k a b => rq' k (by simp; omega)) (fun i hi => r0 i (by revert hi; simp; omega)), hle, ⟨cq, fun i hi => by rw [f1 26 (by decide), i5 i hi, hM.1 26 (by decide) (by decide)]⟩, ⟨rq', r0⟩⟩
  · refine ⟨by simp, ?_⟩
    unfold w_X12_copy
    exact p_R_isObject hH (fun q => absurd q ho) (fun _ _ => ⟨fun q => absurd rfl q, fun _ => b27 _ 1 (by omega) ⟨ux_s _ _ _ _, RB_00 hB 1, Rjn_00 hJ 1, hpLe_r C, fc0, fr0 1⟩⟩)
theorem u_watch {C R : MM} {c k y : Int} (hB : RB C R) (hJ : Rjn C R) : w_X11_watch (fun r C' => w_X12_watch (fun r' R' => r = r' ∧ R' 0 0 = 0 ∧ RB C' R' ∧ Rjn C' R' ∧ (∀ q, q ∉ [36, 40, 41, 42] → C' q = C q) ∧ (∀ i, i ≠ 7 → C' 36 i = C 36 i) ∧ (∀ q, q ∉ [0, 29, 30, 31] → R' q = R q) ∧ (∀ i, i ∉ ([0, 44] : List Int) → R' 0 i = R 0 i)) c k y R) (fun E C' => E ∈ (["java/util/NoSuchElementException", "java/lang/IllegalArgumentException", "java/lang/IllegalStateException"] : List String) ∧ C' = C ∧ w_X12_watch (fun r' R' => R' = ux_ R 0 0 (xW E)) c k y R) c k y C := by
  have hH := hB.2.2
  have hY := hB.1.2.2.2.2
  have h16 := hY.2.2.1
  have h20 := hY.1
  have b54 : ∀ (Q : Int → MM → Prop) x, 0 < x → Q 0 (ux_ R 0 0 x) → w_X12_watch_b54 Q c k y x R := by
    intro Q x hx hq
    unfold w_X12_watch_b54
    intro M1 e1 v2 e2 _
    have : v2 = x := by rw [e2, e1, ux_s]
    exact ⟨fun q => by omega, fun _ => by rw [e1]; exact hq⟩
  have go : ∀ Q : Int → MM → Prop, 0 ≤ c → c < C 8 0 → 0 ≤ k → k < C 14 c → ((y < 0 → w_X12_watch_b36 Q c k y R) ∧ (¬ y < 0 → (y ≤ 3 → (¬ C 36 7 = 6 → w_X12_watch_b54 Q c k y 0 R) ∧ (C 36 7 = 6 → w_X12_watch_b54 Q c k y 3 R)) ∧ (¬ y ≤ 3 → w_X12_watch_b36 Q c k y R))) → w_X12_watch Q c k y R := by
    intro Q c0 c1 k0 k1 hq
    have e9 := (hY.2.2.2.1 c c0 c1).1.2.2.2.2.2.2.2.1
    unfold w_X12_watch
    refine p_R_isClass (fun _ _ _ => ⟨fun q => by omega, fun _ => ⟨fun q => by omega, fun _ => ⟨c0, by omega, fun v5 e5 _ => ?_⟩⟩⟩) (fun q => by omega)
    rw [← e9] at e5
    subst e5
    refine ⟨fun _ => ⟨hq.1, fun z => ⟨fun z2 v9 e9 _ => ?_, (hq.2 z).2⟩⟩, fun q => absurd k1 q⟩
    rw [← hJ.2.2.2.1] at e9
    subst e9
    exact (hq.2 z).1 z2
  unfold w_X11_watch
  refine p_hasField_ h16 (fun c0 c1 k0 k1 _ => ⟨fun _ => ?_, fun q => by omega⟩) (fun hn _ => ⟨fun q => absurd rfl q, fun _ => ⟨by simp, rfl, ?_⟩⟩)
  · unfold w_X11_watch_b29
    refine ⟨fun z => ⟨by simp, rfl, go _ c0 c1 k0 k1 ⟨fun _ => b54 _ 2 (by omega) rfl, fun q => absurd z q⟩⟩, fun z => ⟨fun z2 v6 e6 _ => ?_, fun z2 => ⟨by simp, rfl, go _ c0 c1 k0 k1 ⟨fun q => absurd q z, fun _ => ⟨fun q => absurd q z2, fun _ => b54 _ 2 (by omega) rfl⟩⟩⟩⟩⟩
    subst e6
    refine ⟨fun z3 => ?_, fun z3 => ⟨by simp, rfl, go _ c0 c1 k0 k1 ⟨fun q => absurd q z, fun _ => ⟨fun _ => ⟨fun q => absurd z3 q, fun _ => b54 _ 3 (by omega) rfl⟩, fun q => absurd z2 q⟩⟩⟩⟩
    obtain ⟨j1, j2, j3, j4⟩ := hJ
    obtain ⟨h1, h2, h3, h4, h5⟩ := j4
    unfold w_X3_addWatch
    intro v1 e1 _
    subst e1
    refine ⟨h2, by omega, fun M2 e2 v3 e3 _ => ?_⟩
    have r3 : v3 = C 36 7 := by rw [e3, e2, ux_c _ _ _ _ (by decide)]
    subst r3
    refine ⟨h2, by omega, fun M4 e4 v5 e5 _ => ?_⟩
    have r5 : v5 = C 36 7 := by rw [e5, e4, e2, ux_c _ _ _ _ (by decide), ux_c _ _ _ _ (by decide)]
    subst r5
    refine ⟨h2, by omega, fun M6 e6 v7 e7 _ => ?_⟩
    have r7 : v7 = C 36 7 := by rw [e7, e6, e4, e2, ux_c _ _ _ _ (by decide), ux_c _ _ _ _ (by decide), ux_c _ _ _ _ (by decide)]
    subst r7
    refine ⟨by unfold ri_; omega, fun M9 e9 v10 e10 _ => ?_⟩
    have r10 : v10 = C 36 7 + 1 := by rw [e10, e9, ux_s]
    rw [r10]
    refine ⟨by unfold ri_; omega, fun _ => go _ c0 c1 k0 k1 ⟨fun q => absurd q z, fun _ => ⟨fun _ => ⟨fun _ => ?_, fun q => absurd q z3⟩, fun q => absurd z2 q⟩⟩⟩
    have cc : ∀ q, q ∉ [36, 40, 41, 42] → M9 q = C q := by
      intro q hq
      simp at hq
      funext i
      rw [e9, e6, e4, e2, ux_c _ _ _ _ (by omega), ux_c _ _ _ _ (by omega), ux_c _ _ _ _ (by omega), ux_c _ _ _ _ (by omega)]
    have c36 : ∀ i, i ≠ 7 → M9 36 i = C 36 i := by
      intro i hi
      rw [e9, e6, e4, e2, ux_i _ _ _ hi, ux_c _ _ _ _ (by decide), ux_c _ _ _ _ (by decide), ux_c _ _ _ _ (by decide)]
    have c7 : M9 36 7 = C 36 7 + 1 := by rw [e9, ux_s]
    have c40 : ∀ i, M9 40 i = if i = C 36 7 then c else C 40 i := by
      intro i
      rw [e9, e6, e4, e2, ux_c _ _ _ _ (by decide), ux_c _ _ _ _ (by decide), ux_c _ _ _ _ (by decide)]
      by_cases w : i = C 36 7
      · rw [if_pos w, w, ux_s]
      · rw [if_neg w, ux_i _ _ _ w]
    have c41 : ∀ i, M9 41 i = if i = C 36 7 then k else C 41 i := by
      intro i
      rw [e9, e6, e4, e2, ux_c _ _ _ _ (by decide), ux_c _ _ _ _ (by decide)]
      by_cases w : i = C 36 7
      · rw [if_pos w, w, ux_s]
      · rw [if_neg w, ux_i _ _ _ w, ux_c _ _ _ _ (by decide)]
    have c42 : ∀ i, M9 42 i = if i = C 36 7 then y else C 42 i := by
      intro i
      rw [e9, e6, e4, e2, ux_c _ _ _ _ (by decide)]
      by_cases w : i = C 36 7
      · rw [if_pos w, w, ux_s]
      · rw [if_neg w, ux_i _ _ _ w, ux_c _ _ _ _ (by decide), ux_c _ _ _ _ (by decide)]
    unfold w_X12_watch_b54
    intro A1 f1 u2 f2 _
    have : u2 = 0 := by rw [f2, f1, ux_s]
    refine ⟨fun _ u4 f4 _ => ?_, fun q => by omega⟩
    have a4 : u4 = C 36 7 := by rw [f4, f1, ux_i _ _ _ (by decide)]; exact h1.symm
    subst a4
    refine ⟨by unfold ri_; omega, by unfold ri_; have := (hY.2.2.2.1 c c0 c1).1.2.2.2.2.2.2.2.2.2.1; omega, h2, by omega, fun A7 f7 u8 f8 _ => ?_⟩
    have a8 : u8 = C 36 7 := by rw [f8, f7, f1, ux_c _ _ _ _ (by decide), ux_i _ _ _ (by decide)]; exact h1.symm
    subst a8
    refine ⟨h2, by omega, fun A9 f9 u10 f10 _ => ?_⟩
    have a10 : u10 = C 36 7 := by rw [f10, f9, f7, f1, ux_c _ _ _ _ (by decide), ux_c _ _ _ _ (by decide), ux_i _ _ _ (by decide)]; exact h1.symm
    subst a10
    refine ⟨h2, by omega, fun A11 f11 u12 f12 _ => ?_⟩
    have a12 : u12 = C 36 7 := by rw [f12, f11, f9, f7, f1, ux_c _ _ _ _ (by decide), ux_c _ _ _ _ (by decide), ux_c _ _ _ _ (by decide), ux_i _ _ _ (by decide)]; exact h1.symm
    subst a12
    refine ⟨by unfold ri_; omega, fun A14 f14 u15 f15 _ => ?_⟩
    have a15 : u15 = C 36 7 + 1 := by rw [f15, f14, ux_s]
    rw [a15]
    have rr : ∀ q, q ∉ [0, 29, 30, 31] → A14 q = R q := by
      intro q hq
      simp at hq
      funext i
      rw [f14, f11, f9, f7, f1, ux_c _ _ _ _ (by omega), ux_c _ _ _ _ (by omega), ux_c _ _ _ _ (by omega), ux_c _ _ _ _ (by omega), ux_c _ _ _ _ (by omega)]
    have r0 : ∀ i, i ≠ 44 → A14 0 i = ux_ R 0 0 0 0 i := by
      intro i hi
      rw [f14, f11, f9, f7, f1, ux_i _ _ _ hi, ux_c _ _ _ _ (by decide), ux_c _ _ _ _ (by decide), ux_c _ _ _ _ (by decide)]
    have r44 : A14 0 44 = C 36 7 + 1 := by rw [f14, ux_s]
    have r29 : ∀ i, A14 29 i = if i = C 36 7 then 6 * c + k else R 29 i := by
      intro i
      rw [f14, f11, f9, f7, f1, ux_c _ _ _ _ (by decide), ux_c _ _ _ _ (by decide), ux_c _ _ _ _ (by decide)]
      by_cases w : i = C 36 7
      · rw [if_pos w, w, ux_s]
      · rw [if_neg w, ux_i _ _ _ w, ux_c _ _ _ _ (by decide)]
    have r30 : ∀ i, A14 30 i = if i = C 36 7 then y else R 30 i := by
      intro i
      rw [f14, f11, f9, f7, f1, ux_c _ _ _ _ (by decide), ux_c _ _ _ _ (by decide)]
      by_cases w : i = C 36 7
      · rw [if_pos w, w, ux_s]
      · rw [if_neg w, ux_i _ _ _ w, ux_c _ _ _ _ (by decide), ux_c _ _ _ _ (by decide)]
    have r31 : ∀ i, A14 31 i = if i = C 36 7 then 0 else R 31 i := by
      intro i
      rw [f14, f11, f9, f7, f1, ux_c _ _ _ _ (by decide)]
      by_cases w : i = C 36 7
      · rw [if_pos w, w, ux_s]
      · rw [if_neg w, ux_i _ _ _ w, ux_c _ _ _ _ (by decide), ux_c _ _ _ _ (by decide), ux_c _ _ _ _ (by decide)]
    have r0' : ∀ i, i ∉ ([0, 44] : List Int) → A14 0 i = R 0 i := by
      intro i hi
      simp at hi
      rw [r0 i (by omega), ux_i _ _ _ (by omega)]
    have hrt : Rrt M9 A14 := by
      have q := hH.2.2.2.2.2.2.2.2.2.2.2.1
      unfold Rrt at q ⊢
      rw [cc 26 (by decide), cc 33 (by decide), rr 24 (by decide), r0' 31 (by decide), hOk_eq (by rw [cc 26 (by decide)]) (cc 27 (by decide))]
      exact q
    have hH2 : Rhp M9 A14 := Rhp_C hH (fun q hk => cc q (by intro x; simp at x; rcases x with rfl | rfl | rfl | rfl <;> simp at hk)) (by rw [cc 8 (by decide)]) (fun i _ => by rw [cc 26 (by decide)]) (fun q hk => rr q (by intro x; simp at x; rcases x with rfl | rfl | rfl | rfl <;> simp at hk)) (fun i hi => r0' i (by revert hi; simp; omega)) hrt
    refine ⟨by unfold ri_; omega, ⟨rfl, ?_, RB_of hB hH2 (fun q a b => cc q (by simp; omega)) (fun q a b _ => rr q (by simp; omega)) (fun i hi => r0' i (by revert hi; simp; omega)), ⟨?_, ?_, ?_, ?_⟩, cc, c36, rr, r0'⟩⟩
    · rw [r0 0 (by decide), ux_s]
    · rw [c36 1 (by decide), r0' 29 (by decide)]; exact j1
    · rw [c36 1 (by decide)]; exact j2
    · exact Rud_e j3 (fun a b d e q => by rw [uE_c (C := C) (C' := M9) (fun q hk => cc q (by intro x; simp at x; rcases x with rfl | rfl | rfl | rfl <;> simp at hk)) (by rw [cc 26 (by decide)])]; exact q) (c36 5 (by decide)) (c36 6 (by decide)) (fun q hk => cc q (by intro x; simp at x; rcases x with rfl | rfl | rfl | rfl <;> simp at hk)) (r0' 36 (by decide)) (fun q hk => rr q (by intro x; simp at x; rcases x with rfl | rfl | rfl | rfl <;> simp at hk))
    · unfold Rwt Rrow
      rw [c7, r44, cc 8 (by decide), cc 14 (by decide), cc 43 (by decide), cc 44 (by decide)]
      refine ⟨rfl, by omega, by omega, fun w w0 w1 => ?_, fun w w0 w1 => h5 w (by omega) w1⟩
      have rq' : ∀ q : Nat, A14 (32 + q) = R (32 + q) := fun q => rr _ (by simp; omega)
      rw [c40, c41, c42, r29, r30, r31]
      by_cases zw : w = C 36 7
      · rw [if_pos zw, if_pos zw, if_pos zw, if_pos zw, if_pos zw, if_pos zw]
        have := h5 w (by omega) (by omega)
        refine ⟨c0, c1, k0, k1, rfl, rfl, by omega, z2, this, by omega, by omega, fun j q j0 j1 => by omega⟩
      · rw [if_neg zw, if_neg zw, if_neg zw, if_neg zw, if_neg zw, if_neg zw]
        obtain ⟨a1, a2, a3, a4, a5, a6, a7, a8, a9, a10, a11, a12⟩ := h4 w w0 (by omega)
        exact ⟨a1, a2, a3, a4, a5, a6, a7, a8, a9, a10, a11, fun j q j0 j1 q4 => by rw [rq']; exact a12 j q j0 j1 q4⟩
  · unfold w_X12_watch
    have b1 : w_X12_watch_b23 (fun r' R' => R' = ux_ R 0 0 (xW "java/util/NoSuchElementException")) c k y R := b54 _ 1 (by omega) rfl
    refine p_R_isClass (fun c0 c1 _ => ⟨fun q => by omega, fun _ => ⟨fun _ => b1, fun z => ⟨c0, by omega, fun v5 e5 _ => ?_⟩⟩⟩) (fun _ _ => ⟨fun _ => b1, fun q => absurd rfl q⟩)
    rw [← h20] at c1
    have e9 := (hY.2.2.2.1 c c0 c1).1.2.2.2.2.2.2.2.1
    rw [← e9] at e5
    subst e5
    exact ⟨fun q => absurd ⟨c0, c1, by omega, q⟩ hn, fun _ => b1⟩
