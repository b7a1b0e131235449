/-! a write, then the look at the promises -/
theorem FW_of {C Ca C1 : MM} {p b o v n y : Int} {D : Int → Prop} (ca : ∀ k, k ≠ 30 → k ≠ 32 → Ca k = C k) (hs : stC (rmC Ca p b) C1 n D o b v) : FWc C (ux_ C1 36 1 y) := by
  refine ⟨fun k hk => ?_, fun i hi => ?_⟩
  · simp only [List.mem_cons, List.not_mem_nil, or_false] at hk
    rw [ux_g _ _ _ (by omega), hs.1 k (by omega) (by omega), rmC_o _ _ _ (by omega), ca k (by omega) (by omega)]
  · simp only [List.mem_cons, List.not_mem_nil, or_false] at hi
    rw [ux_i _ _ _ (by omega), hs.1 36 (by omega) (by omega), rmC_36 _ _ _ (by omega) (by omega), ca 36 (by omega) (by omega)]
theorem Rhp_w {Ca C1 R Rc : MM} {p b o v n y : Int} {D : Int → Prop} (hH : Rhp Ca Rc) (hs : stC (rmC Ca p b) C1 n D o b v) : Rhp (ux_ C1 36 1 y) Rc := by
  have e : ∀ k, k < 36 → ux_ C1 36 1 y k = Ca k := fun k hk => by rw [ux_g _ _ _ (by omega), hs.1 k (by omega) (by omega), rmC_o _ _ _ (by omega)]
  refine Rhp_C hH (fun k hk => e k (by simp at hk; omega)) (by rw [e 8 (by omega)]) (fun i _ => by rw [e 26 (by omega)]) (fun _ _ => rfl) (fun _ _ => rfl) ?_
  have q := hH.2.2.2.2.2.2.2.2.2.2.2.1
  unfold Rrt at q ⊢
  rw [e 26 (by omega), e 33 (by omega), hOk_eq (by rw [e 26 (by omega)]) (e 27 (by omega))]; exact q
theorem s_write2 {o s v : Int} {C R : MM} {Q : Int → MM → Prop} (hB : RB C R) (hJ : Rjn C R) (ho : hOk C o) (s0 : 0 ≤ s) (s1 : s < ln C o) (hv : vK C (kA C (C 27 o) s) (lA C (C 27 o) s) v) (wb : C 36 1 < 2147483647) (hq : ∀ C', FWc C C' → C' 36 1 = C 36 1 + 1 → (∃ Rc, Rty C' Rc ∧ Rhp C' Rc) → (∀ i, C' 30 i = if i = C 29 o + s then v else C 30 i) → C' 32 = C 32 → (∀ Qr : Int → MM → Prop, (∀ R', RB C' R' → Rjn C' R' → FWr R R' → Qr 0 R') → w_X12_write Qr o s v R) → Q (C 36 1) C') : w_X3_writeSlot Q o s v C := by
  have hA := hB.1
  have hH := hB.2.2
  have hY := hA.2.2.2.2
  have hat := hp_at hY hH ho
  have ob := ((hH.2.2.2.2.2.2.2.2.2.1 o ho.1 ho.2.1).2 ho.2.2).2.2.2.2.2.2.2.2.2 s s0 s1
  have eb : R 23 (R 21 o + s) = C 30 (C 29 o + s) := ob.1.symm
  have ca : ∀ k, k ≠ 30 → ux_ C 30 (C 29 o + s) v k = C k := fun k hk => funext fun i => ux_c _ _ _ _ hk
  have ra : ∀ k, k ≠ 23 → ux_ R 23 (R 21 o + s) v k = R k := fun k hk => funext fun i => ux_c _ _ _ _ hk
  have hH2 : Rhp (ux_ C 30 (C 29 o + s) v) (ux_ R 23 (R 21 o + s) v) := hp_set hY hH ho s0 s1 hv (fun k hk => ca k (by intro q; rw [q] at hk; revert hk; decide)) (by rw [ca 8 (by decide)]) (fun i _ => by rw [ca 26 (by decide)]) (fun i => by
      by_cases z : i = C 29 o + s
      · rw [if_pos z, z, ux_s]
      · rw [if_neg z, ux_i _ _ _ z]) (fun k hk => ra k (by intro q; rw [q] at hk; revert hk; decide)) (fun i _ => by rw [ra 0 (by decide)]) (fun i => by
      by_cases z : i = R 21 o + s
      · rw [if_pos z, z, ux_s]
      · rw [if_neg z, ux_i _ _ _ z])
  refine p_writeSlot hY hH hJ ho s0 s1 wb fun C1 hs => ?_
  have fw : FWc C (ux_ C1 36 1 (C 36 1 + 1)) := FW_of (fun k a _ => ca k a) hs
  refine hq _ fw (ux_s _ _ _ _) ⟨ux_ R 23 (R 21 o + s) v, ?_, Rhp_w (R := R) hH2 hs⟩ (fun i => ?_) ?_ (fun Qr hr0 => ?_)
  · exact Rty_C (Rty_R hY (fun k a b _ => ra k (by omega)) (by rw [ra 0 (by decide)])) (fun k a b => fw.1 k (by simp; omega))
  · rw [ux_c _ _ _ _ (by decide), hs.1 30 (by decide) (by decide), rmC_o _ _ _ (by omega)]
    by_cases z : i = C 29 o + s
    · rw [if_pos z, z, ux_s]
    · rw [if_neg z, ux_i _ _ _ z]
  · funext i
    rw [ux_c _ _ _ _ (by decide), hs.1 32 (by decide) (by decide), rmC_o _ _ _ (by omega), ca 32 (by decide)]
  · refine p_R_write hY hH hJ ho s0 s1 (by rw [← hJ.1]; exact wb) fun g hg R1 hr => ?_
    rw [eb] at hr
    have hD : ∀ w, 0 ≤ w → w < C 36 7 → (dC C o s (C 30 (C 29 o + s)) v w ↔ dR R g (C 30 (C 29 o + s)) v w) := by
      intro w w0 w1
      rcases hg with ⟨t0, t1, hf⟩ | ⟨t0, rfl⟩
      · exact d_eq hY hJ.2.2.2 t0 t1 hf w0 w1
      · exact d_eqA t0
    obtain ⟨g1, g2, g3, g4, g5, g6⟩ := rel_w hB hJ hH2 (fun k a _ => ca k a) (fun k _ a => ra k a) (Or.inr ⟨ho, s0, s1, rfl, ob.2.2⟩) hs hr hD
    exact hr0 _ g1 g2 ⟨g5, g6⟩
theorem s_writeS2 {g v : Int} {C R : MM} {Q : Int → MM → Prop} (hB : RB C R) (hJ : Rjn C R) (hg : ∃ c k, 0 ≤ c ∧ c < C 8 0 ∧ 0 ≤ k ∧ k < C 14 c ∧ g = 6 * c + k) (hgs : C 21 g ≠ 0) (hv : C 19 g = 5 → vL C v (C 20 g)) (wb : C 36 1 < 2147483647) (hq : ∀ C', FWc C C' → C' 36 1 = C 36 1 + 1 → (∃ Rc, Rty C' Rc ∧ Rhp C' Rc) → C' 30 = C 30 → (∀ i, C' 32 i = if i = g then v else C 32 i) → (∀ Qr : Int → MM → Prop, (∀ R', RB C' R' → Rjn C' R' → FWr R R' → Qr 0 R') → w_X12_write Qr (-1) g v R) → Q (C 36 1) C') : w_X3_writeStatic Q g v C := by
  have hA := hB.1
  have hH := hB.2.2
  have hY := hA.2.2.2.2
  have h16 := hY.2.2.1
  obtain ⟨c, k, c0, c1, k0, k1, rfl⟩ := hg
  have k6 := (hY.2.2.2.1 c c0 c1).1.2.2.2.2.2.2.2.2.2.1
  have h13 := hH.2.2.2.2.2.2.2.2.2.2.2.2.1
  have h14 := hH.2.2.2.2.2.2.2.2.2.2.2.2.2
  have eb : R 6 (6 * c + k) = C 32 (6 * c + k) := (h13 _ (by omega) (by omega)).symm
  have ca : ∀ q, q ≠ 32 → ux_ C 32 (6 * c + k) v q = C q := fun q hk => funext fun i => ux_c _ _ _ _ hk
  have ra : ∀ q, q ≠ 6 → ux_ R 6 (6 * c + k) v q = R q := fun q hk => funext fun i => ux_c _ _ _ _ hk
  have hH2 : Rhp (ux_ C 32 (6 * c + k) v) (ux_ R 6 (6 * c + k) v) := hp_setS hH ⟨c, k, c0, c1, k0, k1, rfl, hv⟩ (fun k hk => ca k (by intro q; rw [q] at hk; revert hk; decide)) (by rw [ca 8 (by decide)]) (fun i _ => by rw [ca 26 (by decide)]) (fun i => by
      by_cases z : i = 6 * c + k
      · rw [if_pos z, z, ux_s]
      · rw [if_neg z, ux_i _ _ _ z]) (fun x x0 x1 => (hY.2.2.2.1 x x0 x1).1.2.2.2.2.2.2.2.2.2.1) (fun k hk => ra k (by intro q; rw [q] at hk; revert hk; decide)) (fun i _ => by rw [ra 0 (by decide)]) (fun i => by
      by_cases z : i = 6 * c + k
      · rw [if_pos z, z, ux_s]
      · rw [if_neg z, ux_i _ _ _ z])
  refine p_writeStatic hY hJ (by omega) (by omega) wb fun C1 hs => ?_
  have fw : FWc C (ux_ C1 36 1 (C 36 1 + 1)) := FW_of (fun k _ a => ca k a) hs
  refine hq _ fw (ux_s _ _ _ _) ⟨ux_ R 6 (6 * c + k) v, ?_, Rhp_w (R := R) hH2 hs⟩ ?_ (fun i => ?_) (fun Qr hr0 => ?_)
  · exact Rty_C (Rty_R hY (fun k _ _ b => ra k b) (by rw [ra 0 (by decide)])) (fun k a b => fw.1 k (by simp; omega))
  · funext i
    rw [ux_c _ _ _ _ (by decide), hs.1 30 (by decide) (by decide), rmC_o _ _ _ (by omega), ca 30 (by decide)]
  · rw [ux_c _ _ _ _ (by decide), hs.1 32 (by decide) (by decide), rmC_o _ _ _ (by omega)]
    by_cases z : i = 6 * c + k
    · rw [if_pos z, z, ux_s]
    · rw [if_neg z, ux_i _ _ _ z]
  · refine p_R_writeS hY hJ (by omega) (by omega) (by rw [← hJ.1]; exact wb) fun R1 hr => ?_
    rw [eb] at hr
    obtain ⟨g1, g2, g3, g4, g5, g6⟩ := rel_w hB hJ hH2 (fun k _ a => ca k a) (fun k a _ => ra k a) (Or.inl ⟨rfl, rfl, c, k, c0, c1, k0, k1, rfl, fun q => h14 c k c0 c1 k0 k1 hgs q⟩) hs hr (fun w w0 w1 => d_eqS hY hJ.2.2.2 (by omega) w0 w1)
    exact hr0 _ g1 g2 ⟨g5, g6⟩
theorem pcs_fr {C C' R R' R0 : MM} {cs : Int → Nat} (hY : Rty C R0) (h : pcs C R cs) (hl : tyLe C C') (e : ∀ q, 45 ≤ q → q ≤ 210 → C' q = C q) (e0 : C' 0 5 = C 0 5) (r : ∀ k, 38 ≤ k → k ≤ 59 → R' k = R k) : pcs C' R' cs := by
  obtain ⟨h1, h2, h3, h4, h5⟩ := h
  have hi : ∀ p, 0 ≤ p → p < 5 → 46 ≤ cs p ∧ cs p ≤ 178 := fun p a b => by have := h4 p a b; unfold isP at this; omega
  refine ⟨fun p a b => ⟨by rw [e 45 (by omega) (by omega)]; exact (h1 p a b).1, pic_fr hY (h1 p a b).2 hl (fun q x y => e q (by have := hi p a (by omega); omega) (by have := hi p a (by omega); omega)) (fun k i x y _ => by rw [r k x y])⟩, by rw [e0]; exact h2, ?_, h4, h5⟩
  have := hi 4 (by omega) (by omega)
  exact PF_e h3 (fun k a b => e k (by omega) (by omega))
/-- behind the writes -/
theorem aft {C C1 R Rc : MM} {cs : Int → Nat} {B w : Int} {Q : Int → MM → Prop} (hY : Rty C R) (hcs : pcs C R cs) (hP : Rpr C R) (hX : SXq B C) (B0 : 0 ≤ B) (B1 : B + 90003 ≤ 2147483646) (e1 : ∀ k, k < 26 ∨ 44 < k → C1 k = C k) (hYc : Rty C1 Rc) (hHc : Rhp C1 Rc)
    (hq : ∀ C', (∀ k, k ≠ 260 → k < 46 ∨ 231 < k → C' k = C1 k) → C' 219 20 = C 219 20 → SXq (B + 90003) C' → (∀ (R1 : MM) (Qr : Int → MM → Prop), RB C1 R1 → Rjn C1 R1 → (∀ k, k ≠ 0 → k ≠ 6 → k < 19 ∨ 35 < k → R1 k = R k) → (∀ i, i ∈ ([20, 113, 114] : List Int) → R1 0 i = R 0 i) → (∀ R', RD C' R' → Rpr C' R' → FLq R1 R' → Qr 0 R') → w_X12_lookAtPromises Qr w R1) → Q 0 C') : w_X11_checkPromises Q w C1 := by
  have ip := hcs.2.2.2.1 4 (by omega) (by omega)
  have ip' := ip
  unfold isP at ip'
  have tl : tyLe C C1 := tyLe_of (by rw [e1 8 (by omega)]) (fun k a b => e1 k (by omega))
  have hP1 : Rpr C1 R := Rpr_fr hP (by rw [e1 0 (by omega)]) (fun q a b => e1 q (by omega)) (fun _ _ _ _ _ => rfl) rfl rfl rfl rfl
  have hc1 := pcs_fr (R' := R) hY hcs tl (fun q a b => e1 q (by omega)) (by rw [e1 0 (by omega)]) (fun _ _ _ => rfl)
  refine look (pc := cs 4) (Rty_C hY (fun k a b => e1 k (by omega))) hYc hHc hc1.2.1 ip hc1.2.2.1 hP1 (SXq_e hX (fun k hk => e1 k (by omega))) B0 B1 (fun C' f1 f2 sx pf lk => ?_)
  refine hq C' (fun k a b => f1 k (by omega) (by omega) a) (by rw [f2, e1 219 (by omega)]) sx (fun R1 Qr hB1 hJ1 r1 r0 hQ => ?_)
  refine lk R1 Qr hB1.1.2.2.2.2 hB1.2.2 ⟨fun k a b d => r1 k (by omega) d (by omega), fun k a b => r1 k (by omega) (by omega) (by omega), r1 78 (by decide) (by decide) (by omega), r1 79 (by decide) (by decide) (by omega), r0⟩ (fun R' fl e79 => ?_)
  have hc2 := pcs_fr (C' := C1) (R' := R1) hY hcs tl (fun q a b => e1 q (by omega)) (by rw [e1 0 (by omega)]) (fun k a b => r1 k (by omega) (by omega) (by omega))
  refine hQ R' ?_ ?_ fl
  · refine RD_t4 hB1 hJ1 hc2 (fun k a b d => f1 k d (by omega) (by omega)) (by rw [f1 0 (by omega) (by omega) (by omega)]) pf (fun k hk hl => fl.1 k (by simp only [List.mem_cons, List.not_mem_nil, or_false] at hk ⊢; omega) (by omega)) (fun i _ hi => fl.2.2 i (by simp only [List.mem_cons, List.not_mem_nil, or_false] at hi ⊢; omega)) fl.2.1
  · obtain ⟨h1, h2, h3, h4, h5, h6, h7⟩ := hP1
    have z0 : C' 0 = C1 0 := f1 0 (by omega) (by omega) (by omega)
    refine ⟨?_, by rw [z0]; exact h2, by rw [z0]; exact h3, fun k a b => by rw [f1 235 (by omega) (by omega) (by omega)]; exact h4 k a b, fun k a b => e79 k a (by rw [← z0]; exact b), ?_, fun k a b => ?_⟩
    · rw [z0, fl.2.2 113 (by decide), r0 113 (by decide)]; exact h1
    · rw [fl.2.2 114 (by decide), r0 114 (by decide)]; exact h6
    · rw [z0] at b
      obtain ⟨g1, g2, g3, g4⟩ := pcl_G a (show k < 3 by omega)
      refine PRk_fr (h7 k a b) (fun q s t => f1 q (by omega) (by omega) (by omega)) (fun j i s t u v => ?_) ?_ (fun y => ?_)
      · rw [fl.1 j (by simp; omega) (by omega), r1 j (by omega) (by omega) (by omega)]
      · rw [fl.1 78 (by decide) (by omega), r1 78 (by decide) (by decide) (by omega)]
      · rw [fl.2.2 114 (by decide), r0 114 (by decide)]; exact y
