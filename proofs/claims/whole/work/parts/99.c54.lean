/-! a write in the class, and that write in the reference, whatever its memory -/
noncomputable def stX (R : MM) (n : Int) (D : Int → Prop) (o b v : Int) : MM := fun k i => if k = 31 then (@ite _ (0 ≤ i ∧ i < 6 ∧ i < n ∧ D i) (Classical.propDecidable _) (if R 31 i = 6 then 6 else R 31 i + 1) (R 31 i)) else if 32 ≤ k ∧ k ≤ 35 then (@ite _ (0 ≤ i / 6 ∧ i / 6 < 6 ∧ i / 6 < n ∧ D (i / 6)) (Classical.propDecidable _) (if i - i / 6 * 6 = (if R 31 (i / 6) = 6 then 6 else R 31 (i / 6) + 1) - 1 then rq (k - 32) (R 0 29) o b v else if R 31 (i / 6) = 6 then R k (i + 1) else R k i) (R k i)) else R k i
theorem stX_ok {R : MM} {n o b v : Int} {D : Int → Prop} (h : ∀ w, 0 ≤ w → w < 6 → w < n → 0 ≤ R 31 w ∧ R 31 w ≤ 6) : stR R (stX R n D o b v) n D o b v := by
  refine ⟨fun k hk => funext fun i => ?_, fun w w0 w1 => ⟨fun hd => ?_, fun hd => ?_⟩⟩
  · unfold stX; rw [if_neg (by omega), if_neg (by omega)]
  · have e31 : stX R n D o b v 31 w = if R 31 w = 6 then 6 else R 31 w + 1 := by
      unfold stX; rw [if_pos rfl, if_pos ⟨w0, w1, hd.1, hd.2⟩]
    have hw := h w w0 w1 hd.1
    refine ⟨e31, ?_, ?_, fun j q j0 j1 q4 => ?_⟩
    · rw [e31]; split <;> omega
    · rw [e31]; split <;> omega
    · have j6 : j < 6 := by
        have : stX R n D o b v 31 w ≤ 6 := by rw [e31]; split <;> omega
        omega
      have ew : (6 * w + j) / 6 = w := by omega
      rw [e31]
      unfold stX
      rw [if_neg (by omega), if_pos ⟨by omega, by omega⟩, ew, if_pos ⟨w0, w1, hd.1, hd.2⟩, show 6 * w + j - w * 6 = j from by omega, show 32 + q - 32 = q from by omega]
  · refine ⟨?_, fun q i q4 i0 i1 => ?_⟩
    · unfold stX; rw [if_pos rfl, if_neg (fun y => hd ⟨y.2.2.1, y.2.2.2⟩)]
    · have ew : i / 6 = w := by omega
      unfold stX
      rw [if_neg (by omega), if_pos ⟨by omega, by omega⟩, ew, if_neg (fun y => hd ⟨y.2.2.1, y.2.2.2⟩)]
def WS (X X' : MM) (o k v : Int) : Prop := ∀ R2, RB X R2 → Rjn X R2 → ∀ Qr : Int → MM → Prop, (∀ R', RB X' R' → Rjn X' R' → FWr R2 R' → Qr 0 R') → w_X12_write Qr o k v R2
theorem wt_n {C R : MM} (hY : Rty C R) (hw : Rwt C R) : ∀ w, 0 ≤ w → w < 6 → (w < R 0 44 → 0 ≤ R 31 w ∧ R 31 w ≤ 6) := fun w w0 w1 wn => by
  have := (wt_R hY hw).2.2 w w0 wn
  omega
theorem s_write3 {o s v : Int} {C R : MM} {Q : Int → MM → Prop} (hB : RB C R) (hJ : Rjn C R) (ho : hOk C o) (s0 : 0 ≤ s) (s1 : s < ln C o) (hv : vK C (kA C (C 27 o) s) (lA C (C 27 o) s) v) (wb : C 36 1 < 2147483647) (hq : ∀ C', FWc C C' → C' 36 1 = C 36 1 + 1 → (∃ Rc, RB C' Rc ∧ Rjn C' Rc) → (∀ i, C' 30 i = if i = C 29 o + s then v else C 30 i) → C' 32 = C 32 → WS C C' o s v → Q (C 36 1) C') : w_X3_writeSlot Q o s v C := by
  have hY := hB.1.2.2.2.2
  have hH := hB.2.2
  have ca : ∀ k, k ≠ 30 → ux_ C 30 (C 29 o + s) v k = C k := fun k hk => funext fun i => ux_c _ _ _ _ hk
  have hH2 : ∀ R2, RB C R2 → Rhp (ux_ C 30 (C 29 o + s) v) (ux_ R2 23 (R2 21 o + s) v) := fun R2 hB2 => by
    have ra : ∀ k, k ≠ 23 → ux_ R2 23 (R2 21 o + s) v k = R2 k := fun k hk => funext fun i => ux_c _ _ _ _ hk
    exact hp_set hB2.1.2.2.2.2 hB2.2.2 ho s0 s1 hv (fun k hk => ca k (by intro q; rw [q] at hk; revert hk; decide)) (by rw [ca 8 (by decide)]) (fun i _ => by rw [ca 26 (by decide)]) (fun i => by
      by_cases z : i = C 29 o + s
      · rw [if_pos z, z, ux_s]
      · rw [if_neg z, ux_i _ _ _ z]) (fun k hk => ra k (by intro q; rw [q] at hk; revert hk; decide)) (fun i _ => by rw [ra 0 (by decide)]) (fun i => by
      by_cases z : i = R2 21 o + s
      · rw [if_pos z, z, ux_s]
      · rw [if_neg z, ux_i _ _ _ z])
  have ob := fun R2 (hB2 : RB C R2) => ((hB2.2.2.2.2.2.2.2.2.2.2.2.1 o ho.1 ho.2.1).2 ho.2.2).2.2.2.2.2.2.2.2.2 s s0 s1
  refine p_writeSlot hY hH hJ ho s0 s1 wb fun C1 hs => ?_
  refine hq _ (FW_of (fun k a _ => ca k a) hs) (ux_s _ _ _ _) ?_ (fun i => ?_) ?_ (fun R2 hB2 hJ2 Qr hr0 => ?_)
  · have ra : ∀ k, k ≠ 23 → ux_ R 23 (R 21 o + s) v k = R k := fun k hk => funext fun i => ux_c _ _ _ _ hk
    have hr := stX_ok (R := rmR (ux_ R 23 (R 21 o + s) v) o s (C 30 (C 29 o + s))) (n := R 0 44) (D := dC C o s (C 30 (C 29 o + s)) v) (o := o) (b := C 30 (C 29 o + s)) (v := v) (fun w w0 w1 wn => by rw [rmR_o _ _ _ _ (by decide) (by omega), ra 31 (by decide)]; exact wt_n hY hJ.2.2.2 w w0 w1 wn)
    obtain ⟨g1, g2, -⟩ := rel_w hB hJ (hH2 R hB) (fun k a _ => ca k a) (fun k _ a => ra k a) (Or.inr ⟨ho, s0, s1, rfl, (ob R hB).2.2⟩) hs hr (fun _ _ _ => Iff.rfl)
    exact ⟨_, g1, g2⟩
  · rw [ux_c _ _ _ _ (by decide), hs.1 30 (by decide) (by decide), rmC_o _ _ _ (by omega)]
    by_cases z : i = C 29 o + s
    · rw [if_pos z, z, ux_s]
    · rw [if_neg z, ux_i _ _ _ z]
  · funext i
    rw [ux_c _ _ _ _ (by decide), hs.1 32 (by decide) (by decide), rmC_o _ _ _ (by omega), ca 32 (by decide)]
  · have hY2 := hB2.1.2.2.2.2
    have ra : ∀ k, k ≠ 23 → ux_ R2 23 (R2 21 o + s) v k = R2 k := fun k hk => funext fun i => ux_c _ _ _ _ hk
    have eb : R2 23 (R2 21 o + s) = C 30 (C 29 o + s) := (ob R2 hB2).1.symm
    refine p_R_write hY2 hB2.2.2 hJ2 ho s0 s1 (by rw [← hJ2.1]; exact wb) fun g hg R1 hr => ?_
    rw [eb] at hr
    have hD : ∀ w, 0 ≤ w → w < C 36 7 → (dC C o s (C 30 (C 29 o + s)) v w ↔ dR R2 g (C 30 (C 29 o + s)) v w) := by
      intro w w0 w1
      rcases hg with ⟨t0, t1, hf⟩ | ⟨t0, rfl⟩
      · exact d_eq hY2 hJ2.2.2.2 t0 t1 hf w0 w1
      · exact d_eqA t0
    obtain ⟨g1, g2, g3, g4, g5, g6⟩ := rel_w hB2 hJ2 (hH2 R2 hB2) (fun k a _ => ca k a) (fun k _ a => ra k a) (Or.inr ⟨ho, s0, s1, rfl, (ob R2 hB2).2.2⟩) hs hr hD
    exact hr0 _ g1 g2 ⟨g5, g6⟩
theorem s_writeS3 {g v : Int} {C R : MM} {Q : Int → MM → Prop} (hB : RB C R) (hJ : Rjn C R) (hg : ∃ c k, 0 ≤ c ∧ c < C 8 0 ∧ 0 ≤ k ∧ k < C 14 c ∧ g = 6 * c + k) (hgs : C 21 g ≠ 0) (hv : C 19 g = 5 → vL C v (C 20 g)) (wb : C 36 1 < 2147483647) (hq : ∀ C', FWc C C' → C' 36 1 = C 36 1 + 1 → (∃ Rc, RB C' Rc ∧ Rjn C' Rc) → C' 30 = C 30 → (∀ i, C' 32 i = if i = g then v else C 32 i) → WS C C' (-1) g v → Q (C 36 1) C') : w_X3_writeStatic Q g v C := by
  have hY := hB.1.2.2.2.2
  have hH := hB.2.2
  have h16 := hY.2.2.1
  obtain ⟨c, k, c0, c1, k0, k1, rfl⟩ := hg
  have k6 := (hY.2.2.2.1 c c0 c1).1.2.2.2.2.2.2.2.2.2.1
  have h14 := hH.2.2.2.2.2.2.2.2.2.2.2.2.2
  have ca : ∀ q, q ≠ 32 → ux_ C 32 (6 * c + k) v q = C q := fun q hk => funext fun i => ux_c _ _ _ _ hk
  have hH2 : ∀ R2, RB C R2 → Rhp (ux_ C 32 (6 * c + k) v) (ux_ R2 6 (6 * c + k) v) := fun R2 hB2 => by
    have ra : ∀ q, q ≠ 6 → ux_ R2 6 (6 * c + k) v q = R2 q := fun q hk => funext fun i => ux_c _ _ _ _ hk
    exact hp_setS hB2.2.2 ⟨c, k, c0, c1, k0, k1, rfl, hv⟩ (fun k hk => ca k (by intro q; rw [q] at hk; revert hk; decide)) (by rw [ca 8 (by decide)]) (fun i _ => by rw [ca 26 (by decide)]) (fun i => by
      by_cases z : i = 6 * c + k
      · rw [if_pos z, z, ux_s]
      · rw [if_neg z, ux_i _ _ _ z]) (fun x x0 x1 => (hY.2.2.2.1 x x0 x1).1.2.2.2.2.2.2.2.2.2.1) (fun k hk => ra k (by intro q; rw [q] at hk; revert hk; decide)) (fun i _ => by rw [ra 0 (by decide)]) (fun i => by
      by_cases z : i = 6 * c + k
      · rw [if_pos z, z, ux_s]
      · rw [if_neg z, ux_i _ _ _ z])
  refine p_writeStatic hY hJ (by omega) (by omega) wb fun C1 hs => ?_
  refine hq _ (FW_of (fun k _ a => ca k a) hs) (ux_s _ _ _ _) ?_ ?_ (fun i => ?_) (fun R2 hB2 hJ2 Qr hr0 => ?_)
  · have ra : ∀ q, q ≠ 6 → ux_ R 6 (6 * c + k) v q = R q := fun q hk => funext fun i => ux_c _ _ _ _ hk
    have hr := stX_ok (R := rmR (ux_ R 6 (6 * c + k) v) (-1) (6 * c + k) (C 32 (6 * c + k))) (n := R 0 44) (D := dS C (6 * c + k) (C 32 (6 * c + k)) v) (o := -1) (b := C 32 (6 * c + k)) (v := v) (fun w w0 w1 wn => by rw [rmR_o _ _ _ _ (by decide) (by omega), ra 31 (by decide)]; exact wt_n hY hJ.2.2.2 w w0 w1 wn)
    obtain ⟨g1, g2, -⟩ := rel_w hB hJ (hH2 R hB) (fun k _ a => ca k a) (fun k a _ => ra k a) (Or.inl ⟨rfl, rfl, c, k, c0, c1, k0, k1, rfl, fun q => h14 c k c0 c1 k0 k1 hgs q⟩) hs hr (fun _ _ _ => Iff.rfl)
    exact ⟨_, g1, g2⟩
  · funext i
    rw [ux_c _ _ _ _ (by decide), hs.1 30 (by decide) (by decide), rmC_o _ _ _ (by omega), ca 30 (by decide)]
  · rw [ux_c _ _ _ _ (by decide), hs.1 32 (by decide) (by decide), rmC_o _ _ _ (by omega)]
    by_cases z : i = 6 * c + k
    · rw [if_pos z, z, ux_s]
    · rw [if_neg z, ux_i _ _ _ z]
  · have hY2 := hB2.1.2.2.2.2
    have h13 := hB2.2.2.2.2.2.2.2.2.2.2.2.2.2.2.1
    have ra : ∀ q, q ≠ 6 → ux_ R2 6 (6 * c + k) v q = R2 q := fun q hk => funext fun i => ux_c _ _ _ _ hk
    have eb : R2 6 (6 * c + k) = C 32 (6 * c + k) := (h13 _ (by omega) (by omega)).symm
    refine p_R_writeS hY2 hJ2 (by omega) (by omega) (by rw [← hJ2.1]; exact wb) fun R1 hr => ?_
    rw [eb] at hr
    obtain ⟨g1, g2, g3, g4, g5, g6⟩ := rel_w hB2 hJ2 (hH2 R2 hB2) (fun k _ a => ca k a) (fun k a _ => ra k a) (Or.inl ⟨rfl, rfl, c, k, c0, c1, k0, k1, rfl, fun q => h14 c k c0 c1 k0 k1 hgs q⟩) hs hr (fun w w0 w1 => d_eqS hY2 hJ2.2.2.2 (by omega) w0 w1)
    exact hr0 _ g1 g2 ⟨g5, g6⟩
