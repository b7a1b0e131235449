/-! picture, on both sides -/
theorem p_allSizes {Q : Int → MM → Prop} {C R : MM} {c : Nat} (hY : Rty C R) (hw : PW C c) (hq : Q (sk (fun _ => True) (szt C c) (C c 0).toNat) C) : w_X5_allSizes c Q C := by
  have n0 := hw.1
  have n4 := hw.2.1
  unfold w_X5_allSizes w_X5_allSizes_b4
  refine loop3 _ (fun (s t : Int) M1 => C = M1 ∧ 0 ≤ t ∧ t ≤ C c 0 ∧ s = sk (fun _ => True) (szt C c) t.toNat) (fun (_ t : Int) _ => (C c 0 - t).toNat) ?_ _ _ _ ⟨rfl, by omega, n0, rfl⟩
  rintro s t _ f ⟨rfl, t0, t1, es⟩ ih
  unfold wb_X5_allSizes_b4
  intro v1 e1 _
  subst e1
  refine ⟨fun z => by rw [es, show t = C c 0 from by omega]; exact hq, fun z => ⟨t0, by omega, fun v3 e3 _ => ⟨t0, by omega, fun v4 e4 _ => ?_⟩⟩⟩
  obtain ⟨-, -, a3, -, a5, a6, -⟩ := hw.2.2.2.1 t t0 (by omega)
  have sb := szt_bd hY hw t0 (t := t) (by omega)
  have s3 := sk_bd (P := fun _ => True) (w := szt C c) t.toNat (fun u a b => szt_bd hY hw a (by omega))
  have n3 := (sk_s (P := fun _ => True) (w := szt C c) t.toNat).1 trivial
  rw [show ((t.toNat : Nat) : Int) = t from by omega] at n3
  rw [e3, e4]
  refine p_sizeOf hY a3 a5 a6 fun _ => ?_
  have e' : s + sz C (C (c + 2) t) (C (c + 3) t) = sk (fun _ => True) (szt C c) (t.toNat + 1) := by rw [n3, es]; rfl
  rw [e']
  exact ⟨by unfold ri_; omega, by unfold ri_; omega, ih _ _ _ ⟨rfl, by omega, by omega, by rw [show (t + 1).toNat = t.toNat + 1 from by omega]⟩ (by omega)⟩
theorem p_doubled {Q : Int → MM → Prop} {C R R0 : MM} {c : Nat} {p n : Int} (hY : Rty C R0) (hw : PW C c) (g : GPf C c (fun t => R 50 (400 * p + t)) n) (tab : ∀ t, 0 ≤ t → t < C c 0 → C (c + 26) t = R 50 (400 * p + t)) (hq : Q (sk (dbS C R c p) (szt C c) (C c 0).toNat) C) : w_X5_doubledSizes_b15 c Q 0 0 0 C := by
  have n0 := hw.1
  have n4 := hw.2.1
  unfold w_X5_doubledSizes_b15
  refine loop4 _ (fun (s k t : Int) M1 => C = M1 ∧ 0 ≤ t ∧ t ≤ C c 0 ∧ s = sk (dbS C R c p) (szt C c) t.toNat ∧ k = rk (rpG C c) t.toNat) (fun (_ _ t : Int) _ => (C c 0 - t).toNat) ?_ _ _ _ _ ⟨rfl, by omega, n0, rfl, rfl⟩
  rintro s k t _ f ⟨rfl, t0, t1, es, ek⟩ ih
  unfold wb_X5_doubledSizes_b15
  intro v1 e1 _
  subst e1
  refine ⟨fun z => by rw [es, show t = C c 0 from by omega]; exact hq, fun z => ⟨t0, by omega, fun v3 e3 _ => ?_⟩⟩
  have tt : ((t.toNat : Nat) : Int) = t := by omega
  obtain ⟨-, -, a3, -, a5, a6, -⟩ := hw.2.2.2.1 t t0 (by omega)
  have sb := szt_bd hY hw t0 (t := t) (by omega)
  have s4 := sk_bd (P := dbS C R c p) (w := szt C c) t.toNat (fun u a b => szt_bd hY hw a (by omega))
  have k4 := rk_bd (rpG C c) t.toNat
  have ns := sk_s (P := dbS C R c p) (w := szt C c) t.toNat
  have nk := rk_s (P := rpG C c) t.toNat
  rw [tt] at ns nk
  have et := tab t t0 (by omega)
  have now := gp_now g t0 (t := t) (by omega)
  have nxt : ∀ s' k', s' = sk (dbS C R c p) (szt C c) (t.toNat + 1) → k' = rk (rpG C c) (t.toNat + 1) → w_X5_doubledSizes_b79 c Q f s' k' t C := fun s' k' q1 q2 => by
    unfold w_X5_doubledSizes_b79
    exact ⟨by unfold ri_; omega, ih _ _ _ _ ⟨rfl, by omega, by omega, by rw [q1, show (t + 1).toNat = t.toNat + 1 from by omega], by rw [q2, show (t + 1).toNat = t.toNat + 1 from by omega]⟩ (by omega)⟩
  refine ⟨fun z2 => ⟨t0, by omega, fun v5 e5 _ => ?_⟩, fun z2 => ?_⟩
  · have hn : ¬ rpG C c t := fun q => z2 (by rw [e3, et, ek]; exact now.mpr q)
    refine ⟨fun z3 => nxt _ _ ?_ (by rw [nk.2 hn, ek]), fun z3 => ⟨t0, by omega, fun v7 e7 _ => ⟨t0, by omega, fun v8 e8 _ => ?_⟩⟩⟩
    · rw [ns.2 fun q => q.1 (by rw [← et, ← e5]; exact z3), es]
    · rw [e7, e8]
      have hd : dbS C R c p t := ⟨by rw [← et, ← e5]; exact z3, hn⟩
      refine p_sizeOf hY a3 a5 a6 fun _ => ⟨?_, nxt _ _ ?_ (by rw [nk.2 hn, ek])⟩
      · have : sz C (C (c + 2) t) (C (c + 3) t) = szt C c t := rfl
        rw [this]; unfold ri_; omega
      · rw [ns.1 hd, es]; rfl
  · have hp : rpG C c t := now.mp (by show R 50 (400 * p + t) = _; rw [← et, ← e3, z2, ek])
    exact ⟨by unfold ri_; omega, nxt _ _ (by rw [ns.2 fun q => q.2 hp, es]) (by rw [nk.1 hp, ek])⟩
theorem p_countPic {Q : Int → MM → Prop} {C : MM} {c : Nat} {w : Int} (hw : PW C c) (hq : Q (rk (tpS C c w) (C c 0).toNat) C) : w_X5_countOf c Q w C := by
  have n0 := hw.1
  have n4 := hw.2.1
  unfold w_X5_countOf w_X5_countOf_b4
  refine loop4 _ (fun (a s t : Int) M1 => w = a ∧ C = M1 ∧ 0 ≤ t ∧ t ≤ C c 0 ∧ s = rk (tpS C c w) t.toNat) (fun (_ _ t : Int) _ => (C c 0 - t).toNat) ?_ _ _ _ _ ⟨rfl, rfl, by omega, n0, rfl⟩
  rintro _ s t _ f ⟨rfl, rfl, t0, t1, es⟩ ih
  unfold wb_X5_countOf_b4
  intro v1 e1 _
  subst e1
  refine ⟨fun z => by rw [es, show t = C c 0 from by omega]; exact hq, fun z => ⟨t0, by omega, fun v3 e3 _ => ?_⟩⟩
  have k4 := rk_bd (tpS C c w) t.toNat
  have nk := rk_s (P := tpS C c w) t.toNat
  rw [show ((t.toNat : Nat) : Int) = t from by omega] at nk
  have nxt : ∀ s', s' = rk (tpS C c w) (t.toNat + 1) → w_X5_countOf_b25 c Q f w s' t C := fun s' q1 => by
    unfold w_X5_countOf_b25
    exact ⟨by unfold ri_; omega, ih _ _ _ _ ⟨rfl, rfl, by omega, by omega, by rw [q1, show (t + 1).toNat = t.toNat + 1 from by omega]⟩ (by omega)⟩
  exact ⟨fun q => nxt _ (by rw [nk.2 (fun y => q (by rw [e3]; exact y)), es]), fun q => ⟨by unfold ri_; omega, nxt _ (by rw [nk.1 (by rw [e3] at q; exact q), es])⟩⟩
theorem p_countHeirs {Q : Int → MM → Prop} {C R0 : MM} {c : Nat} {w : Int} (hY : Rty C R0) (hw : PW C c) (w0 : 200 ≤ w) (w1 : w - 200 < C 8 0) (hq : Q (rk (hrS C c w) (C c 0).toNat) C) : w_X5_countHeirs c Q (w - 200) C := by
  have n0 := hw.1
  have n4 := hw.2.1
  have y16 := hY.2.2.1
  unfold w_X5_countHeirs w_X5_countHeirs_b5
  refine loop4 _ (fun (a s t : Int) M1 => w - 200 = a ∧ C = M1 ∧ 0 ≤ t ∧ t ≤ C c 0 ∧ s = rk (hrS C c w) t.toNat) (fun (_ _ t : Int) _ => (C c 0 - t).toNat) ?_ _ _ _ _ ⟨rfl, rfl, by omega, n0, rfl⟩
  rintro _ s t _ f ⟨rfl, rfl, t0, t1, es⟩ ih
  unfold wb_X5_countHeirs_b5
  intro v1 e1 _
  subst e1
  refine ⟨fun z => by rw [es, show t = C c 0 from by omega]; exact hq, fun z => ⟨t0, by omega, fun v3 e3 _ => ?_⟩⟩
  obtain ⟨-, -, a3, -⟩ := hw.2.2.2.1 t t0 (by omega)
  unfold vT at a3
  have k4 := rk_bd (hrS C c w) t.toNat
  have nk := rk_s (P := hrS C c w) t.toNat
  rw [show ((t.toNat : Nat) : Int) = t from by omega] at nk
  have nxt : ∀ s', s' = rk (hrS C c w) (t.toNat + 1) → w_X5_countHeirs_b45 c Q f (w - 200) s' t C := fun s' q1 => by
    unfold w_X5_countHeirs_b45
    exact ⟨by unfold ri_; omega, ih _ _ _ _ ⟨rfl, rfl, by omega, by omega, by rw [q1, show (t + 1).toNat = t.toNat + 1 from by omega]⟩ (by omega)⟩
  unfold w_X10_isArray
  refine ⟨fun q _ => ⟨fun y => absurd rfl y, fun _ => ⟨t0, by omega, fun v7 e7 _ => ?_⟩⟩, fun q _ => ⟨fun _ => nxt _ (by rw [nk.2 (fun y => q (by rw [e3]; exact y.1)), es]), fun y => absurd y (by decide)⟩⟩
  rw [e3] at q
  rw [e7]
  exact p_heir (pOk_of hY) (by omega) (by omega) (by omega) (fun hh _ => ⟨fun y => absurd y (by decide), fun _ => ⟨by unfold ri_; omega, nxt _ (by rw [nk.1 ⟨q, w0, w1, hh⟩, es])⟩⟩) (fun hh _ => ⟨fun _ => nxt _ (by rw [nk.2 (fun y => hh y.2.2.2), es]), fun y => absurd rfl y⟩)
theorem sh_sk {C M R0 : MM} {c : Nat} (hY : Rty C R0) (hc : 25 < c) (hw : PW C c) (h : SHf C M c) {P P' : Int → Prop} (hp : ∀ t, 0 ≤ t → t < C c 0 → (P t ↔ P' t)) : sk P (szt M c) (C c 0).toNat = sk P' (szt C c) (C c 0).toNat := by
  have n0 := hw.1
  obtain ⟨g, -, -⟩ := gr_eq hY hw (SHf_ty hc h) (by rw [h c (by omega)]) (by rw [h c (by omega)]) (fun q a b => h q (by omega))
  exact sk_c _ fun t a b => ⟨hp t a (by omega), (g t a (by omega)).2.1⟩
theorem gp_same {C M R0 : MM} {c : Nat} (hY : Rty C R0) (hc : 25 < c) (hw : PW C c) (h : SHf C M c) {t : Int} (t0 : 0 ≤ t) (t1 : t < C c 0) : rpG M c t ↔ rpG C c t := by
  have e : ∀ q, c < q → q ≤ c + 12 → M q = C q := fun q a b => h q (by omega)
  have ec : M c 0 = C c 0 := by rw [h c (by omega)]
  obtain ⟨hp, -, -⟩ := gr_eq hY hw (SHf_ty hc h) ec (by rw [h c (by omega)]) e
  have edb : ∀ t u, 0 ≤ t → t < C c 0 → (db M c t u ↔ db C c t u) := fun t u t0 t1 => by
    unfold db
    rw [(hp t t0 t1).1, e (c + 2) (by omega) (by omega), e (c + 3) (by omega) (by omega), e (c + 4) (by omega) (by omega), e (c + 9) (by omega) (by omega)]
  unfold rpG
  rw [ec]
  constructor
  · rintro ⟨a, u, b1, b2, b3⟩
    exact ⟨fun v v0 v1 q => a v v0 v1 ((edb v t v0 (by omega)).mpr q), u, b1, b2, (edb t u t0 t1).mp b3⟩
  · rintro ⟨a, u, b1, b2, b3⟩
    exact ⟨fun v v0 v1 q => a v v0 v1 ((edb v t v0 (by omega)).mp q), u, b1, b2, (edb t u t0 t1).mpr b3⟩
set_option maxHeartbeats 1000000 in
theorem t_picture {C R : MM} {p w : Int} (gw : ri_ w) (h : RD C R) : w_X11_picture (fun r C' => w_X12_picture (fun r' R' => r = r' ∧ R' 0 0 = 0 ∧ RD C' R' ∧ FPc C C' ∧ FPr R R') p w R) p w C := by
  have h' := h
  obtain ⟨hB, hJ, cs, hcs⟩ := h
  have hY := hB.1.2.2.2.2
  have gw' := gw
  unfold ri_ at gw
  unfold w_X11_picture
  refine p_isPic (fun p0 p4 _ => ⟨fun _ => ?_, fun q => absurd q (by decide)⟩) (fun hn _ => ⟨fun q => absurd rfl q, fun _ => ?_⟩)
  · have hc := hcs.1 p p0 p4
    have hP := hc.2
    have hw := hc.2.1
    have n0 := hw.1
    have n4 := hw.2.1
    have ip := hcs.2.2.2.1 p p0 (by omega)
    have cc : 25 < cs p := by unfold isP at ip; omega
    have hY0 := (RB_00 hB 0).1.2.2.2.2
    have y16 := hY.2.2.1
    have hb0 := pic_00 0 hc.2.2.1
    have ht0 : Rtb C (ux_ R 0 0 0) (cs p) p := by
      have ht := hc.2.2.2.1
      unfold Rtb at ht ⊢
      have g : ∀ k i, k ≠ 0 → ux_ R 0 0 0 k i = R k i := fun k i hk => ux_c _ _ _ _ hk
      simp only [g 43 _ (by decide), g 44 _ (by decide), g 45 _ (by decide), g 46 _ (by decide), g 47 _ (by decide), g 48 _ (by decide), g 49 _ (by decide), g 50 _ (by decide), g 51 _ (by decide), g 52 _ (by decide), g 53 _ (by decide), g 54 _ (by decide), g 59 _ (by decide)]
      exact ht
    have go : ∀ Q : Int → MM → Prop, w_X12_picture_b32 Q p w 0 0 (-1) 0 0 0 (ux_ R 0 0 0) → w_X12_picture Q p w R := fun Q hq => by
      unfold w_X12_picture
      intro M1 e1
      subst e1
      exact p_R_isPic (fun _ _ _ => ⟨fun _ => hq, fun q => absurd q (by decide)⟩) (fun q => absurd ⟨p0, p4⟩ q)
    have fin : ∀ r C', SHf C C' (cs p) → Rpic C' R (cs p) p → (w = 0 → r = C (cs p) 0) → (w = 1 → r = R 53 p) → (w = 2 → r = R 54 p) → (w = 3 → r = sk (fun _ => True) (szt C (cs p)) (C (cs p) 0).toNat) → (w = 4 → r = sk (dbS C R (cs p) p) (szt C (cs p)) (C (cs p) 0).toNat) → (w = 5 → r = dpl C (cs p) (C (cs p) 0)) → (100 ≤ w → w < 200 → w - 100 < C 8 0 → r = rk (tpS C (cs p) (w - 100)) (C (cs p) 0).toNat) → (200 ≤ w → w - 200 < C 8 0 → r = rk (hrS C (cs p) w) (C (cs p) 0).toNat) → ((w < 0 ∨ (5 < w ∧ w < 100) ∨ (100 ≤ w ∧ w < 200 ∧ C 8 0 ≤ w - 100) ∨ (200 ≤ w ∧ C 8 0 ≤ w - 200)) → r = -1) → w_X12_picture (fun r' R' => r = r' ∧ R' 0 0 = 0 ∧ RD C' R' ∧ FPc C C' ∧ FPr R R') p w R := fun r C' hS hP' k0 k1 k2 k3 k4 k5 k6 k7 k8 => by
      obtain ⟨y1, y2⟩ := RD_sh hB hJ hcs p0 p4 hS hP'
      have rest : ((ux_ R 0 0 0) 0 0 = 0) ∧ RD C' (ux_ R 0 0 0) ∧ FPc C C' ∧ FPr R (ux_ R 0 0 0) := ⟨ux_s _ _ _ _, RD_00 y1 0, y2, FPr_00 R 0⟩
      have eD : dbS C (ux_ R 0 0 0) (cs p) p = dbS C R (cs p) p := by
        funext t; unfold dbS; rw [ux_c _ _ _ _ (by decide)]
      refine go _ (p_R_pic hY0 hw hb0 ht0 p0 (by omega) gw' (fun z => ⟨k0 z, rest⟩) (fun z => ⟨?_, rest⟩) (fun z => ⟨?_, rest⟩) (fun z => ⟨k3 z, rest⟩) (fun z => ⟨by rw [eD]; exact k4 z, rest⟩) (fun z => ⟨k5 z, rest⟩) (fun a b d => ⟨k6 a b d, rest⟩) (fun a b => ⟨k7 a b, rest⟩) (fun a => ⟨k8 a, rest⟩))
      · rw [ux_c _ _ _ _ (by decide)]; exact k1 z
      · rw [ux_c _ _ _ _ (by decide)]; exact k2 z
    have sr : SHf C C (cs p) := fun _ _ => rfl
    refine ⟨p0, p4, cs p, hc.1, ip, fun z => ?_, fun z => ?_, fun z => ?_, fun z => ?_, fun z => ?_, fun z => ?_, fun z => ?_⟩
    · intro v6 e6 _
      exact fin v6 C sr hP (fun _ => e6) (fun q => by omega) (fun q => by omega) (fun q => by omega) (fun q => by omega) (fun q => by omega) (fun q => by omega) (fun q => by omega) (fun q => by omega)
    · unfold w_X5_ringCount
      refine nd_R hY cc hP fun M hS hP' e9 _ => fun v e _ _ => fin v M hS hP' (fun q => by omega) (fun q => by rw [e]; exact e9) (fun q => by omega) (fun q => by omega) (fun q => by omega) (fun q => by omega) (fun q => by omega) (fun q => by omega) (fun q => by omega)
    · unfold w_X5_twinCount
      refine nd_T hY cc hP fun M hS hP' e9 _ => fun v e _ _ => fin v M hS hP' (fun q => by omega) (fun q => by omega) (fun q => by rw [e]; exact e9) (fun q => by omega) (fun q => by omega) (fun q => by omega) (fun q => by omega) (fun q => by omega) (fun q => by omega)
    · exact p_allSizes hY hw fun _ => fin _ C sr hP (fun q => by omega) (fun q => by omega) (fun q => by omega) (fun _ => rfl) (fun q => by omega) (fun q => by omega) (fun q => by omega) (fun q => by omega) (fun q => by omega)
    · unfold w_X5_doubledSizes
      refine nd_T hY cc hP fun M hS hP' e9 tab => ?_
      have e0 : M (cs p) 0 = C (cs p) 0 := by rw [hS (cs p) (by omega)]
      refine p_doubled (SHf_Y cc hS hY) hP'.1 hP'.2.2.1.2.2.2.2.2.2.2 (fun t a b => tab t a (by omega)) fun _ => fin _ M hS hP' (fun q => by omega) (fun q => by omega) (fun q => by omega) (fun q => by omega) (fun _ => ?_) (fun q => by omega) (fun q => by omega) (fun q => by omega) (fun q => by omega)
      rw [e0]
      refine sh_sk hY cc hw hS fun t a b => ?_
      unfold dbS
      rw [gp_same hY cc hw hS a b]
    · intro v20 e20 _
      subst e20
      refine ⟨fun y v22 e22 _ => ?_, fun y => ?_⟩
      · subst e22
        refine ⟨by unfold ri_; omega, by omega, by omega, fun v24 e24 _ => fin v24 C sr hP (fun q => by omega) (fun q => by omega) (fun q => by omega) (fun q => by omega) (fun q => by omega) (fun _ => ?_) (fun q => by omega) (fun q => by omega) (fun q => by omega)⟩
        unfold dpl; rw [if_neg y]; exact e24
      · exact fin (-1) C sr hP (fun q => by omega) (fun q => by omega) (fun q => by omega) (fun q => by omega) (fun q => by omega) (fun _ => by unfold dpl; rw [if_pos y]) (fun q => by omega) (fun q => by omega) (fun q => by omega)
    · have none : (w < 0 ∨ (5 < w ∧ w < 100) ∨ (100 ≤ w ∧ w < 200 ∧ C 8 0 ≤ w - 100) ∨ (200 ≤ w ∧ C 8 0 ≤ w - 200)) → w_X12_picture (fun r' R' => -1 = r' ∧ R' 0 0 = 0 ∧ RD C R' ∧ FPc C C ∧ FPr R R') p w R := fun k => fin (-1) C sr hP (fun q => by omega) (fun q => by omega) (fun q => by omega) (fun q => by omega) (fun q => by omega) (fun q => by omega) (fun _ _ _ => by omega) (fun _ _ => by omega) (fun _ => rfl)
      refine ⟨fun z1 => ⟨fun z2 => none (by omega), fun z2 => ⟨by unfold ri_; omega, p_isClass (fun a b _ => ⟨fun q => absurd q (by decide), fun _ => ⟨by unfold ri_; omega, p_countPic hw fun _ => ?_⟩⟩) (fun a _ => ⟨fun _ => none (by omega), fun q => absurd rfl q⟩)⟩⟩, fun z1 => ⟨by unfold ri_; omega, p_isClass (fun a b _ => ⟨fun q => absurd q (by decide), fun _ => ⟨by unfold ri_; omega, p_countHeirs hY hw (by omega) b fun _ => ?_⟩⟩) (fun a _ => ⟨fun _ => none (by omega), fun q => absurd rfl q⟩)⟩⟩
      · exact fin _ C sr hP (fun q => by omega) (fun q => by omega) (fun q => by omega) (fun q => by omega) (fun q => by omega) (fun q => by omega) (fun _ _ _ => rfl) (fun _ _ => by omega) (fun _ => by omega)
      · exact fin _ C sr hP (fun q => by omega) (fun q => by omega) (fun q => by omega) (fun q => by omega) (fun q => by omega) (fun q => by omega) (fun _ _ => by omega) (fun _ _ => rfl) (fun _ => by omega)
  · unfold w_X12_picture
    intro M1 e1
    subst e1
    exact p_R_isPic (fun a b => absurd ⟨a, b⟩ hn) (fun _ _ => ⟨fun q => absurd rfl q, fun _ => ⟨rfl, ux_s _ _ _ _, RD_00 h' 0, FPc_r C, FPr_00 R 0⟩⟩)
