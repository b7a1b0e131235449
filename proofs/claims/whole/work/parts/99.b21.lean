/-! lost, whole -/
theorem rc_S {C : MM} {c : Nat} (hw : PW C c) {S S' : Int → Prop} (h : ∀ t, 0 ≤ t → t < C c 0 → (S t → S' t)) (t : Int) (ht : rc (pE C c) (pZ C c) S t) : rc (pE C c) (pZ C c) S' t := rc_i (P := fun x => rc (pE C c) (pZ C c) S' x) (fun x a b => rc_z a (h x (pZ_in hw a).1 (pZ_in hw a).2 b)) (fun _ x q e s => rc_e q e (h x (pE_in hw e).1 (pE_in hw e).2 s)) t ht
theorem vis_S {C : MM} {c : Nat} (hw : PW C c) {S S' : Int → Prop} (h : ∀ t, 0 ≤ t → t < C c 0 → (S t ↔ S' t)) (t : Int) : t ∈ vis C c S (beg C c S (-1)) ↔ t ∈ vis C c S' (beg C c S' (-1)) := by
  rw [vis_iff hw (Or.inl rfl), vis_iff hw (Or.inl rfl)]
  have : zb C c (-1) = pZ C c := by
    funext x
    exact propext ⟨fun q => by rcases q with q | q; exact q.2; exact absurd rfl q.1, fun q => Or.inl ⟨rfl, q⟩⟩
  rw [this]
  exact ⟨rc_S hw (fun t a b => (h t a b).mp) t, rc_S hw (fun t a b => (h t a b).mpr) t⟩
set_option maxHeartbeats 400000 in
theorem p_R_lost43 {Q : Int → MM → Prop} {C A M : MM} {c : Nat} {p : Int} {V : List Int} (n0 : 0 ≤ C c 0) (n4 : C c 0 ≤ 400) (p0 : 0 ≤ p) (p5 : p < 5) (h38 : A 38 p = C c 0) (hv : VR A M (C c 0) V) (hq : ∀ M', (∀ k, k ≠ 51 → k ≠ 52 → M' k = M k) → (∀ i, ¬ (400 * p ≤ i ∧ i < 400 * p + 400) → M' 51 i = A 51 i) → (∀ i, i ≠ p → M' 52 i = A 52 i) → M' 52 p = ctV V (C c 0).toNat → lsT M' 51 (400 * p) V (C c 0) → Q (ctV V (C c 0).toNat) M') : ∀ M6, M6 = ux_ M 52 p 0 → w_X12_lost_b43 Q p 0 M6 := by
  intro M6 e6
  refine loop3 _ (fun (a t : Int) M1 => p = a ∧ 0 ≤ t ∧ t ≤ C c 0 ∧ (∀ k, k ≠ 51 → k ≠ 52 → M1 k = M k) ∧ (∀ i, ¬ (400 * p ≤ i ∧ i < 400 * p + 400) → M1 51 i = A 51 i) ∧ (∀ i, i ≠ p → M1 52 i = A 52 i) ∧ M1 52 p = ctV V t.toNat ∧ lsT M1 51 (400 * p) V t) (fun _ (t : Int) _ => (C c 0 - t).toNat) ?_ _ _ _ ⟨rfl, by omega, n0, fun k a b => funext fun i => by rw [e6, ux_c _ _ _ _ b], fun i _ => by rw [e6, ux_c _ _ _ _ (by decide), hv.1 51 (by decide)], fun i hi => by rw [e6, ux_i _ _ _ hi, hv.1 52 (by decide)], by rw [e6, ux_s]; rfl, fun u a b => by omega⟩
  rintro _ t M1 f ⟨rfl, t0, t1, k1, k2, k3, k4, k5⟩ ih
  have tt : ((t.toNat : Nat) : Int) = t := by omega
  have cb := ctV_bd V t.toNat
  have es : ctV V (t.toNat + 1) = ctV V t.toNat + (if t ∈ V then 0 else 1) := by
    show ctV V t.toNat + (if ((t.toNat : Nat) : Int) ∈ V then 0 else 1) = _
    rw [tt]
  unfold wb_X12_lost_b43
  refine ⟨p0, p5, fun v1 e1 _ => ?_⟩
  rw [k1 38 (by decide) (by decide), hv.1 38 (by decide), h38] at e1
  subst e1
  refine ⟨fun z => ⟨p0, p5, fun v3 e3 _ => ?_⟩, fun z => ⟨t0, by omega, fun v4 e4 _ => ?_⟩⟩
  · have et : t = C c 0 := by omega
    rw [et] at k4 k5
    rw [e3, k4]
    exact hq M1 k1 k2 k3 k4 k5
  · rw [k1 60 (by decide) (by decide), hv.2.2.2.2.2 t t0 (by omega)] at e4
    refine ⟨fun z4 => ⟨p0, p5, fun v6 e6 _ => ?_⟩, fun z4 => ?_⟩
    · have hno : t ∉ V := fun y => by rw [if_pos y] at e4; omega
      rw [if_neg hno] at es
      rw [k4] at e6
      rw [e6]
      refine p_at p0 p5 cb.1 (by omega) fun _ => ⟨by omega, by omega, fun M9 e9 => ⟨p0, p5, fun v10 e10 _ => ?_⟩⟩
      rw [e9, ux_c _ _ _ _ (by decide), k4] at e10
      rw [e10]
      refine ⟨by unfold ri_; omega, p0, p5, fun M12 e12 => ?_⟩
      unfold w_X12_lost_b92
      refine ⟨by unfold ri_; omega, ih _ _ _ ⟨rfl, by omega, by omega, fun k a b => funext fun i => by rw [e12, ux_c _ _ _ _ b, e9, ux_c _ _ _ _ a, k1 k a b], fun i hi => by rw [e12, ux_c _ _ _ _ (by decide), e9, ux_i _ _ _ (by omega), k2 i hi], fun i hi => by rw [e12, ux_i _ _ _ hi, e9, ux_c _ _ _ _ (by decide), k3 i hi], by rw [e12, ux_s, show (t + 1).toNat = t.toNat + 1 from by omega, es], ?_⟩ (by omega)⟩
      have := lsT_put k5 t0 hno
      intro u u0 u1 hu
      rw [e12, ux_c _ _ _ _ (by decide), e9]
      exact this u u0 u1 hu
    · have hin : t ∈ V := by
        by_cases y : t ∈ V
        · exact y
        · rw [if_neg y] at e4; exact absurd e4 z4
      rw [if_pos hin] at es
      unfold w_X12_lost_b92
      exact ⟨by unfold ri_; omega, ih _ _ _ ⟨rfl, by omega, by omega, k1, k2, k3, by rw [show (t + 1).toNat = t.toNat + 1 from by omega, es, k4]; omega, fun u u0 u1 hu => k5 u u0 (ltne u1 (fun y => hu (by rw [y]; exact hin))) hu⟩ (by omega)⟩
set_option maxHeartbeats 1000000 in
theorem t_lost {C R : MM} {p : Int} (h : RD C R) : w_X11_lost (fun r C' => w_X12_lost (fun r' R' => r = r' ∧ R' 0 0 = 0 ∧ RD C' R' ∧ FPc C C' ∧ FPr R R') p R) (fun E C' => C' = C ∧ w_X12_lost (fun r' R' => R' = ux_ R 0 0 1) p R) p C := by
  obtain ⟨hB, hJ, cs, hcs⟩ := h
  have hY := hB.1.2.2.2.2
  unfold w_X11_lost w_X11_needPicture
  refine p_isPic (fun p0 p4 _ => ⟨fun _ => ?_, fun q => by omega⟩) (fun hn _ => ⟨fun q => absurd rfl q, fun _ => ⟨rfl, ?_⟩⟩)
  · have hc := hcs.1 p p0 p4
    have hw := hc.2.1
    have hb := hc.2.2.1
    have ht := hc.2.2.2.1
    have n0 := hw.1
    have n4 := hw.2.1
    have ip := hcs.2.2.2.1 p p0 (by omega)
    have ip' := ip
    unfold isP at ip'
    refine ⟨p0, p4, cs p, hc.1, ip, p_findLost hY hw fun M m1 m2 m3 m4 _ => ?_⟩
    unfold w_X12_lost
    refine p_R_isPic (fun _ _ _ => ⟨fun q => by omega, fun _ => ?_⟩) (fun q => absurd ⟨p0, p4⟩ q)
    unfold w_X12_lost_b14
    intro A1 g1 v2 g2 _
    have : v2 = 0 := by rw [g2, g1, ux_s]
    refine ⟨fun _ => ?_, fun q => by omega⟩
    have hB1 : RB C A1 := by rw [g1]; exact RB_00 hB 0
    have hb1 : Rpb C A1 (cs p) p := by rw [g1]; exact pic_00 0 hb
    refine p_R_reach hB1.1.2.2.2.2 hw hb1 p0 (by omega) (Or.inr rfl) (Or.inl rfl) fun A2 hv => ⟨p0, by omega, ?_⟩
    have e59 : A1 59 = R 59 := by rw [g1]; funext i; rw [ux_c _ _ _ _ (by decide)]
    have hS : ∀ t, 0 ≤ t → t < C (cs p) 0 → (sC C (cs p) t ↔ sB A1 p (-1) 1 t) := fun t t0 t1 => by
      unfold sC sB
      rw [e59, (ht.1 t t0 t1).2.2.2]
      exact ⟨fun q => ⟨by omega, Or.inr q⟩, fun q => by rcases q.2 with q | q; omega; exact q⟩
    have hV := vis_S hw hS
    have hct : ∀ k : Nat, ctV (vis C (cs p) (sC C (cs p)) (beg C (cs p) (sC C (cs p)) (-1))) k = ctV (vis C (cs p) (sB A1 p (-1) 1) (beg C (cs p) (sB A1 p (-1) 1) (-1))) k := fun k => ctV_c k fun u _ _ => hV u
    refine p_R_lost43 n0 n4 p0 (by omega) hb1.1.symm hv fun A3 f1 f2 f3 f4 f5 => ?_
    have eR : ∀ k, k ∉ [0, 51, 52, 60, 62] → A3 k = R k := fun k hk => by
      simp at hk
      rw [f1 k (by omega) (by omega), hv.1 k (by simp; omega), g1]
      funext i
      rw [ux_c _ _ _ _ (by omega)]
    have e0 : ∀ i, i ≠ 0 → i ≠ 73 → A3 0 i = R 0 i := fun i hi h73 => by rw [f1 0 (by decide) (by decide), hv.2.1 i h73, g1, ux_i _ _ _ hi]
    have nP : Rpic M A3 (cs p) p := by
      refine pic_fr0 hY hc.2 (tyLe_of (by rw [m1 8 (by omega) (by omega) (by omega) (by omega)]) (fun k a b => m1 k (by omega) (by omega) (by omega) (by omega))) (m2 0 (by decide)) (m2 11 (by decide)) (fun q a b => m1 q (by omega) (by omega) (by omega) (by omega)) (fun q a b => m1 q (by omega) (by omega) (by omega) (by omega)) (fun u a b => ?_) (fun u a b => ?_) ⟨?_, ?_, ?_, fun k a b => ?_⟩ (fun k i a b d e f _ => by rw [eR k (by simp; omega)])
      · rw [m1 _ (by omega) (by omega) (by omega) (by omega)]; exact hw.2.2.2.2.2.2.2.2.2.2.2.1 u a b
      · rw [m1 _ (by omega) (by omega) (by omega) (by omega), eR 59 (by decide)]; exact (ht.1 u a b).2.2.2
      · rw [m3, f4, hct]
      · rw [m3]; exact (ctV_bd _ _).1
      · rw [m3]; have := (ctV_bd (vis C (cs p) (sC C (cs p)) (beg C (cs p) (sC C (cs p)) (-1))) (C (cs p) 0).toNat).2; omega
      · rw [m3] at b
        obtain ⟨u, u0, u1, u2, u3⟩ := ctV_sur _ _ k a b
        have x1 := m4 u u0 (by omega) u2
        have x2 := f5 u u0 (by omega) (fun q => u2 ((hV u).mpr q))
        rw [u3, show (0 : Int) + k = k from by omega] at x1
        rw [← hct, u3] at x2
        rw [x1, x2]
    obtain ⟨nB, nJ⟩ := RB_p (C' := M) (R' := A3) hB hJ (fun k a b => m1 k (by omega) (by omega) (by omega) (by omega)) (fun k a b => eR k (by simp at a; simp; omega)) (fun i hi => e0 i (fun q => hi (by rw [q]; decide)) (fun q => hi (by rw [q]; decide)))
    refine ⟨hct _, by rw [f1 0 (by decide) (by decide), hv.2.1 0 (by decide), g1, ux_s], ⟨nB, nJ, ps_put hY p0 p4 hcs.1 hcs.2.1 hcs.2.2.1 hcs.2.2.2.1 hcs.2.2.2.2 nP (fun k hk => m1 k (by omega) (by omega) (by omega) (by omega)) (fun k i a b hn => ?_)⟩, ⟨fun k a b => m1 k (by omega) (by omega) (by omega) (by omega), fun i _ => by rw [m1 0 (by omega) (by omega) (by omega) (by omega)]⟩, ⟨fun k a b => eR k (by simp at a; simp; omega), fun i hi => e0 i (fun q => hi (by rw [q]; decide)) (fun q => hi (by rw [q]; decide))⟩⟩
    by_cases y : k = 51
    · rw [y, f2 i (by rw [y] at hn; unfold rw_ at hn; omega), g1, ux_c _ _ _ _ (by decide)]
    · by_cases y2 : k = 52
      · rw [y2, f3 i (by rw [y2] at hn; unfold rw_ at hn; omega), g1, ux_c _ _ _ _ (by decide)]
      · rw [eR k (by simp; omega)]
  · unfold w_X12_lost
    refine p_R_isPic (fun a b => absurd ⟨a, b⟩ hn) (fun _ _ => ⟨fun _ => ?_, fun q => absurd rfl q⟩)
    unfold w_X12_lost_b14
    intro M1 e1 v2 e2 _
    have : v2 = 1 := by rw [e2, e1, ux_s]
    exact ⟨fun q => by omega, fun _ => e1⟩
