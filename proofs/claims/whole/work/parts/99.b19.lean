/-! choose, slot, lostThing, on both sides -/
def pcs (C R : MM) (cs : Int → Nat) : Prop := (∀ p, 0 ≤ p → p < 4 → C 45 p = cs p ∧ Rpic C R (cs p) p) ∧ C 0 5 = cs 4 ∧ PF C (cs 4) ∧ (∀ p, 0 ≤ p → p < 5 → isP (cs p)) ∧ ∀ p q, 0 ≤ p → p < q → q < 5 → cs p ≠ cs q
theorem p_isPic {Q : Int → MM → Prop} {p : Int} {M : MM} (h1 : 0 ≤ p → p < 4 → Q 1 M) (h0 : ¬ (0 ≤ p ∧ p < 4) → Q 0 M) : w_X11_isPicture Q p M := by
  unfold w_X11_isPicture
  exact ⟨fun z => h0 (by omega), fun z => ⟨fun z2 => h0 (by omega), fun z2 => h1 (by omega) (by omega)⟩⟩
theorem p_R_isPic {Q : Int → MM → Prop} {p : Int} {M : MM} (h1 : 0 ≤ p → p < 4 → Q 1 M) (h0 : ¬ (0 ≤ p ∧ p < 4) → Q 0 M) : w_X12_isPicture Q p M := by
  unfold w_X12_isPicture
  exact ⟨fun z => h0 (by omega), fun z => ⟨fun z2 => h0 (by omega), fun z2 => h1 (by omega) (by omega)⟩⟩
theorem p_isThing {Q : Int → MM → Prop} {p t : Int} {C R : MM} {cs : Int → Nat} (h : pcs C R cs) (h1 : 0 ≤ p → p < 4 → 0 ≤ t → t < C (cs p) 0 → Q 1 C) (h0 : ¬ (0 ≤ p ∧ p < 4 ∧ 0 ≤ t ∧ t < C (cs p) 0) → Q 0 C) : w_X11_isThing Q p t C := by
  unfold w_X11_isThing
  refine p_isPic (fun a b _ => ⟨fun q => by omega, fun _ => ⟨fun z => h0 (by omega), fun z => ⟨a, b, cs p, (h.1 p a b).1, h.2.2.2.1 p a (by omega), fun v6 e6 _ => ?_⟩⟩⟩) (fun a _ => ⟨fun _ => h0 (by omega), fun q => absurd rfl q⟩)
  subst e6
  exact ⟨fun z2 => h0 (by omega), fun z2 => h1 a b (by omega) (by omega)⟩
theorem p_R_isThing {Q : Int → MM → Prop} {p t : Int} {C R M : MM} {cs : Int → Nat} (h : pcs C R cs) (e : M 38 = R 38) (h1 : 0 ≤ p → p < 4 → 0 ≤ t → t < C (cs p) 0 → Q 1 M) (h0 : ¬ (0 ≤ p ∧ p < 4 ∧ 0 ≤ t ∧ t < C (cs p) 0) → Q 0 M) : w_X12_isThing Q p t M := by
  unfold w_X12_isThing
  refine p_R_isPic (fun a b _ => ⟨fun q => by omega, fun _ => ⟨fun z => h0 (by omega), fun z => ⟨a, by omega, fun v6 e6 _ => ?_⟩⟩⟩) (fun a _ => ⟨fun _ => h0 (by omega), fun q => absurd rfl q⟩)
  rw [e, ← (h.1 p a b).2.2.1.1] at e6
  subst e6
  exact ⟨fun z2 => h0 (by omega), fun z2 => h1 a b (by omega) (by omega)⟩
theorem pic_00 {C R : MM} {c : Nat} {p : Int} (x : Int) (h : Rpb C R c p) : Rpb C (ux_ R 0 0 x) c p := Rpb_M h (fun k hk => funext fun i => ux_c _ _ _ _ (by intro q; rw [q] at hk; revert hk; decide))
theorem t_slot {C R : MM} {p t k : Int} (h : RD C R) : w_X11_slot (fun r C' => C' = C ∧ w_X12_slot (fun r' R' => r = r' ∧ R' = ux_ R 0 0 0) p t k R) (fun E C' => C' = C ∧ w_X12_slot (fun r' R' => R' = ux_ R 0 0 1) p t k R) p t k C := by
  obtain ⟨hB, hJ, cs, hcs⟩ := h
  have hY := hB.1.2.2.2.2
  have bad : ∀ Q : Int → MM → Prop, Q 0 (ux_ R 0 0 1) → w_X12_slot_b24 Q p t k R := fun Q hq => by
    unfold w_X12_slot_b24 w_X12_slot_b29
    intro M1 e1 v2 e2 _
    have : v2 = 1 := by rw [e2, e1, ux_s]
    exact ⟨fun q => by omega, fun _ => by rw [e1]; exact hq⟩
  unfold w_X11_slot w_X11_slot_b42
  refine p_isThing hcs (fun p0 p4 t0 t1 _ => ⟨fun q => by omega, fun _ => ?_⟩) (fun hn _ => ⟨fun _ => ⟨rfl, ?_⟩, fun q => absurd rfl q⟩)
  · have hc := hcs.1 p p0 p4
    have hw := hc.2.1
    have hb := hc.2.2.1
    have n4 := hw.2.1
    have ip := hcs.2.2.2.1 p p0 (by omega)
    have hpc := pw_bd hY hw t0 t1
    have et := (hw.2.2.2.1 t t0 t1).2.2.2.2.2.2.1
    have hf := pw_f hY hw t0 (by omega)
    have hmx := hw.2.2.2.2.1
    have go : ∀ Q : Int → MM → Prop, ((k < 0 → w_X12_slot_b24 Q p t k R) ∧ (¬ k < 0 → (k < pcn C (cs p) t → w_X12_slot_b29 Q p t k 0 R) ∧ (¬ k < pcn C (cs p) t → w_X12_slot_b24 Q p t k R))) → w_X12_slot Q p t k R := fun Q hq => by
      unfold w_X12_slot
      exact p_R_isThing hcs rfl (fun _ _ _ _ _ => ⟨fun q => by omega, fun _ => ⟨hq.1, fun z => p_slotsIn hY hw hb p0 (by omega) t0 t1 fun _ => hq.2 z⟩⟩) (fun q => absurd ⟨p0, p4, t0, t1⟩ q)
    refine ⟨fun z => ⟨rfl, go _ ⟨fun _ => bad _ rfl, fun q => absurd z q⟩⟩, fun z => ⟨p0, p4, cs p, hc.1, ip, by unfold ri_; omega, by omega, by omega, fun v7 e7 _ => ⟨p0, p4, cs p, hc.1, ip, t0, by omega, fun v9 e9 _ => ?_⟩⟩⟩
    rw [et] at e7
    subst e7 e9
    rw [show C (cs p + 4) t + pcn C (cs p) t - C (cs p + 4) t = pcn C (cs p) t from by omega]
    refine ⟨by unfold ri_; omega, fun z2 => ⟨p0, p4, cs p, hc.1, ip, p0, p4, cs p, hc.1, ip, t0, by omega, fun v14 e14 _ => ?_⟩, fun z2 => ⟨rfl, go _ ⟨fun _ => bad _ rfl, fun _ => ⟨fun q => absurd q z2, fun _ => bad _ rfl⟩⟩⟩⟩
    subst e14
    have ha := pw_at hY hw t0 t1 (k := k) (by omega) z2
    refine ⟨by unfold ri_; omega, by omega, by omega, fun v16 e16 _ => ⟨rfl, go _ ⟨fun q => absurd q z, fun _ => ⟨fun _ => ?_, fun q => absurd z2 q⟩⟩⟩⟩
    unfold w_X12_slot_b29
    intro M1 e1 v2 e2 _
    have : v2 = 0 := by rw [e2, e1, ux_s]
    refine ⟨fun _ => ?_, fun q => by omega⟩
    subst e1
    exact p_valueIn (RB_00 hB 0).1.2.2.2.2 hw (pic_00 0 hb) p0 (by omega) t0 t1 (by omega) z2 fun _ _ => ⟨e16, rfl⟩
  · unfold w_X12_slot
    exact p_R_isThing hcs rfl (fun a b d e => absurd ⟨a, b, d, e⟩ hn) (fun _ _ => ⟨fun _ => bad _ rfl, fun q => absurd rfl q⟩)
theorem t_choose {C R : MM} {p t b : Int} (h : RD C R) : w_X11_choose (fun r C' => w_X12_choose (fun r' R' => r = r' ∧ R' 0 0 = 0 ∧ RD C' R' ∧ FPc C C' ∧ FPr R R') p t b R) p t b C := by
  have hD := RD_00 h 0
  obtain ⟨hB, hJ, cs, hcs⟩ := h
  have hY := hB.1.2.2.2.2
  have e38 : ux_ R 0 0 0 38 = R 38 := funext fun i => ux_c _ _ _ _ (by decide)
  have same : w_X12_choose (fun r' R' => 0 = r' ∧ R' 0 0 = 0 ∧ RD C R' ∧ FPc C C ∧ FPr R R') p t b R → True := fun _ => trivial
  unfold w_X11_choose
  refine p_isThing hcs (fun p0 p4 t0 t1 _ => ⟨fun _ => ?_, fun q => by omega⟩) (fun hn _ => ⟨fun q => absurd rfl q, fun _ => ?_⟩)
  · have hc := hcs.1 p p0 p4
    have hw := hc.2.1
    have n4 := hw.2.1
    have ip := hcs.2.2.2.1 p p0 (by omega)
    refine ⟨p0, p4, cs p, hc.1, ip, t0, by omega, fun M5 e5 => ?_⟩
    unfold w_X12_choose
    intro M1 e1
    subst e1
    refine p_R_isThing hcs e38 (fun _ _ _ _ _ => ⟨fun _ => p_at p0 (by omega) t0 (by omega) fun _ => ⟨by omega, by omega, fun M7 e7 => ?_⟩, fun q => by omega⟩) (fun q => absurd ⟨p0, p4, t0, t1⟩ q)
    have ip' := ip
    unfold isP at ip'
    have eC : ∀ k, k ≠ cs p + 13 → M5 k = C k := fun k hk => funext fun i => by rw [e5, ux_c _ _ _ _ hk]
    have eR : ∀ k, k ≠ 59 → k ≠ 0 → M7 k = R k := fun k hk h0 => funext fun i => by rw [e7, ux_c _ _ _ _ hk, ux_c _ _ _ _ h0]
    have e0 : ∀ i, i ≠ 0 → M7 0 i = R 0 i := fun i hi => by rw [e7, ux_c _ _ _ _ (by decide), ux_i _ _ _ hi]
    have x13 : ∀ u, M5 (cs p + 13) u = if u = t then b else C (cs p + 13) u := fun u => by
      rw [e5]
      by_cases y : u = t
      · rw [if_pos y, y, ux_s]
      · rw [if_neg y, ux_i _ _ _ y]
    have x59 : ∀ i, M7 59 i = if i = 400 * p + t then b else R 59 i := fun i => by
      rw [e7]
      by_cases y : i = 400 * p + t
      · rw [if_pos y, y, ux_s]
      · rw [if_neg y, ux_i _ _ _ y, ux_c _ _ _ _ (by decide)]
    have ht := hc.2.2.2.1
    have nP : Rpic M5 M7 (cs p) p := by
      refine pic_fr0 hY hc.2 (tyLe_of (by rw [eC 8 (by omega)]) (fun k a b => eC k (by omega))) (by rw [eC _ (by omega)]) (by rw [eC _ (by omega)]) (fun q a b => eC q (by omega)) (fun q a b => eC q (by omega)) (fun u a b => ?_) (fun u a b => ?_) ⟨?_, ?_, ?_, fun k a b => ?_⟩ (fun k i a b d e f _ => by rw [eR k f (by omega)])
      · rw [x13, if_neg (by omega)]; exact hw.2.2.2.2.2.2.2.2.2.2.2.1 u a b
      · rw [x13, x59]
        by_cases y : u = t
        · rw [if_pos y, if_pos (by omega)]
        · rw [if_neg y, if_neg (by omega)]; exact (ht.1 u a b).2.2.2
      · rw [eC _ (by omega), eR 52 (by decide) (by decide)]; exact ht.2.1
      · rw [eC _ (by omega)]; exact ht.2.2.1
      · rw [eC _ (by omega)]; exact ht.2.2.2.1
      · rw [eC (cs p) (by omega)] at b
        rw [eC (cs p + 14) (by omega), eR 51 (by decide) (by decide)]; exact ht.2.2.2.2.1 k a b
    obtain ⟨nB, nJ⟩ := RB_p (C' := M5) (R' := M7) hB hJ (fun k a b => eC k (by omega)) (fun k a b => eR k (by omega) (by intro q; rw [q] at a; revert a; decide)) (fun i hi => e0 i (fun q => hi (by rw [q]; decide)))
    refine ⟨rfl, by rw [e7, ux_c _ _ _ _ (by decide), ux_s], ⟨nB, nJ, ps_put hY p0 p4 hcs.1 hcs.2.1 hcs.2.2.1 hcs.2.2.2.1 hcs.2.2.2.2 nP (fun k hk => eC k (by omega)) (fun k i a b hn => ?_)⟩, ⟨fun k a b => eC k (by omega), fun i _ => by rw [eC 0 (by omega)]⟩, ⟨fun k a b => eR k (by omega) (by intro q; rw [q] at a; revert a; decide), fun i hi => e0 i (fun q => hi (by rw [q]; decide))⟩⟩
    by_cases y : k = 59
    · rw [y, x59, if_neg (by rw [y] at hn; unfold rw_ at hn; omega)]
    · rw [eR k y (by omega)]
  · unfold w_X12_choose
    intro M1 e1
    subst e1
    exact p_R_isThing hcs e38 (fun a b d e => absurd ⟨a, b, d, e⟩ hn) (fun _ _ => ⟨fun q => absurd rfl q, fun _ => ⟨rfl, ux_s _ _ _ _, hD, ⟨fun _ _ _ => rfl, fun _ _ => rfl⟩, ⟨fun k a _ => funext fun i => ux_c _ _ _ _ (by intro q; rw [q] at a; revert a; decide), fun i hi => ux_i _ _ _ (fun q => hi (by rw [q]; decide))⟩⟩⟩)
theorem t_lostThing {C R : MM} {p k : Int} (h : RD C R) : w_X11_lostThing (fun r C' => C' = C ∧ w_X12_lostThing (fun r' R' => r = r' ∧ R' = ux_ R 0 0 0) p k R) p k C := by
  obtain ⟨hB, hJ, cs, hcs⟩ := h
  unfold w_X11_lostThing
  refine p_isPic (fun p0 p4 _ => ⟨fun q => by omega, fun _ => ?_⟩) (fun hn _ => ⟨fun _ => ⟨rfl, ?_⟩, fun q => absurd rfl q⟩)
  · have hc := hcs.1 p p0 p4
    have ip := hcs.2.2.2.1 p p0 (by omega)
    have ht := hc.2.2.2.1
    have go : ∀ Q : Int → MM → Prop, ((k < 0 → Q (-1) (ux_ R 0 0 0)) ∧ (¬ k < 0 → (C (cs p) 16 ≤ k → Q (-1) (ux_ R 0 0 0)) ∧ (¬ C (cs p) 16 ≤ k → Q (R 51 (400 * p + k)) (ux_ R 0 0 0)))) → w_X12_lostThing Q p k R := fun Q hq => by
      unfold w_X12_lostThing
      intro M1 e1
      subst e1
      refine p_R_isPic (fun _ _ _ => ⟨fun q => by omega, fun _ => ⟨hq.1, fun z => ⟨p0, by omega, fun v6 e6 _ => ?_⟩⟩⟩) (fun q => absurd ⟨p0, p4⟩ q)
      rw [ux_c _ _ _ _ (by decide), ← ht.2.1] at e6
      subst e6
      refine ⟨(hq.2 z).1, fun z2 => p_at p0 (by omega) (by omega) (by have := ht.2.2.2.1; omega) fun _ => ⟨by omega, by have := ht.2.2.2.1; omega, fun v10 e10 _ => ?_⟩⟩
      rw [ux_c _ _ _ _ (by decide)] at e10
      rw [e10]; exact (hq.2 z).2 z2
    refine ⟨fun z => ⟨rfl, go _ ⟨fun _ => ⟨rfl, rfl⟩, fun q => absurd z q⟩⟩, fun z => ⟨p0, p4, cs p, hc.1, ip, fun v6 e6 _ => ?_⟩⟩
    subst e6
    refine ⟨fun z2 => ⟨rfl, go _ ⟨fun q => absurd q z, fun _ => ⟨fun _ => ⟨rfl, rfl⟩, fun q => absurd z2 q⟩⟩⟩, fun z2 => ⟨p0, p4, cs p, hc.1, ip, by omega, by have := ht.2.2.2.1; omega, fun v9 e9 _ => ⟨rfl, go _ ⟨fun q => absurd q z, fun _ => ⟨fun q => absurd q z2, fun _ => ⟨?_, rfl⟩⟩⟩⟩⟩⟩
    rw [e9]; exact ht.2.2.2.2.1 k (by omega) (by omega)
  · unfold w_X12_lostThing
    intro M1 e1
    subst e1
    exact p_R_isPic (fun a b => absurd ⟨a, b⟩ hn) (fun _ _ => ⟨fun _ => ⟨rfl, rfl⟩, fun q => absurd rfl q⟩)
/-- what has grown -/
def Rgw (C R : MM) : Prop := C 0 15 = R 0 75 ∧ 0 ≤ C 0 15 ∧ C 0 15 ≤ 400 ∧ ∀ k, 0 ≤ k → k < C 0 15 → C 285 k = R 63 k
theorem t_grown {C R : MM} {k : Int} (h : Rgw C R) : w_X11_grown (fun r C' => C' = C ∧ w_X12_grown (fun r' R' => r = r' ∧ R' = ux_ R 0 0 0) k R) k C := by
  obtain ⟨h1, h2, h3, h4⟩ := h
  have e0 : ux_ R 0 0 0 0 75 = C 0 15 := by rw [ux_i _ _ _ (by decide)]; exact h1.symm
  unfold w_X11_grown w_X12_grown
  refine ⟨fun z => ⟨rfl, fun M1 e1 => ⟨fun _ => ⟨rfl, e1⟩, fun q => absurd z q⟩⟩, fun z v2 e2 _ => ?_⟩
  subst e2
  refine ⟨fun z2 => ⟨rfl, fun M1 e1 => ⟨fun q => absurd q z, fun _ v3 e3 _ => ?_⟩⟩, fun z2 => ⟨by omega, by omega, fun v4 e4 _ => ⟨rfl, fun M1 e1 => ⟨fun q => absurd q z, fun _ v3 e3 _ => ?_⟩⟩⟩⟩
  · rw [e1, e0] at e3
    subst e3
    exact ⟨fun _ => ⟨rfl, e1⟩, fun q => absurd z2 q⟩
  · rw [e1, e0] at e3
    subst e3
    refine ⟨fun q => absurd q z2, fun _ => ⟨by omega, by omega, fun v5 e5 _ => ⟨?_, e1⟩⟩⟩
    rw [e1, ux_c _ _ _ _ (by decide)] at e5
    rw [e4, e5]; exact h4 k (by omega) (by omega)
