/-! the reference's walk; collect -/
noncomputable def sla (C : MM) (b : Int) (o : Int) (k : Nat) : Int := @ite _ (b ≠ 0 ∧ slk C o k ≠ -1 ∧ ap C (C 27 (slk C o k))) (Classical.propDecidable _) (-1) (slk C o k)
theorem sla_0 (C : MM) : sla C 0 = slk C := by
  funext o k
  unfold sla
  rw [if_neg (fun q => q.1 rfl)]
theorem sla_y {C : MM} {b o : Int} {k : Nat} (h : b ≠ 0 ∧ slk C o k ≠ -1 ∧ ap C (C 27 (slk C o k))) : sla C b o k = -1 := by unfold sla; rw [if_pos h]
theorem sla_n {C : MM} {b o : Int} {k : Nat} (h : ¬ (b ≠ 0 ∧ slk C o k ≠ -1 ∧ ap C (C 27 (slk C o k)))) : sla C b o k = slk C o k := by unfold sla; rw [if_neg h]
theorem sla_or (C : MM) (b o : Int) (k : Nat) : sla C b o k = -1 ∨ sla C b o k = slk C o k := by
  by_cases h : b ≠ 0 ∧ slk C o k ≠ -1 ∧ ap C (C 27 (slk C o k))
  · exact Or.inl (sla_y h)
  · exact Or.inr (sla_n h)
theorem WR_Y {C R M : MM} {L : List Int} (hY : Rty C R) (h : WR R M L) : Rty C M := Rty_R hY (fun k a b _ => h.1 k (by simp; omega)) (h.2.1 20 (by decide))
set_option maxHeartbeats 400000 in
theorem p_R_meetSlots {Q : Int → MM → Prop} {o b : Int} {C R M : MM} {L : List Int} (hY : Rty C R) (hH : Rhp C R) (ho : hOk C o) (h : WR R M L) (hw : wl (C 26 1) L) (hq : ∀ M', WR R M' (fm (sla C b o) (lnN C o) L) → Q 0 M') : w_X12_meetSlots Q o b M := by
  have hat := hp_at hY hH ho
  have ho0 := ho.1
  obtain ⟨ty, hv, -, tl, -⟩ := (hH.2.2.2.2.2.2.2.2.2.1 o ho.1 ho.2.1).2 ho.2.2
  have ob := ((hH.2.2.2.2.2.2.2.2.2.1 o ho.1 ho.2.1).2 ho.2.2).2.2.2.2.2.2.2.2.2
  have hbd : ∀ j, j < lnN C o → sla C b o j < C 26 1 := fun j hj => by
    have := hH.2.1
    rcases sla_or C b o j with q | q
    · omega
    · rw [q]; exact slk_n hY hH o ho j hj
  unfold w_X12_meetSlots
  refine loop4 _ (fun a c k M1 => o = a ∧ b = c ∧ 0 ≤ k ∧ k ≤ ln C o ∧ WR R M1 (fm (sla C b o) k.toNat L)) (fun _ _ k _ => (ln C o - k).toNat) ?_ _ _ _ _ ⟨rfl, rfl, by omega, by omega, h⟩
  rintro _ _ k M1 f ⟨rfl, rfl, k0, k1, hm⟩ ih
  have e19 : M1 19 = R 19 := hm.1 19 (by decide)
  have e20 : M1 20 = R 20 := hm.1 20 (by decide)
  have hY1 := WR_Y hY hm
  unfold wb_X12_meetSlots_b2
  refine ⟨ho0, by omega, fun v1 e1 _ => ⟨ho0, by omega, fun v2 e2 _ => ?_⟩⟩
  rw [e19, ← ty] at e1
  rw [e20, ← tl] at e2
  subst e1 e2
  refine p_R_so hY1 hv fun _ => ?_
  have eln : so C (C 27 o) (C 28 o) = ln C o := rfl
  rw [eln]
  refine ⟨fun z => ?_, fun z => ?_⟩
  · have : k.toNat = lnN C o := by unfold lnN; omega
    rw [this] at hm
    exact hq M1 hm
  · have sn : (k + 1).toNat = k.toNat + 1 := by omega
    have kk : ((k.toNat : Nat) : Int) = k := by omega
    have kl : k.toNat < lnN C o := by unfold lnN; omega
    have nxt : ∀ M2, WR R M2 (mt (fm (sla C b o) k.toNat L) (sla C b o k.toNat)) → w_X12_meetSlots_b78 Q f o b k M2 := fun M2 hm2 => by
      unfold w_X12_meetSlots_b78
      exact ⟨by unfold ri_; omega, ih _ _ _ _ ⟨rfl, rfl, by omega, by omega, by rw [sn]; exact hm2⟩ (by omega)⟩
    have none : sla C b o k.toNat = -1 → w_X12_meetSlots_b78 Q f o b k M1 := fun e => nxt M1 (by rw [e, mt_neg (by omega)]; exact hm)
    have wlk := fm_wl hw k.toNat (f := sla C b o) (fun j hj => hbd j (by omega))
    have some : w_X12_meetSlots_b72 Q f o b k (sla C b o k.toNat) M1 := by
      unfold w_X12_meetSlots_b72
      exact p_R_meet hm wlk hH.2.1 hH.2.2.1 (hbd _ kl) (fun M' hm' => nxt M' hm')
    unfold w_X12_isLinkSlot
    refine ⟨ho0, by omega, fun v1 e1 _ => ?_⟩
    rw [e19, ← ty] at e1
    subst e1
    refine p_R_kA hY1 hv k0 (ln_c (by omega)) fun _ => ⟨fun zk _ => ⟨fun q => absurd rfl q, fun _ => none ?_⟩, fun zk _ => ⟨fun _ => ⟨ho0, by omega, fun v9 e9 _ => ?_⟩, fun q => by omega⟩⟩
    · have : slk C o k.toNat = -1 := by unfold slk; rw [kk, if_neg zk]
      rcases sla_or C b o k.toNat with q | q
      · exact q
      · rw [q, this]
    · rw [hm.1 21 (by decide)] at e9
      subst e9
      refine ⟨by unfold ri_; omega, by omega, by omega, fun v11 e11 _ => ?_⟩
      rw [hm.1 23 (by decide), ← (ob k k0 (by omega)).1] at e11
      have es : slk C o k.toNat = v11 := by unfold slk; rw [kk, if_pos zk, e11]
      rw [← es]
      refine ⟨fun z11 => none ?_, fun z11 => ⟨fun zb => ?_, fun zb => ?_⟩⟩
      · rcases sla_or C b o k.toNat with q | q
        · exact q
        · rw [q, z11]
      · rw [← sla_n (C := C) (b := b) (o := o) (k := k.toNat) (fun q => q.1 zb)]; exact some
      · have hs : hOk C (slk C o k.toNat) := by
          rcases slk_lt hY hH ho kl with q | q
          · exact absurd q z11
          · exact q
        have s0 := hs.1
        have s1 := (hp_at hY hH hs).2.2.2.2.2.2.2
        obtain ⟨ty2, hv2, -⟩ := (hH.2.2.2.2.2.2.2.2.2.1 _ hs.1 hs.2.1).2 hs.2.2
        refine ⟨by unfold ri_; omega, p_R_isApart (R := R) hY1 s0 s1 (by rw [e19, ← ty2]) hv2 (fun ha _ => ⟨fun _ => none (sla_y ⟨zb, z11, ha⟩), fun q => by omega⟩) (fun ha _ => ⟨fun q => absurd rfl q, fun _ => ?_⟩)⟩
        rw [← sla_n (C := C) (b := b) (o := o) (k := k.toNat) (fun q => ha q.2.2)]; exact some
theorem p_R_isLS {Q : Int → MM → Prop} {f : Int} {C M : MM} (hY : Rty C M) (f0 : 0 ≤ f) (f1 : f < 6 * C 8 0) (h1 : C 21 f ≠ 0 → C 19 f = 5 → Q 1 M) (h0 : ¬ (C 21 f ≠ 0 ∧ C 19 f = 5) → Q 0 M) : w_X12_isLinkStatic Q f M := by
  have h16 := hY.2.2.1
  have et : Int.tdiv f 6 = f / 6 := Int.tdiv_eq_ediv_of_nonneg f0
  unfold w_X12_isLinkStatic
  rw [et]
  refine ⟨by unfold ri_; omega, by unfold ri_; omega, by omega, by omega, fun v3 e3 _ => ?_⟩
  have hc := (hY.2.2.2.1 (f / 6) (by omega) (by omega))
  rw [← hc.1.2.2.2.2.2.2.2.1] at e3
  subst e3
  have ef : 6 * (f / 6) + (f - f / 6 * 6) = f := by omega
  refine ⟨fun z => h0 fun q => q.1 ?_, fun z => ⟨f0, by omega, fun v5 e5 _ => ?_⟩⟩
  · have := hY.2.2.2.2.2 (f / 6) (f - f / 6 * 6) (by omega) (by omega) z (by omega)
    rw [ef] at this; exact this
  · have hf := hc.2.2.2 (f - f / 6 * 6) (by omega) (by omega)
    rw [ef] at hf
    obtain ⟨-, b2, -, -, -, b6, -⟩ := hf
    rw [← b6] at e5
    refine ⟨fun z5 => h0 fun q => q.1 (by rw [← e5]; exact z5), fun z5 => ⟨f0, by omega, fun v7 e7 _ => ?_⟩⟩
    rw [← b2] at e7
    exact ⟨fun z7 => h0 fun q => z7 (by rw [e7]; exact q.2), fun z7 => h1 (by rw [← e5]; exact z5) (by rw [← e7]; exact z7)⟩
set_option maxHeartbeats 400000 in
theorem p_R_walkRoots {Q : Int → MM → Prop} {C R : MM} (hY : Rty C R) (hH : Rhp C R) (hq : ∀ M', WR R M' (wkL C) → Q 0 M') : w_X12_walkRoots Q R := by
  obtain ⟨g1, g2, g3, g4, g5⟩ := hH.2.2.2.2.2.2.2.2.2.2.2.1
  have h13 := hH.2.2.2.2.2.2.2.2.2.2.2.2.1
  have h0 := hY.2.1
  have h16 := hY.2.2.1
  have h20 := hY.1
  have hn0 := hH.2.1
  have hn4 := hH.2.2.1
  obtain ⟨rw1, rw2⟩ := rtL_wl hY hH
  have third : ∀ M1, WR R M1 (rtL C) → w_X12_walkRoots_b70 Q 0 M1 := by
    intro M1 hm1
    refine loop2 _ (fun k M2 => 0 ≤ k ∧ k ≤ 401 ∧ ∃ (L : List Int) (m : Nat), WR R M2 L ∧ wl (C 26 1) L ∧ (∀ o ∈ L, hOk C o) ∧ (m : Int) + k = 401 ∧ bf (slk C) (lnN C) m k.toNat L = wkL C) (fun k _ => (401 - k).toNat) ?_ _ _ ⟨by omega, by omega, rtL C, 401, hm1, rw1, rw2, by omega, rfl⟩
    rintro k M2 f ⟨k0, k1, L, m, hm, hwl, hok, hmk, hbf⟩ ih
    have hll := wl_len hwl hn0
    unfold wb_X12_walkRoots_b70
    intro v1 e1 _
    rw [hm.2.2.1] at e1
    subst e1
    refine ⟨fun z => ?_, fun z => ⟨k0, by omega, fun v3 e3 _ => ?_⟩⟩
    · have : bf (slk C) (lnN C) m k.toNat L = L := by
        cases m with
        | zero => rfl
        | succ m =>
          show (if k.toNat < L.length then _ else L) = L
          rw [if_neg (by omega)]
      rw [this] at hbf
      rw [hbf] at hm
      exact hq M2 hm
    · have kk : ((k.toNat : Nat) : Int) = k := by omega
      have hk := hm.2.2.2.1 k.toNat (by omega)
      rw [kk] at hk
      rw [hk] at e3
      subst e3
      have ho := hok _ (gD_mem (L := L) (k := k.toNat) (by omega))
      refine p_R_meetSlots hY hH ho hm hwl (fun M3 hm3 => ⟨by unfold ri_; omega, ih _ _ ⟨by omega, by omega, fm (slk C (L.getD k.toNat 0)) (lnN C (L.getD k.toNat 0)) L, m - 1, by rw [sla_0] at hm3; exact hm3, fm_wl hwl _ (slk_n hY hH _ ho), fm_ok _ hok (fun j hj => slk_lt hY hH ho hj), by omega, ?_⟩ (by omega)⟩)
      rw [← hbf]
      have em : m = (m - 1) + 1 := by omega
      conv => rhs; rw [em]
      show _ = (if k.toNat < L.length then _ else L)
      rw [if_pos (by omega), show (k + 1).toNat = k.toNat + 1 from by omega]
  have second : ∀ M1 L0, WR R M1 L0 → wl (C 26 1) L0 → L0 = fm (fun k => C 33 k) (C 26 11).toNat [] → w_X12_walkRoots_b33 Q 0 M1 := by
    intro M1 L0 hm1 hw1 eL
    refine loop2 _ (fun a M2 => 0 ≤ a ∧ a ≤ 6 * C 8 0 ∧ WR R M2 (fm (stv C) a.toNat L0)) (fun a _ => (6 * C 8 0 - a).toNat) ?_ _ _ ⟨by omega, by omega, hm1⟩
    rintro a M2 f ⟨a0, a1, hm⟩ ih
    unfold wb_X12_walkRoots_b33
    intro v1 e1 _
    rw [hm.2.1 20 (by decide), ← h20] at e1
    subst e1
    refine ⟨by unfold ri_; omega, fun z => third M2 ?_, fun z => ?_⟩
    · have e : a.toNat = (6 * C 8 0).toNat := by omega
      rw [e, eL] at hm
      exact hm
    · have sn : (a + 1).toNat = a.toNat + 1 := by omega
      have ka : ((a.toNat : Nat) : Int) = a := by omega
      have hwa := fm_wl hw1 a.toNat (f := stv C) (fun j hj => by rcases stv_lt hY hH (f := j) (by omega) with q | q; omega; exact q.2.1)
      have nxt : ∀ M3, WR R M3 (mt (fm (stv C) a.toNat L0) (stv C a.toNat)) → w_X12_walkRoots_b62 Q f a M3 := fun M3 hm3 => by
        unfold w_X12_walkRoots_b62
        exact ⟨by unfold ri_; omega, ih _ _ ⟨by omega, by omega, by rw [sn]; exact hm3⟩ (by omega)⟩
      refine p_R_isLS (WR_Y hY hm) a0 (by omega) (fun q1 q2 _ => ⟨fun q => by omega, fun _ => ⟨a0, by omega, fun v7 e7 _ => ?_⟩⟩) (fun q _ => ⟨fun _ => nxt M2 ?_, fun q => absurd rfl q⟩)
      · rw [hm.1 6 (by decide), ← h13 a a0 (by omega)] at e7
        have es : stv C a.toNat = v7 := by unfold stv; rw [ka, if_neg q1, if_pos q2, e7]
        rw [← es]
        exact p_R_meet hm hwa hn0 hn4 (by rcases stv_lt hY hH (f := a.toNat) (by omega) with q | q; omega; exact q.2.1) (fun M' hm' => nxt M' hm')
      · have es : stv C a.toNat = -1 := by
          unfold stv
          rw [ka]
          by_cases y : C 21 a = 0
          · rw [if_pos y]
          · rw [if_neg y, if_neg (fun y2 => q ⟨y, y2⟩)]
        rw [es, mt_neg (by omega)]; exact hm
  unfold w_X12_walkRoots
  refine p_R_begin fun M1 hm1 => ?_
  refine loop2 _ (fun a M2 => 0 ≤ a ∧ a ≤ C 26 11 ∧ WR R M2 (fm (fun k => C 33 k) a.toNat [])) (fun a _ => (C 26 11 - a).toNat) ?_ _ _ ⟨by omega, by omega, hm1⟩
  rintro a M2 f ⟨a0, a1, hm⟩ ih
  have hwa : wl (C 26 1) (fm (fun k => C 33 k) a.toNat []) := fm_wl ⟨List.nodup_nil, fun o ho => by simp at ho⟩ _ (fun j hj => (g4 j (by omega) (by omega)).2.2.1)
  unfold wb_X12_walkRoots_b6
  intro v1 e1 _
  rw [hm.2.1 31 (by decide), ← g1] at e1
  subst e1
  refine ⟨fun z => second M2 _ hm hwa (by rw [show a = C 26 11 from by omega]), fun z => ⟨a0, by omega, fun v3 e3 _ => ?_⟩⟩
  rw [hm.1 24 (by decide), ← (g4 a a0 (by omega)).1] at e3
  subst e3
  have ka : ((a.toNat : Nat) : Int) = a := by omega
  refine p_R_meet hm hwa hn0 hn4 (g4 a a0 (by omega)).2.2.1 (fun M' hm' => ⟨by unfold ri_; omega, ih _ _ ⟨by omega, by omega, ?_⟩ (by omega)⟩)
  rw [show (a + 1).toNat = a.toNat + 1 from by omega]
  show WR R M' (mt (fm (fun k => C 33 k) a.toNat []) (C 33 a.toNat))
  rw [ka]; exact hm'
