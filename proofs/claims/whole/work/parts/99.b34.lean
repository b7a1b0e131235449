/-! thing, holder, on both sides -/
theorem FPr_00 (R : MM) (x : Int) : FPr R (ux_ R 0 0 x) := ⟨fun k a _ => funext fun i => ux_c _ _ _ _ (by intro q; rw [q] at a; revert a; decide), fun i hi => ux_i _ _ _ (fun q => hi (by rw [q]; decide))⟩
theorem FPc_r (C : MM) : FPc C C := ⟨fun _ _ _ => rfl, fun _ _ => rfl⟩
theorem hR_pre {C : MM} {c : Nat} {t : Int} (r d : Nat) : ∃ L, hR C c t (r + d) = hR C c t r ++ L := by
  induction d with
  | zero => exact ⟨[], by rw [List.append_nil]; rfl⟩
  | succ d ih =>
    obtain ⟨L, e⟩ := ih
    rw [show r + (d + 1) = r + d + 1 from rfl, hR_s, e]
    by_cases z : C (c + 12) (r + d : Nat) = t
    · rw [if_pos z]; exact ⟨_, List.append_assoc _ _ _⟩
    · rw [if_neg z]; exact ⟨L, rfl⟩
theorem hK_pre {C : MM} {c : Nat} {t u : Int} (r d : Nat) : ∃ L, hK C c t u (r + d) = hK C c t u r ++ L := by
  induction d with
  | zero => exact ⟨[], by rw [List.append_nil]; rfl⟩
  | succ d ih =>
    obtain ⟨L, e⟩ := ih
    rw [show r + (d + 1) = r + d + 1 from rfl, hK_s, e]
    by_cases z : lv C c u (r + d : Nat) = t
    · rw [if_pos z]; exact ⟨_, List.append_assoc _ _ _⟩
    · rw [if_neg z]; exact ⟨L, rfl⟩
theorem hU_pre {C : MM} {c : Nat} {t : Int} (r d : Nat) : ∃ L, hU C c t (r + d) = hU C c t r ++ L := by
  induction d with
  | zero => exact ⟨[], by rw [List.append_nil]; rfl⟩
  | succ d ih =>
    obtain ⟨L, e⟩ := ih
    rw [show r + (d + 1) = r + d + 1 from rfl, hU_s, e]
    exact ⟨_, List.append_assoc _ _ _⟩
theorem hl_preR {C : MM} {c : Nat} {t : Int} (r : Nat) (hr : (r : Int) ≤ C c 11) : ∃ L, hl C c t = hR C c t r ++ L := by
  obtain ⟨L1, e1⟩ := hU_pre (C := C) (c := c) (t := t) 0 (C c 0).toNat
  obtain ⟨L2, e2⟩ := hR_pre (C := C) (c := c) (t := t) r ((C c 11).toNat - r)
  rw [show r + ((C c 11).toNat - r) = (C c 11).toNat from by omega] at e2
  have e3 : hU C c t 0 = hR C c t (C c 11).toNat := rfl
  refine ⟨L2 ++ L1, ?_⟩
  unfold hl
  rw [show (C c 0).toNat = 0 + (C c 0).toNat from by omega, e1, e3, e2, List.append_assoc]
theorem hl_preK {C : MM} {c : Nat} {t : Int} (u k : Nat) (hu : (u : Int) < C c 0) (hk : (k : Int) ≤ pcn C c u) : ∃ L, hl C c t = (hU C c t u ++ hK C c t u k) ++ L := by
  obtain ⟨L1, e1⟩ := hU_pre (C := C) (c := c) (t := t) (u + 1) ((C c 0).toNat - (u + 1))
  obtain ⟨L2, e2⟩ := hK_pre (C := C) (c := c) (t := t) (u := (u : Int)) k ((pcn C c u).toNat - k)
  rw [show k + ((pcn C c u).toNat - k) = (pcn C c u).toNat from by omega] at e2
  refine ⟨L2 ++ L1, ?_⟩
  unfold hl
  rw [show (C c 0).toNat = u + 1 + ((C c 0).toNat - (u + 1)) from by omega, e1, hU_s, e2, List.append_assoc, List.append_assoc, List.append_assoc]
theorem gd_mid {α : Type} (d : α) (A : List α) (x : α) (B : List α) : ((A ++ [x]) ++ B).getD A.length d = x := by
  induction A with
  | nil => rfl
  | cons a A ih => exact ih
def hv (C : MM) (c : Nat) (t : Int) (k w : Int) : Int := if w = 0 then ((hl C c t).getD k.toNat (0, 0)).1 else ((hl C c t).getD k.toNat (0, 0)).2
set_option maxHeartbeats 1000000 in
theorem p_R_holder {Q : Int → MM → Prop} {C M : MM} {c : Nat} {p t k w : Int} (hY : Rty C M) (hw : PW C c) (hb : Rpb C M c p) (p0 : 0 ≤ p) (p5 : p < 5) (t0 : 0 ≤ t) (t1 : t < C c 0) (k0 : 0 ≤ k) (k1 : k < (hl C c t).length) (hq : Q (hv C c t k w) M) : w_X12_holder_b58 Q p t w k 0 M := by
  have n0 := hw.1
  have n4 := hw.2.1
  obtain ⟨-, -, -, -, -, -, -, r0, r1, hr, -⟩ := id hw
  obtain ⟨b1, b2, b3, b4, b5⟩ := id hb
  have bd := hs_bd hY hw
  have lb : ((hl C c t).length : Int) ≤ 4108 := by
    have s := hs_s C c t.toNat
    rw [show ((t.toNat : Nat) : Int) = t from by omega] at s
    have m0 := hs_m C c 0 t.toNat (by omega)
    have m1 := hs_m C c (t.toNat + 1) (C c 0).toNat (by omega)
    have z0 : hs C c 0 = 0 := rfl
    omega
  have second : ∀ x5, x5 = k - (hR C c t (C c 11).toNat).length → 0 ≤ x5 → w_X12_holder_b132 Q p t w x5 (-1) 0 M := by
    intro x5 h5 h50
    unfold w_X12_holder_b132
    refine loop7 _ (fun (a b d y z u : Int) M1 => p = a ∧ t = b ∧ w = d ∧ M = M1 ∧ 0 ≤ u ∧ u ≤ C c 0 ∧ ((0 ≤ y ∧ y = k - (hU C c t u.toNat).length) ∨ (y = -1 ∧ z = hv C c t k w))) (fun (_ _ _ _ _ u : Int) _ => (C c 0 - u).toNat) ?_ _ _ _ _ _ _ _ ⟨rfl, rfl, rfl, rfl, by omega, n0, Or.inl ⟨h50, h5⟩⟩
    rintro _ _ _ y z u _ f ⟨rfl, rfl, rfl, rfl, u0, u1, hy⟩ ih
    unfold wb_X12_holder_b132
    refine ⟨p0, p5, fun v1 e1 _ => ?_⟩
    rw [← b1] at e1
    subst e1
    refine ⟨fun q => ?_, fun q => ⟨fun q2 => ?_, fun q2 => ?_⟩⟩
    · rcases hy with ⟨y1, y2⟩ | ⟨y1, y2⟩
      · have : hU C c t u.toNat = hl C c t := by unfold hl; rw [show u.toNat = (C c 0).toNat from by omega]
        rw [this] at y2; omega
      · rw [y2]; exact hq
    · rcases hy with ⟨y1, y2⟩ | ⟨y1, y2⟩
      · omega
      · rw [y2]; exact hq
    · obtain ⟨y1, y2⟩ : 0 ≤ y ∧ y = k - (hU C c t u.toNat).length := by
        rcases hy with q' | q'
        · exact q'
        · omega
      have uu : ((u.toNat : Nat) : Int) = u := by omega
      have hpc := pw_bd hY hw u0 (by omega)
      have fin : ∀ y z, ((0 ≤ y ∧ y = k - (hU C c t u.toNat ++ hK C c t u (pcn C c u).toNat).length) ∨ (y = -1 ∧ z = hv C c t k w)) → w_X12_holder_b221 Q f p t w y z u M := fun y z h => by
        unfold w_X12_holder_b221
        refine ⟨by unfold ri_; omega, ih _ _ _ _ _ _ _ ⟨rfl, rfl, rfl, rfl, by omega, by omega, ?_⟩ (by omega)⟩
        rw [show (u + 1).toNat = u.toNat + 1 from by omega, hU_s, uu]; exact h
      unfold w_X12_holder_b151
      refine loop8 _ (fun (a b d y z u2 j : Int) M1 => p = a ∧ t = b ∧ w = d ∧ u = u2 ∧ M = M1 ∧ 0 ≤ j ∧ j ≤ pcn C c u ∧ ((0 ≤ y ∧ y = k - (hU C c t u.toNat ++ hK C c t u j.toNat).length) ∨ (y = -1 ∧ z = hv C c t k w))) (fun (_ _ _ _ _ _ j : Int) _ => (pcn C c u - j).toNat) ?_ _ _ _ _ _ _ _ _ ⟨rfl, rfl, rfl, rfl, rfl, by omega, hpc.1, Or.inl ⟨y1, by rw [y2, List.length_append, show (0 : Int).toNat = 0 from rfl]; show _ = k - (((hU C c t u.toNat).length + 0 : Nat) : Int); omega⟩⟩
      rintro _ _ _ y z _ j _ g ⟨rfl, rfl, rfl, rfl, rfl, j0, j1, hy2⟩ ih2
      unfold wb_X12_holder_b151
      refine p_slotsIn hY hw hb p0 p5 u0 (by omega) fun _ => ⟨fun q3 => fin y z (by rw [← show j.toNat = (pcn C c u).toNat from by omega]; exact hy2), fun q3 => ⟨fun q4 => fin y z ?_, fun q4 => ?_⟩⟩
      · rcases hy2 with ⟨x1, x2⟩ | x
        · omega
        · exact Or.inr x
      · obtain ⟨x1, x2⟩ : 0 ≤ y ∧ y = k - (hU C c t u.toNat ++ hK C c t u j.toNat).length := by
          rcases hy2 with q' | q'
          · exact q'
          · omega
        have jj : ((j.toNat : Nat) : Int) = j := by omega
        have hs := hK_s (C := C) (c := c) (t := t) (u := u) j.toNat
        rw [jj] at hs
        have hlv := pw_lv hw u0 (by omega) j0 (k := j) (by omega)
        have no : lv C c u j ≠ t → w_X12_holder_b215 Q f g p t w y z u j M := fun e => by
          unfold w_X12_holder_b215
          refine ⟨by unfold ri_; omega, ih2 _ _ _ _ _ _ _ _ ⟨rfl, rfl, rfl, rfl, rfl, by omega, by omega, Or.inl ⟨x1, ?_⟩⟩ (by omega)⟩
          rw [show (j + 1).toNat = j.toNat + 1 from by omega, hs, if_neg e]; exact x2
        have yes : lv C c u j = t → ∀ s, s = (if w = 0 then u else j) → w_X12_holder_b210 Q f g p t w y u j s M := fun e s es => by
          unfold w_X12_holder_b210 w_X12_holder_b215
          rw [if_pos e] at hs
          refine ⟨by unfold ri_; omega, by unfold ri_; omega, ih2 _ _ _ _ _ _ _ _ ⟨rfl, rfl, rfl, rfl, rfl, by omega, by omega, ?_⟩ (by omega)⟩
          rw [show (j + 1).toNat = j.toNat + 1 from by omega, hs]
          by_cases y0 : y = 0
          · refine Or.inr ⟨by omega, ?_⟩
            obtain ⟨L, eL⟩ := hl_preK (C := C) (c := c) (t := t) u.toNat (j.toNat + 1) (by omega) (by rw [uu]; omega)
            rw [uu, hs, ← List.append_assoc] at eL
            have eg := gd_mid (0, 0) (hU C c t u.toNat ++ hK C c t u j.toNat) (u, j) L
            rw [← eL, show (hU C c t u.toNat ++ hK C c t u j.toNat).length = k.toNat from by omega] at eg
            unfold hv
            rw [eg, es]
          · refine Or.inl ⟨by omega, ?_⟩
            rw [← List.append_assoc, List.length_append]; simp only [List.length_cons, List.length_nil]; omega
        refine p_linksIn hY hw hb p0 p5 u0 (by omega) j0 (by omega) (fun q => ?_) (fun q => ?_)
        · refine fun _ => ⟨fun w => by omega, fun _ => p_valueIn hY hw hb p0 p5 u0 (by omega) j0 (by omega) fun _ _ => ⟨fun e => ⟨fun w0 => yes (by rw [hlv.2.1 q]; exact e) j (by rw [if_neg w0]), fun w0 => yes (by rw [hlv.2.1 q]; exact e) u (by rw [if_pos w0])⟩, fun e => no (by rw [hlv.2.1 q]; exact e)⟩⟩
        · exact fun _ => ⟨fun _ => no (by rw [hlv.2.2 q]; omega), fun w => absurd rfl w⟩
  unfold w_X12_holder_b58
  refine loop6 _ (fun (a b d y r : Int) M1 => p = a ∧ t = b ∧ w = d ∧ M = M1 ∧ 0 ≤ r ∧ r ≤ C c 11 ∧ 0 ≤ y ∧ y = k - (hR C c t r.toNat).length) (fun (_ _ _ _ r : Int) _ => (C c 11 - r).toNat) ?_ _ _ _ _ _ _ ⟨rfl, rfl, rfl, rfl, by omega, r0, k0, by show k = k - (0 : Int); omega⟩
  rintro _ _ _ y r _ f ⟨rfl, rfl, rfl, rfl, q0, q1, y0, ey⟩ ih
  unfold wb_X12_holder_b58
  refine ⟨p0, p5, fun v1 e1 _ => ?_⟩
  rw [← b4] at e1
  subst e1
  refine ⟨fun z => second y (by rw [ey, show r.toNat = (C c 11).toNat from by omega]) y0, fun z => ⟨by unfold ri_; omega, by unfold ri_; omega, by omega, by omega, fun v5 e5 _ => ?_⟩⟩
  rw [← (b5 r q0 (by omega)).2] at e5
  have rr : ((r.toNat : Nat) : Int) = r := by omega
  have hs := hR_s (C := C) (c := c) (t := t) r.toNat
  rw [rr, ← e5] at hs
  unfold w_X12_holder_b120
  refine ⟨fun e => ⟨fun n0 => ⟨by unfold ri_; omega, by unfold ri_; omega, ih _ _ _ _ _ _ ⟨rfl, rfl, rfl, rfl, by omega, by omega, by omega, ?_⟩ (by omega)⟩, fun n0 => ?_⟩, fun e => ⟨by unfold ri_; omega, ih _ _ _ _ _ _ ⟨rfl, rfl, rfl, rfl, by omega, by omega, y0, ?_⟩ (by omega)⟩⟩
  · rw [show (r + 1).toNat = r.toNat + 1 from by omega, hs, if_pos e, List.length_append]; simp only [List.length_cons, List.length_nil]; omega
  · rw [if_pos e] at hs
    obtain ⟨L, eL⟩ := hl_preR (C := C) (c := c) (t := t) (r.toNat + 1) (by omega)
    rw [hs] at eL
    have eg := gd_mid (0, 0) (hR C c t r.toNat) (-1, C (c + 11) r) L
    rw [← eL, show (hR C c t r.toNat).length = k.toNat from by omega] at eg
    unfold hv at hq
    rw [eg] at hq
    refine ⟨fun w0 => ⟨by unfold ri_; omega, by unfold ri_; omega, by omega, by omega, fun v12 e12 _ => ?_⟩, fun w0 => ?_⟩
    · rw [← (b5 r q0 (by omega)).1] at e12
      rw [if_neg w0] at hq
      rw [e12]; exact hq
    · rw [if_pos w0] at hq; exact hq
  · rw [show (r + 1).toNat = r.toNat + 1 from by omega, hs, if_neg e]; exact ey
/-- what is told of a thing, by its number -/
def tv (C R : MM) (c : Nat) (p t w : Int) : Int := if w = 0 then C (c + 1) t else if w = 1 then C (c + 2) t else if w = 2 then C (c + 3) t else if w = 3 then szt C c t else if w = 4 then C (c + 5) t else if w = 5 then C (c + 6) t else if w = 6 then C (c + 7) t else if w = 7 then ((hl C c t).length : Int) else if w = 8 then R 46 (400 * p + t) else if w = 9 then R 47 (400 * p + t) else if w = 10 then R 48 (400 * p + t) else if w = 11 then R 49 (400 * p + t) else if w = 12 then R 50 (400 * p + t) else -1
theorem p_R_thing {Q : Int → MM → Prop} {C R : MM} {cs : Int → Nat} {p t w : Int} (hB : RB C R) (h : pcs C R cs) (p0 : 0 ≤ p) (p4 : p < 4) (t0 : 0 ≤ t) (t1 : t < C (cs p) 0) (hq : Q (tv C R (cs p) p t w) (ux_ R 0 0 0)) : w_X12_thing Q p t w R := by
  have hc := h.1 p p0 p4
  have hw := hc.2.1
  have hb := hc.2.2.1
  have ht := hc.2.2.2.1
  have n4 := hw.2.1
  have hY0 := (RB_00 hB 0).1.2.2.2.2
  have hb0 := pic_00 0 hb
  obtain ⟨c1, c2, c3, -⟩ := hb.2.1 t t0 t1
  obtain ⟨d5, d6, d7, -⟩ := ht.1 t t0 t1
  have g : ∀ k i, k ≠ 0 → ux_ R 0 0 0 k i = R k i := fun k i hk => ux_c _ _ _ _ hk
  unfold w_X12_thing
  intro M1 e1
  subst e1
  refine p_R_isThing h (funext fun i => ux_c _ _ _ _ (by decide)) (fun _ _ _ _ _ => ⟨fun _ => p_at p0 (by omega) t0 (by omega) fun _ => ?_, fun q => absurd q (by decide)⟩) (fun q => absurd ⟨p0, p4, t0, t1⟩ q)
  have rd : ∀ k : Nat, k ≠ 0 → Q (R k (400 * p + t)) (ux_ R 0 0 0) → 0 ≤ 400 * p + t ∧ 400 * p + t < 2000 ∧ ∀ v, v = ux_ R 0 0 0 k (400 * p + t) → ri_ v → Q v (ux_ R 0 0 0) := fun k hk q => ⟨by omega, by omega, fun v e _ => by rw [g k _ hk] at e; rw [e]; exact q⟩
  refine ⟨fun z => ?_, fun z => ?_, fun z => ?_, fun z => ?_, fun z => ?_, fun z => ?_, fun z => ?_, fun z => ?_, fun z => ?_, fun z => ?_, fun z => ?_, fun z => ?_, fun z => ?_, fun z => ?_⟩
  · subst z; exact rd 39 (by decide) (by rw [← c1]; exact hq)
  · subst z; exact rd 40 (by decide) (by rw [← c2]; exact hq)
  · subst z; exact rd 41 (by decide) (by rw [← c3]; exact hq)
  · subst z; exact p_sizeIn hY0 hw hb0 p0 (by omega) t0 t1 fun _ => hq
  · subst z; exact rd 43 (by decide) (by rw [← d5]; exact hq)
  · subst z; exact rd 44 (by decide) (by rw [← d6]; exact hq)
  · subst z; exact rd 45 (by decide) (by rw [← d7]; exact hq)
  · subst z; exact p_R_holders hY0 hw hb0 p0 (by omega) t0 t1 fun _ => hq
  · subst z; exact rd 46 (by decide) hq
  · subst z; exact rd 47 (by decide) hq
  · subst z; exact rd 48 (by decide) hq
  · subst z; exact rd 49 (by decide) hq
  · subst z; exact rd 50 (by decide) hq
  · have : tv C R (cs p) p t w = -1 := by
      unfold tv
      obtain ⟨z0, z1, z2, z3, z4, z5, z6, z7, z8, z9, z10, z11, z12⟩ := z
      rw [if_neg z0, if_neg z1, if_neg z2, if_neg z3, if_neg z4, if_neg z5, if_neg z6, if_neg z7, if_neg z8, if_neg z9, if_neg z10, if_neg z11, if_neg z12]
    rw [this] at hq
    exact hq
theorem t_thing {C R : MM} {p t w : Int} (h : RD C R) : w_X11_thing (fun r C' => w_X12_thing (fun r' R' => r = r' ∧ R' 0 0 = 0 ∧ RD C' R' ∧ FPc C C' ∧ FPr R R') p t w R) p t w C := by
  have h' := h
  obtain ⟨hB, hJ, cs, hcs⟩ := h
  have hY := hB.1.2.2.2.2
  unfold w_X11_thing
  refine p_isThing hcs (fun p0 p4 t0 t1 _ => ⟨fun _ => ?_, fun q => absurd q (by decide)⟩) (fun hn _ => ⟨fun q => absurd rfl q, fun _ => ?_⟩)
  · have hc := hcs.1 p p0 p4
    have hw := hc.2.1
    have n4 := hw.2.1
    have ip := hcs.2.2.2.1 p p0 (by omega)
    have cc : 25 < cs p := by unfold isP at ip; omega
    have fin : ∀ r C', r = tv C R (cs p) p t w → SHf C C' (cs p) → Rpic C' R (cs p) p → w_X12_thing (fun r' R' => r = r' ∧ R' 0 0 = 0 ∧ RD C' R' ∧ FPc C C' ∧ FPr R R') p t w R := fun r C' er hS hP => by
      obtain ⟨y1, y2⟩ := RD_sh hB hJ hcs p0 p4 hS hP
      exact p_R_thing hB hcs p0 p4 t0 t1 ⟨er, ux_s _ _ _ _, RD_00 y1 0, y2, FPr_00 R 0⟩
    have same : ∀ r, r = tv C R (cs p) p t w → w_X12_thing (fun r' R' => r = r' ∧ R' 0 0 = 0 ∧ RD C R' ∧ FPc C C ∧ FPr R R') p t w R := fun r er => fin r C er (fun _ _ => rfl) hc.2
    refine ⟨p0, p4, cs p, hc.1, ip, fun z => ?_, fun z => ?_, fun z => ?_, fun z => ?_, fun z => ?_, fun z => ?_, fun z => ?_, fun z => ?_, fun z => ?_, fun z => ?_, fun z => ?_, fun z => ?_, fun z => ?_, fun z => ?_⟩
    · subst z; exact ⟨t0, by omega, fun v e _ => same v e⟩
    · subst z; exact ⟨t0, by omega, fun v e _ => same v e⟩
    · subst z; exact ⟨t0, by omega, fun v e _ => same v e⟩
    · subst z
      obtain ⟨-, -, a3, -, a5, a6, -⟩ := hw.2.2.2.1 t t0 t1
      refine ⟨t0, by omega, fun v e _ => ⟨t0, by omega, fun v' e' _ => ?_⟩⟩
      rw [e, e']
      exact p_sizeOf hY a3 a5 a6 fun _ => same _ rfl
    · subst z; exact ⟨t0, by omega, fun v e _ => same v e⟩
    · subst z; exact ⟨t0, by omega, fun v e _ => same v e⟩
    · subst z; exact ⟨t0, by omega, fun v e _ => same v e⟩
    · subst z
      unfold w_X5_holdersOf
      refine nd_H hY cc hc.2 fun M hS hP hd => ⟨by unfold ri_; omega, by omega, by omega, fun v4 e4 g4 => ⟨t0, by omega, fun v5 e5 g5 => ?_⟩⟩
      have el := hl_fr hY hw (SHf_ty cc hS) (by rw [hS (cs p) (by omega)]) (by rw [hS (cs p) (by omega)]) (fun q a b => hS q (by omega)) t
      have q := (hd.2 t t0 (by rw [hS (cs p) (by omega)]; exact t1)).1
      rw [el] at q
      have hb := hs_bd hY hw
      have lb : ((hl C (cs p) t).length : Int) ≤ 4108 := by
        have s := hs_s C (cs p) t.toNat
        rw [show ((t.toNat : Nat) : Int) = t from by omega] at s
        have m0 := hs_m C (cs p) 0 t.toNat (by omega)
        have m1 := hs_m C (cs p) (t.toNat + 1) (C (cs p) 0).toNat (by omega)
        have z0 : hs C (cs p) 0 = 0 := rfl
        omega
      have e : v4 - v5 = ((hl C (cs p) t).length : Int) := by rw [e4, e5, q]; omega
      exact ⟨by unfold ri_; omega, fun _ => fin _ M e hS hP⟩
    · subst z
      unfold w_X5_dominatorOf
      exact nd_D hY cc hc.2 fun M hS hP tb => ⟨t0, by omega, fun v e _ _ => fin v M (by rw [e]; exact (tb t t0 t1).1) hS hP⟩
    · subst z
      unfold w_X5_keptBy
      exact nd_D hY cc hc.2 fun M hS hP tb => ⟨t0, by omega, fun v e _ _ => fin v M (by rw [e]; exact (tb t t0 t1).2.1) hS hP⟩
    · subst z
      unfold w_X5_dominatedBy
      exact nd_D hY cc hc.2 fun M hS hP tb => ⟨t0, by omega, fun v e _ _ => fin v M (by rw [e]; exact (tb t t0 t1).2.2) hS hP⟩
    · subst z
      unfold w_X5_ringOf
      exact nd_R hY cc hc.2 fun M hS hP _ tb => ⟨t0, by omega, fun v e _ _ => fin v M (by rw [e]; exact tb t t0 t1) hS hP⟩
    · subst z
      unfold w_X5_twinOf
      exact nd_T hY cc hc.2 fun M hS hP _ tb => ⟨t0, by omega, fun v e _ _ => fin v M (by rw [e]; exact tb t t0 t1) hS hP⟩
    · refine same (-1) ?_
      unfold tv
      obtain ⟨z0, z1, z2, z3, z4, z5, z6, z7, z8, z9, z10, z11, z12⟩ := z
      rw [if_neg z0, if_neg z1, if_neg z2, if_neg z3, if_neg z4, if_neg z5, if_neg z6, if_neg z7, if_neg z8, if_neg z9, if_neg z10, if_neg z11, if_neg z12]
  · unfold w_X12_thing
    intro M1 e1
    subst e1
    exact p_R_isThing hcs (funext fun i => ux_c _ _ _ _ (by decide)) (fun a b d e => absurd ⟨a, b, d, e⟩ hn) (fun _ _ => ⟨fun q => absurd rfl q, fun _ => ⟨rfl, ux_s _ _ _ _, RD_00 h' 0, FPc_r C, FPr_00 R 0⟩⟩)
theorem t_holder {C R : MM} {p t k w : Int} (h : RD C R) : w_X11_holder (fun r C' => w_X12_holder (fun r' R' => r = r' ∧ R' = ux_ R 0 0 0 ∧ RD C' R' ∧ FPc C C') p t k w R) (fun E C' => RD C' R ∧ FPc C C' ∧ w_X12_holder (fun r' R' => R' = ux_ R 0 0 1) p t k w R) p t k w C := by
  have h' := h
  obtain ⟨hB, hJ, cs, hcs⟩ := h
  have hY := hB.1.2.2.2.2
  have bad : ∀ Q : Int → MM → Prop, Q 0 (ux_ R 0 0 1) → w_X12_holder_b35 Q p t k w R := fun Q hq => by
    unfold w_X12_holder_b35 w_X12_holder_b40
    intro M1 e1 v2 e2 _
    have : v2 = 1 := by rw [e2, e1, ux_s]
    exact ⟨fun q => by omega, fun _ => by rw [e1]; exact hq⟩
  unfold w_X11_holder w_X11_holder_b38
  refine p_isThing hcs (fun p0 p4 t0 t1 _ => ⟨fun q => absurd q (by decide), fun _ => ?_⟩) (fun hn _ => ⟨fun _ => ⟨h', FPc_r C, ?_⟩, fun q => absurd rfl q⟩)
  · have hc := hcs.1 p p0 p4
    have hw := hc.2.1
    have hb := hc.2.2.1
    have n4 := hw.2.1
    have ip := hcs.2.2.2.1 p p0 (by omega)
    have cc : 25 < cs p := by unfold isP at ip; omega
    have go : ∀ Q : Int → MM → Prop, ((k < 0 → w_X12_holder_b35 Q p t k w R) ∧ (¬ k < 0 → (((hl C (cs p) t).length : Int) ≤ k → w_X12_holder_b35 Q p t k w R) ∧ (¬ ((hl C (cs p) t).length : Int) ≤ k → (w < 0 → w_X12_holder_b35 Q p t k w R) ∧ (¬ w < 0 → (w ≤ 1 → w_X12_holder_b40 Q p t k w 0 R) ∧ (¬ w ≤ 1 → w_X12_holder_b35 Q p t k w R))))) → w_X12_holder Q p t k w R := fun Q hq => by
      unfold w_X12_holder
      exact p_R_isThing hcs rfl (fun _ _ _ _ _ => ⟨fun q => absurd q (by decide), fun _ => ⟨hq.1, fun z => p_R_holders hY hw hb p0 (by omega) t0 t1 fun _ => hq.2 z⟩⟩) (fun q => absurd ⟨p0, p4, t0, t1⟩ q)
    refine ⟨fun z => ⟨h', FPc_r C, go _ ⟨fun _ => bad _ rfl, fun q => absurd z q⟩⟩, fun z => ⟨p0, p4, cs p, hc.1, ip, ?_⟩⟩
    unfold w_X5_holdersOf
    refine nd_H hY cc hc.2 fun M hS hP hd => ⟨by unfold ri_; omega, by omega, by omega, fun v4 e4 g4 => ⟨t0, by omega, fun v5 e5 g5 => ?_⟩⟩
    have el := hl_fr hY hw (SHf_ty cc hS) (by rw [hS (cs p) (by omega)]) (by rw [hS (cs p) (by omega)]) (fun q a b => hS q (by omega)) t
    have eN : M (cs p) 0 = C (cs p) 0 := by rw [hS (cs p) (by omega)]
    obtain ⟨q, qv⟩ := hd.2 t t0 (by rw [eN]; exact t1)
    rw [el] at q qv
    obtain ⟨nD, nF⟩ := RD_sh hB hJ hcs p0 p4 hS hP
    have hb := hs_bd hY hw
    have hsv : M (cs p + 19) t = hs C (cs p) t.toNat ∧ M (cs p + 19) (t + 1) ≤ 4108 := by
      have s1 := HD_hs hd t.toNat (by omega)
      have s2 := HD_hs hd (t.toNat + 1) (by omega)
      have eh : ∀ n : Nat, hs M (cs p) n = hs C (cs p) n := fun n => sum_c n fun u _ _ => by
        rw [hl_fr hY hw (SHf_ty cc hS) (by rw [hS (cs p) (by omega)]) (by rw [hS (cs p) (by omega)]) (fun q a b => hS q (by omega)) u]
      rw [eh] at s1 s2
      rw [show ((t.toNat : Nat) : Int) = t from by omega] at s1
      rw [show ((t.toNat + 1 : Nat) : Int) = t + 1 from by omega] at s2
      have m1 := hs_m C (cs p) (t.toNat + 1) (C (cs p) 0).toNat (by omega)
      exact ⟨s1, by omega⟩
    have m0 := hs_m C (cs p) 0 t.toNat (by omega)
    have z0 : hs C (cs p) 0 = 0 := rfl
    have e : v4 - v5 = ((hl C (cs p) t).length : Int) := by rw [e4, e5, q]; omega
    rw [e]
    refine ⟨by unfold ri_; omega, fun _ => ⟨fun z2 => ⟨nD, nF, go _ ⟨fun q => absurd q z, fun _ => ⟨fun _ => bad _ rfl, fun q => absurd z2 q⟩⟩⟩, fun z2 => ⟨fun z3 => ⟨nD, nF, go _ ⟨fun q => absurd q z, fun _ => ⟨fun q => absurd q z2, fun _ => ⟨fun _ => bad _ rfl, fun q => absurd z3 q⟩⟩⟩⟩, fun z3 => ⟨fun z4 => ?_, fun z4 => ⟨nD, nF, go _ ⟨fun q => absurd q z, fun _ => ⟨fun q => absurd q z2, fun _ => ⟨fun q => absurd q z3, fun _ => ⟨fun q => absurd q z4, fun _ => bad _ rfl⟩⟩⟩⟩⟩⟩⟩⟩⟩
    obtain ⟨x1, x2⟩ := qv k.toNat (by omega)
    rw [show ((k.toNat : Nat) : Int) = k from by omega] at x1 x2
    have fin : ∀ v, v = hv C (cs p) t k w → w_X12_holder (fun r' R' => v = r' ∧ R' = ux_ R 0 0 0 ∧ RD M R' ∧ FPc C M) p t k w R := fun v ev => by
      refine go _ ⟨fun q => absurd q z, fun _ => ⟨fun q => absurd q z2, fun _ => ⟨fun q => absurd q z3, fun _ => ⟨fun _ => ?_, fun q => absurd z4 q⟩⟩⟩⟩
      unfold w_X12_holder_b40
      intro M1 e1 v2 e2 _
      have : v2 = 0 := by rw [e2, e1, ux_s]
      refine ⟨fun _ => ?_, fun q => by omega⟩
      subst e1
      exact p_R_holder (RB_00 hB 0).1.2.2.2.2 hw (pic_00 0 hc.2.2.1) p0 (by omega) t0 t1 (by omega) (by omega) ⟨ev, rfl, RD_00 nD 0, nF⟩
    refine ⟨p0, p4, cs p, by rw [hS 45 (by unfold isP at ip; omega)]; exact hc.1, ip, t0, by omega, fun v12 e12 _ => ⟨by unfold ri_; omega, fun w0 => ⟨by omega, by omega, fun v15 e15 _ => fin v15 ?_⟩, fun w0 => ⟨by omega, by omega, fun v16 e16 _ => fin v16 ?_⟩⟩⟩
    · unfold hv; rw [if_neg w0, e15, e12]; exact x2
    · unfold hv; rw [if_pos w0, e16, e12]; exact x1
  · unfold w_X12_holder
    exact p_R_isThing hcs rfl (fun a b d e => absurd ⟨a, b, d, e⟩ hn) (fun _ _ => ⟨fun _ => bad _ rfl, fun q => absurd rfl q⟩)
