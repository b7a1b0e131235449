/-! statics, looks, apart -/
def stAt (C : MM) (c k j : Int) : Prop := 0 ≤ c ∧ c < C 8 0 ∧ 0 ≤ j ∧ j < C 14 c ∧ C 21 (6 * c + j) ≠ 0 ∧ C 22 (6 * c + j) = k
theorem ns_st {st : Int → Int} {b : Int} {i j : Nat} (h : i < j) (hi : ¬ st (b + i) = 0) : (i : Int) - ns st b i < j - ns st b j := by
  induction j with
  | zero => omega
  | succ j ih =>
    show _ < ((j + 1 : Nat) : Int) - (ns st b j + (if st (b + j) = 0 then 1 else 0))
    by_cases e : i = j
    · subst e; rw [if_neg hi]; omega
    · have := ih (by omega)
      by_cases z : st (b + j) = 0
      · rw [if_pos z]; omega
      · rw [if_neg z]; omega
theorem st_sl {C R : MM} (hY : Rty C R) {c k j : Int} (h : stAt C c k j) : k = j - ns (C 21) (6 * c) j.toNat ∧ 0 ≤ k ∧ k < C 15 c := by
  obtain ⟨c0, c1, j0, j1, hs, hk⟩ := h
  obtain ⟨l1, -, -, l4⟩ := (hY.2.2.2.1 c c0 c1).2.1
  have h4 := (l4 j.toNat (by omega)).1
  have ej : ((j.toNat : Nat) : Int) = j := by omega
  rw [ej] at h4
  unfold sl at h4
  rw [ej, if_neg hs] at h4
  have hb := ns_bd (C 21) (6 * c) j.toNat
  have hl := ns_st (st := C 21) (b := 6 * c) (i := j.toNat) (j := (C 14 c).toNat) (by omega) (by rw [ej]; exact hs)
  exact ⟨by omega, by omega, by omega⟩
theorem st_inj {C R : MM} (hY : Rty C R) {c k i j : Int} (h : stAt C c k i) (h' : stAt C c k j) : i = j := by
  have a := (st_sl hY h).1
  have b := (st_sl hY h').1
  obtain ⟨-, -, i0, i1, hi, -⟩ := h
  obtain ⟨-, -, j0, j1, hj, -⟩ := h'
  by_cases q : i < j
  · have := ns_st (st := C 21) (b := 6 * c) (i := i.toNat) (j := j.toNat) (by omega) (by rw [show ((i.toNat : Nat) : Int) = i from by omega]; exact hi)
    omega
  · by_cases q2 : j < i
    · have := ns_st (st := C 21) (b := 6 * c) (i := j.toNat) (j := i.toNat) (by omega) (by rw [show ((j.toNat : Nat) : Int) = j from by omega]; exact hj)
      omega
    · omega
theorem p_staticField {Q : Int → MM → Prop} {c k : Int} {C R : MM} (hY : Rty C R) (h1 : ∀ j, stAt C c k j → Q j C) (h0 : (∀ j, ¬ stAt C c k j) → Q (-1) C) : w_X10_staticField Q c k C := by
  have h16 := hY.2.2.1
  unfold w_X10_staticField
  refine p_isClass (fun c0 c1 _ => ⟨fun q => by omega, fun _ => ⟨fun z => h0 fun j hj => by have := st_sl hY hj; omega, fun z => ⟨c0, by omega, fun v e g => ?_⟩⟩⟩) (fun c0 _ => ⟨fun _ => h0 fun j hj => c0 ⟨hj.1, hj.2.1⟩, fun q => absurd rfl q⟩)
  subst e
  refine ⟨fun z2 => ?_, fun z2 => h0 fun j hj => by have := st_sl hY hj; omega⟩
  have hc := (hY.2.2.2.1 c c0 c1).1
  have n0 := hc.2.2.2.2.2.2.2.2.1
  have n1 := hc.2.2.2.2.2.2.2.2.2.1
  refine loop4 _ (fun a b i M1 => c = a ∧ k = b ∧ C = M1 ∧ 0 ≤ i ∧ i ≤ C 14 c ∧ ∀ j, j < i → ¬ stAt C c k j) (fun _ _ i _ => (C 14 c - i).toNat) ?_ _ _ _ _ ⟨rfl, rfl, rfl, by omega, n0, fun j hj hs => by have := hs.2.2.1; omega⟩
  rintro _ _ i _ f ⟨rfl, rfl, rfl, i0, i1, hj⟩ ih
  unfold wb_X10_staticField_b26
  refine ⟨c0, by omega, fun v1 e1 g1 => ?_⟩
  subst e1
  rw [show c * 6 + i = 6 * c + i from by omega]
  have hnx : ¬ stAt C c k i → i < C 14 c → w_X10_staticField_b67 Q f c k i C := by
    intro hn hl
    refine ⟨by unfold ri_; omega, ih _ _ _ _ ⟨rfl, rfl, rfl, by omega, by omega, fun j hj' => ?_⟩ (by omega)⟩
    by_cases e : j = i
    · rw [e]; exact hn
    · exact hj j (by omega)
  refine ⟨fun z3 => h0 fun j hs => hj j (by have := hs.2.2.2.1; omega) hs, fun z3 => ⟨by unfold ri_; omega, by unfold ri_; omega, by omega, by omega, fun v5 e5 g5 => ⟨fun z5 => hnx (fun q => q.2.2.2.2.1 (by rw [← e5]; exact z5)) (by omega), fun z5 => ⟨by omega, by omega, fun v7 e7 g7 => ⟨fun z7 => hnx (fun q => z7 (by rw [e7]; exact q.2.2.2.2.2)) (by omega), fun z7 => h1 i ⟨c0, c1, i0, by omega, by rw [← e5]; exact z5, by rw [← e7]; exact z7⟩⟩⟩⟩⟩⟩
theorem p_R_staticOf {Q : Int → MM → Prop} {c k : Int} {C R : MM} (hY : Rty C R) (h1 : ∀ j, stAt C c k j → Q (6 * c + j) R) (h0 : (∀ j, ¬ stAt C c k j) → Q (-1) R) : w_X12_staticOf Q c k R := by
  have h16 := hY.2.2.1
  have hn := hY.1
  have hn0 := hY.2.1
  unfold w_X12_staticOf
  refine loop5 _ (fun a b g i M1 => c = a ∧ k = b ∧ R = M1 ∧ 0 ≤ i ∧ i ≤ 6 ∧ ((∃ j, j < i ∧ stAt C c k j ∧ g = 6 * c + j) ∨ (g = -1 ∧ ∀ j, j < i → ¬ stAt C c k j))) (fun _ _ _ i _ => (6 - i).toNat) ?_ _ _ _ _ _ ⟨rfl, rfl, rfl, by omega, by omega, Or.inr ⟨rfl, fun j hj hs => by have := hs.2.2.1; omega⟩⟩
  rintro _ _ g i _ f ⟨rfl, rfl, rfl, i0, i1, hj⟩ ih
  unfold wb_X12_staticOf_b5
  have hend : (∀ j, i ≤ j → ¬ stAt C c k j) → Q g R := by
    intro hno
    rcases hj with ⟨j, -, hs, rfl⟩ | ⟨rfl, hs⟩
    · exact h1 j hs
    · refine h0 fun j => ?_
      by_cases q : j < i
      · exact hs j q
      · exact hno j (by omega)
  refine p_R_isClass (fun c0 c1 _ => ⟨fun q => by omega, fun _ => ⟨c0, by omega, fun v4 e4 g4 => ?_⟩⟩) (fun c0 _ => ⟨fun _ => hend fun j _ hs => c0 ⟨hs.1, by have := hs.2.1; omega⟩, fun q => absurd rfl q⟩)
  obtain ⟨hc, -, -, fl⟩ := hY.2.2.2.1 c c0 (by omega)
  have n1 := hc.2.2.2.2.2.2.2.2.2.1
  rw [← hc.2.2.2.2.2.2.2.1] at e4
  subst e4
  refine ⟨fun z => hend fun j hj' hs => by have := hs.2.2.2.1; omega, fun z => ⟨by unfold ri_; omega, by unfold ri_; omega, by omega, by omega, fun v8 e8 g8 => ?_⟩⟩
  obtain ⟨-, -, -, -, -, b6, b7⟩ := fl i i0 (by omega)
  rw [← b6] at e8
  have hnx : ¬ stAt C c k i → w_X12_staticOf_b65 Q f c k g i R := by
    intro hn'
    unfold w_X12_staticOf_b65 w_X12_staticOf_b66
    refine ⟨by unfold ri_; omega, ih _ _ _ _ _ ⟨rfl, rfl, rfl, by omega, by omega, ?_⟩ (by omega)⟩
    rcases hj with ⟨j, j1, hs, hg⟩ | ⟨hg, hs⟩
    · exact Or.inl ⟨j, by omega, hs, hg⟩
    · refine Or.inr ⟨hg, fun j hj' => ?_⟩
      by_cases e : j = i
      · rw [e]; exact hn'
      · exact hs j (by omega)
  refine ⟨fun z8 => hnx fun q => q.2.2.2.2.1 (by rw [← e8]; exact z8), fun z8 => ⟨by unfold ri_; omega, by unfold ri_; omega, by omega, by omega, fun v12 e12 g12 => ?_⟩⟩
  rw [← b7] at e12
  refine ⟨fun z12 => hnx fun q => z12 (by rw [e12]; exact q.2.2.2.2.2), fun z12 => ⟨by unfold ri_; omega, by unfold ri_; omega, ?_⟩⟩
  unfold w_X12_staticOf_b66
  exact ⟨by unfold ri_; omega, ih _ _ _ _ _ ⟨rfl, rfl, rfl, by omega, by omega, Or.inl ⟨i, by omega, ⟨c0, by omega, i0, by omega, by rw [← e8]; exact z8, by rw [← e12]; exact z12⟩, rfl⟩⟩ (by omega)⟩
theorem t_getStatic {C R : MM} {c k : Int} (h : RB C R) : w_X11_getStatic (fun r C' => C' = C ∧ w_X12_getStatic (fun r' R' => r = r' ∧ R' = ux_ R 0 0 0) c k R) (fun E C' => C' = C ∧ w_X12_getStatic (fun r' R' => R' = ux_ R 0 0 1) c k R) c k C := by
  obtain ⟨hA, hL, hH⟩ := h
  have hY := hA.2.2.2.2
  have h16 := hY.2.2.1
  unfold w_X11_getStatic w_X12_getStatic
  refine p_staticField hY (fun j hj _ => ⟨fun _ => ?_, fun q => by have := hj.2.2.1; omega⟩) (fun hno _ => ⟨fun q => absurd rfl q, fun _ => ⟨rfl, p_R_staticOf hY (fun j hj => absurd hj (hno j)) (fun _ _ => ⟨fun q => absurd rfl q, fun _ => ?_⟩)⟩⟩)
  · obtain ⟨c0, c1, j0, j1, -, -⟩ := id hj
    have n1 := (hY.2.2.2.1 c c0 c1).1.2.2.2.2.2.2.2.2.2.1
    refine ⟨by unfold ri_; omega, by unfold ri_; omega, by omega, by omega, fun v e g => ⟨rfl, p_R_staticOf hY (fun i hi _ => ⟨fun _ => ?_, fun q => by have := hi.2.2.1; omega⟩) (fun hno => absurd hj (hno j))⟩⟩
    have ei := st_inj hY hi hj
    subst ei
    unfold w_X12_getStatic_b18
    intro M1 e1 w2 f2 g3
    have : w2 = 0 := by rw [f2, e1, ux_s]
    refine ⟨fun _ => ⟨by omega, by omega, fun v4 e4 g4 => ⟨?_, e1⟩⟩, fun q => by omega⟩
    rw [e4, e1, ux_c _ _ _ _ (by decide), e, show c * 6 + i = 6 * c + i from by omega]
    exact hH.2.2.2.2.2.2.2.2.2.2.2.2.1 (6 * c + i) (by omega) (by omega)
  · unfold w_X12_getStatic_b18
    intro M1 e1 w2 f2 g3
    have : w2 = 1 := by rw [f2, e1, ux_s]
    exact ⟨fun q => by omega, fun _ => e1⟩
theorem t_fieldLook {C R : MM} {c k w : Int} (h : RB C R) : w_X11_fieldLook (fun r C' => C' = C ∧ w_X12_fieldLook (fun r' R' => r = r' ∧ R' = ux_ R 0 0 0) c k w R) c k w C := by
  obtain ⟨hA, hL, hH⟩ := h
  have hY := hA.2.2.2.2
  have h16 := hY.2.2.1
  have hn := hY.1
  have e20 : ux_ R 0 0 0 0 20 = C 8 0 := by rw [ux_i _ _ _ (by decide)]; exact hn.symm
  have uc : ∀ k i, k ≠ 0 → ux_ R 0 0 0 k i = R k i := fun k i hk => ux_c _ _ _ _ hk
  unfold w_X11_fieldLook w_X12_fieldLook
  refine p_hasField_ h16 (fun c0 c1 k0 k1 _ => ⟨fun _ => ?_, fun q => by omega⟩) (fun hno _ => ⟨fun q => absurd rfl q, fun _ => ⟨rfl, ?_⟩⟩)
  · obtain ⟨⟨a1, a2, a3, a4, a5, a6, a7, a8, a9, a10, a11, a12, a13⟩, ⟨l1, l2, l3, l4⟩, sC, fl⟩ := hY.2.2.2.1 c c0 c1
    obtain ⟨f1, f2, f3, f4, f5, f6, f7⟩ := fl k k0 k1
    rw [show c * 6 + k = 6 * c + k from by omega]
    have hen : 0 ≤ enC C c ∧ enC C c ≤ 8000 := by
      unfold enC
      by_cases z9 : C 11 c = -1
      · rw [if_pos z9]; omega
      · rw [if_neg z9]
        have := ty_bd hY (C 11 c) (by omega) (by omega)
        omega
    have key : ∀ r, (w = 0 → r = C 19 (6 * c + k)) → (w = 1 → r = C 20 (6 * c + k)) → (w = 2 → r = (if C 21 (6 * c + k) = 0 then 0 else 1)) → (w = 3 → r = C 22 (6 * c + k)) → (w = 4 → r = (if C 21 (6 * c + k) = 0 then R 15 (6 * c + k) else -1)) → (¬ (w = 0 ∨ w = 1 ∨ w = 2 ∨ w = 3 ∨ w = 4) → r = -1) → C = C ∧ (∀ M1, M1 = ux_ R 0 0 0 → w_X12_isClass (fun r2 M3 => (r2 = 0 ∨ r2 = 1) → (r2 = 0 → r = -1 ∧ M3 = ux_ R 0 0 0) ∧ (¬ r2 = 0 → (k < 0 → r = -1 ∧ M3 = ux_ R 0 0 0) ∧ (¬ k < 0 → 0 ≤ c ∧ c < 16 ∧ (∀ v6, v6 = M3 9 c → ri_ v6 → (k < v6 → ri_ (6 * c) ∧ (ri_ ((6 * c) + k) ∧ ((w = 0 → 0 ≤ ((6 * c) + k) ∧ ((6 * c) + k) < 96 ∧ (∀ v11, v11 = M3 12 ((6 * c) + k) → ri_ v11 → r = v11 ∧ M3 = ux_ R 0 0 0)) ∧ (w = 1 → 0 ≤ ((6 * c) + k) ∧ ((6 * c) + k) < 96 ∧ (∀ v13, v13 = M3 13 ((6 * c) + k) → ri_ v13 → r = v13 ∧ M3 = ux_ R 0 0 0)) ∧ (w = 2 → 0 ≤ ((6 * c) + k) ∧ ((6 * c) + k) < 96 ∧ (∀ v15, v15 = M3 17 ((6 * c) + k) → (v15 = 0 ∨ v15 = 1) → (v15 = 0 → r = 0 ∧ M3 = ux_ R 0 0 0) ∧ (¬ v15 = 0 → r = 1 ∧ M3 = ux_ R 0 0 0))) ∧ (w = 3 → 0 ≤ ((6 * c) + k) ∧ ((6 * c) + k) < 96 ∧ (∀ v18, v18 = M3 14 ((6 * c) + k) → ri_ v18 → r = v18 ∧ M3 = ux_ R 0 0 0)) ∧ (w = 4 → 0 ≤ ((6 * c) + k) ∧ ((6 * c) + k) < 96 ∧ (∀ v20, v20 = M3 17 ((6 * c) + k) → (v20 = 0 ∨ v20 = 1) → (v20 = 0 → 0 ≤ ((6 * c) + k) ∧ ((6 * c) + k) < 96 ∧ (∀ v22, v22 = M3 15 ((6 * c) + k) → ri_ v22 → r = v22 ∧ M3 = ux_ R 0 0 0)) ∧ (¬ v20 = 0 → r = -1 ∧ M3 = ux_ R 0 0 0))) ∧ (¬ w = 0 ∧ ¬ w = 1 ∧ ¬ w = 2 ∧ ¬ w = 3 ∧ ¬ w = 4 → r = -1 ∧ M3 = ux_ R 0 0 0)))) ∧ (¬ k < v6 → r = -1 ∧ M3 = ux_ R 0 0 0))))) c M1) := by
      intro r k0' k1' k2' k3' k4' k5'
      refine ⟨rfl, fun M1 e1 => ?_⟩
      subst e1
      refine p_R_isClass (fun _ _ _ => ⟨fun q => by omega, fun _ => ⟨fun q => by omega, fun _ => ⟨c0, by omega, fun v6 e6 g6 => ?_⟩⟩⟩) (fun q => absurd ⟨c0, by rw [e20]; exact c1⟩ q)
      rw [uc 9 c (by decide), ← a8] at e6
      subst e6
      refine ⟨fun _ => ⟨by unfold ri_; omega, by unfold ri_; omega, fun z => ⟨by omega, by omega, fun v e g => ⟨?_, rfl⟩⟩, fun z => ⟨by omega, by omega, fun v e g => ⟨?_, rfl⟩⟩, fun z => ⟨by omega, by omega, fun v e g => ?_⟩, fun z => ⟨by omega, by omega, fun v e g => ⟨?_, rfl⟩⟩, fun z => ⟨by omega, by omega, fun v e g => ?_⟩, fun z => ⟨k5' (by omega), rfl⟩⟩, fun q => absurd k1 q⟩
      · rw [e, uc 12 _ (by decide), ← f2]; exact k0' z
      · rw [e, uc 13 _ (by decide), ← f5]; exact k1' z
      · rw [uc 17 _ (by decide), ← f6] at e
        have := k2' z
        rw [← e] at this
        exact ⟨fun z2 => ⟨by rw [if_pos z2] at this; exact this, rfl⟩, fun z2 => ⟨by rw [if_neg z2] at this; exact this, rfl⟩⟩
      · rw [e, uc 14 _ (by decide), ← f7]; exact k3' z
      · rw [uc 17 _ (by decide), ← f6] at e
        have := k4' z
        rw [← e] at this
        exact ⟨fun z2 => ⟨by omega, by omega, fun v2 e2 g2 => ⟨by rw [if_pos z2] at this; rw [e2, uc 15 _ (by decide)]; exact this, rfl⟩⟩, fun z2 => ⟨by rw [if_neg z2] at this; exact this, rfl⟩⟩
    refine ⟨by unfold ri_; omega, by unfold ri_; omega, fun z => ⟨by omega, by omega, fun v e g => key v (fun _ => e) (fun q => by omega) (fun q => by omega) (fun q => by omega) (fun q => by omega) (fun q => by omega)⟩, fun z => ⟨by omega, by omega, fun v e g => key v (fun q => by omega) (fun _ => e) (fun q => by omega) (fun q => by omega) (fun q => by omega) (fun q => by omega)⟩, fun z => ⟨by omega, by omega, fun v e g => ?_⟩, fun z => ⟨by omega, by omega, fun v e g => key v (fun q => by omega) (fun q => by omega) (fun q => by omega) (fun _ => e) (fun q => by omega) (fun q => by omega)⟩, fun z => ⟨by omega, by omega, fun v e g => ?_⟩, fun z => key (-1) (fun q => by omega) (fun q => by omega) (fun q => by omega) (fun q => by omega) (fun q => by omega) (fun _ => rfl)⟩
    · subst e
      exact ⟨fun z2 => key 0 (fun q => by omega) (fun q => by omega) (fun _ => by rw [if_pos z2]) (fun q => by omega) (fun q => by omega) (fun q => by omega), fun z2 => key 1 (fun q => by omega) (fun q => by omega) (fun _ => by rw [if_neg z2]) (fun q => by omega) (fun q => by omega) (fun q => by omega)⟩
    · subst e
      refine ⟨fun z2 => ?_, fun z2 => key (-1) (fun q => by omega) (fun q => by omega) (fun q => by omega) (fun q => by omega) (fun _ => by rw [if_neg z2]) (fun _ => rfl)⟩
      refine p_firstByte (n := (C 14 c).toNat) (e := enC C c) c0 (by omega) (by omega) (by omega) (fun j j1 => ?_) (by omega) (by omega) rfl hen.1 hen.2 (fun i i1 it is _ => ?_) (fun q => ?_)
      · have := fl j (by omega) (by omega)
        exact ⟨this.2.2.1, this.2.2.2.1⟩
      · refine key _ (fun q => by omega) (fun q => by omega) (fun q => by omega) (fun q => by omega) (fun _ => ?_) (fun q => by omega)
        rw [if_pos z2, it]
        exact ((l4 i (by omega)).2 is).symm
      · have := q k.toNat (by omega) (by omega)
        rw [show ((k.toNat : Nat) : Int) = k from by omega] at this
        exact absurd z2 this
  · intro M1 e1
    subst e1
    refine p_R_isClass (fun c0 c1 _ => ⟨fun q => by omega, fun _ => ⟨fun _ => ⟨rfl, rfl⟩, fun z => ⟨c0, by rw [e20] at c1; omega, fun v6 e6 g6 => ?_⟩⟩⟩) (fun _ _ => ⟨fun _ => ⟨rfl, rfl⟩, fun q => absurd rfl q⟩)
    rw [e20] at c1
    rw [uc 9 c (by decide), ← (hY.2.2.2.1 c c0 c1).1.2.2.2.2.2.2.2.1] at e6
    exact ⟨fun z2 => absurd ⟨c0, c1, by omega, by omega⟩ hno, fun _ => ⟨rfl, rfl⟩⟩
