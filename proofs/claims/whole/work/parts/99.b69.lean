/-! bytes that can be read stay so -/
def Gd (C : MM) (B : Int → Int) (n : Int) : Prop := (dcF C B n).1 = 0 ∧ ∀ u : Nat, (u : Int) < nvl B n 0 → tY C B n u < 20 → C 12 (tY C B n u) = 1
theorem upok {B : Int → Int} {n s m : Int} (a : (rd B n s).1 = 0) (b : 0 ≤ (rd B n s).2.2.1) (d : (rd B n s).2.2.1 ≤ m) : (upf B n s m).1 = 0 := by rw [upf_2 a, cnd_0 (by omega)]; rfl
theorem hdF_of {E : MM} {B : Int → Int} {n : Int} {t : Nat} (h16 : E 8 0 ≤ 16) (g : GT E B n t) : (hdF E B n t).1 = 0 := by
  obtain ⟨g1, g2, g3, g4, g5, g6, g7, g8, g9⟩ := g
  have vt := g4
  unfold vT at vt
  have y1 : (rd B n (stp B n (tix E B n t))).2.2.1 = tO E B n t := rfl
  have y2 : (rd B n (stp B n (tix E B n t + 1))).2.2.1 = tY E B n t := rfl
  have y3 : (rd B n (stp B n (tix E B n t + 2))).2.2.1 = tL E B n t := rfl
  unfold hdF
  rw [ff_0 (upok (m := 399) (g9 _ (by omega) (by omega)) (by omega) (by omega)), cnd_0 (fun ⟨u, hu, q⟩ => g3 u hu q), ff_0 (show okF.1 = 0 from rfl), ff_0 (upok (m := 45) (g9 _ (by omega) (by omega)) (by omega) (by omega)), cnd_0 (fun q => q g4), ff_0 (show okF.1 = 0 from rfl), ff_0 (upok (g9 _ (by omega) (by omega)) (by omega) ?_), cnd_0 (by omega)]
  · rfl
  · rw [y3]
    by_cases q : tY E B n t < 20
    · rw [if_pos q]; have := g7 q; omega
    · rw [if_neg q]; omega
theorem dc_AT {E : MM} {B : Int → Int} {n : Int} (h : (dcF E B n).1 = 0) : (mkF B n).1 = 0 ∧ (upf B n 2 400).1 = 0 ∧ AT E B n (nvl B n 0) ∧ (lnkF E B n (nvl B n 0).toNat).1 = 0 ∧ (upf B n (stp B n (rJ E B n (nvl B n 0))) 108).1 = 0 ∧ (rtsF E B n (nvl B n 0) (rC E B n (nvl B n 0)).toNat).1 = 0 ∧ (chkF B n (rE E B n (nvl B n 0))).1 = 0 ∧ (wlF E B n (nvl B n 0)).1 = 0 := by
  unfold dcF at h
  obtain ⟨h1, h⟩ := ff_z h
  obtain ⟨h2, h⟩ := ff_z h
  obtain ⟨h3, h⟩ := ff_z h
  obtain ⟨h4, h⟩ := ff_z h
  obtain ⟨h5, h⟩ := ff_z h
  obtain ⟨h6, h⟩ := ff_z h
  obtain ⟨h7, h8⟩ := ff_z h
  have u := upf_0 h2
  have c0 : 0 ≤ nvl B n 0 := u.2.1
  have c4 : nvl B n 0 ≤ 400 := u.2.2
  refine ⟨h1, h2, ⟨c0, c4, fun t ht => ?_⟩, h4, h5, h6, h7, h8⟩
  obtain ⟨a, b⟩ := thsF_ok h3 t (by omega)
  exact ⟨hdF_ok a, fun k hk => slsF_ok b k (by omega)⟩
set_option maxHeartbeats 1000000 in
theorem Gd_le {C C' R0 R1 : MM} {B : Int → Int} {n : Int} (hY : Rty C R0) (hY' : Rty C' R1) (hl : tyLe C C') (h : Gd C B n) : Gd C' B n ∧ ∀ t : Nat, (t : Int) ≤ nvl B n 0 → tix C' B n t = tix C B n t := by
  obtain ⟨hd, hu⟩ := h
  obtain ⟨h1, h2, hA, h4, h5, h6, h7, h8⟩ := dc_AT hd
  obtain ⟨c0, c4, hA'⟩ := id hA
  have le8 := hl.1
  have so' : ∀ t : Nat, (t : Int) < nvl B n 0 → ∀ m, so C' (tY C B n t) m = so C (tY C B n t) m := fun t ht m => le_so hY hl (hA' t ht).1.2.2.2.1 (fun q => hu t ht q)
  have tx : ∀ t : Nat, (t : Int) ≤ nvl B n 0 → tix C' B n t = tix C B n t := by
    intro t
    induction t with
    | zero => intro _; rfl
    | succ t ih =>
      intro ht
      have i := ih (by omega)
      show tix C' B n t + 3 + (so C' (nvl B n (tix C' B n t + 1)) (nvl B n (tix C' B n t + 2))).toNat = _
      rw [i, tix_s]
      have := so' t (by omega) (tL C B n t)
      unfold tN
      rw [← this]; rfl
  have eY : ∀ t : Nat, (t : Int) < nvl B n 0 → tO C' B n t = tO C B n t ∧ tY C' B n t = tY C B n t ∧ tL C' B n t = tL C B n t ∧ tN C' B n t = tN C B n t ∧ ∀ k, sj C' B n t k = sj C B n t k := fun t ht => by
    have i := tx t (by omega)
    have a : tY C' B n t = tY C B n t := by unfold tY; rw [i]
    have b : tL C' B n t = tL C B n t := by unfold tL; rw [i]
    exact ⟨by unfold tO; rw [i], a, b, by unfold tN; rw [a, b]; exact so' t ht _, fun k => by unfold sj; rw [i]⟩
  have eF : ∀ t : Nat, (t : Int) ≤ nvl B n 0 → tF C' B n t = tF C B n t := by
    intro t
    induction t with
    | zero => intro _; rfl
    | succ t ih => intro ht; rw [tF_s, tF_s, ih (by omega), (eY t (by omega)).2.2.2.1]
  have ekA : ∀ t : Nat, (t : Int) < nvl B n 0 → ∀ k : Nat, (k : Int) < tN C B n t → kA C' (tY C B n t) k = kA C (tY C B n t) k ∧ lA C' (tY C B n t) k = lA C (tY C B n t) k := fun t ht k hk => le_kA hY hl (hA' t ht).1.2.2.2.1 (fun q => hu t ht q) (by omega) (tN16 hk)
  have esv : ∀ t : Nat, (t : Int) < nvl B n 0 → ∀ k : Nat, (k : Int) < tN C B n t → sv C' B n t k = sv C B n t k := fun t ht k hk => by
    obtain ⟨-, e2, -, -, e5⟩ := eY t ht
    unfold sv; rw [e2, e5, (ekA t ht k hk).1]
  have hG : ∀ t : Nat, (t : Int) < nvl B n 0 → GT C' B n t := fun t ht => by
    obtain ⟨g1, g2, g3, g4, g5, g6, g7, g8, g9⟩ := (hA' t ht).1
    obtain ⟨e1, e2, e3, e4, -⟩ := eY t ht
    refine ⟨by rw [e1]; exact g1, by rw [e1]; exact g2, fun u hu' => by rw [e1, (eY u (by omega)).1]; exact g3 u hu', ?_, by rw [e3]; exact g5, by rw [e3]; exact g6, fun q => by rw [e3]; exact g7 (by rw [← e2]; exact q), by rw [eF t (by omega), e4]; exact g8, by rw [tx t (by omega)]; exact g9⟩
    rw [e2]
    unfold vT at g4 ⊢
    omega
  have sl : ∀ t : Nat, (t : Int) < nvl B n 0 → ∀ k : Nat, (k : Int) < tN C B n t → (slF C' B n (nvl B n 0) t k).1 = 0 := fun t ht k hk => by
    obtain ⟨-, e2, -, -, e5⟩ := eY t ht
    have s := (hA' t ht).2 k hk
    unfold slF at s ⊢
    rw [e2, e5, (ekA t ht k hk).1]; exact s
  have sls : ∀ t : Nat, (t : Int) < nvl B n 0 → ∀ k : Nat, (k : Int) ≤ tN C B n t → (slsF C' B n (nvl B n 0) t k).1 = 0 := by
    intro t ht k
    induction k with
    | zero => intro _; rfl
    | succ k ih =>
      intro hk
      show (ff (slsF C' B n (nvl B n 0) t k) (slF C' B n (nvl B n 0) t k)).1 = 0
      rw [ff_0 (ih (by omega))]; exact sl t ht k (by omega)
  have ths : ∀ t : Nat, (t : Int) ≤ nvl B n 0 → (thsF C' B n (nvl B n 0) t).1 = 0 := by
    intro t
    induction t with
    | zero => intro _; rfl
    | succ t ih =>
      intro ht
      have nb' := tN_bd hY (hA' t (by omega)).1
      show (ff (thsF C' B n (nvl B n 0) t) (ff (hdF C' B n t) (slsF C' B n (nvl B n 0) t (tN C' B n t).toNat))).1 = 0
      rw [ff_0 (ih (by omega)), ff_0 (hdF_of hY'.2.2.1 (hG t (by omega))), (eY t (by omega)).2.2.2.1]
      exact sls t (by omega) _ (by omega)
  have lks : ∀ t : Nat, (t : Int) < nvl B n 0 → ∀ k : Nat, (k : Int) ≤ tN C B n t → (lksF C' B n t k).1 = 0 := by
    intro t ht k
    induction k with
    | zero => intro _; rfl
    | succ k ih =>
      intro hk
      show (ff (lksF C' B n t k) (lkF C' B n t k)).1 = 0
      rw [ff_0 (ih (by omega))]
      unfold lkF
      rw [cnd_0]
      · rfl
      · rintro ⟨q1, q2, q3⟩
        obtain ⟨-, e2, -, -, e5⟩ := eY t ht
        obtain ⟨k1, k2⟩ := ekA t ht k (by omega)
        rw [e2, k1] at q1
        rw [esv t ht k (by omega)] at q2 q3
        have v01 := AT_v hA ht (by omega) q1
        rcases lnkF_ok h4 t (by omega) k (by omega) q1 with w | w
        · exact q2 w
        · apply q3
          obtain ⟨V, eV⟩ : ∃ V : Nat, sv C B n t k = V := ⟨(sv C B n t k).toNat, by omega⟩
          rw [eV, show ((V : Int)).toNat = V from by omega] at w ⊢
          rw [e2, k2, (eY V (by omega)).2.1]
          exact le_ft hY hl (hA' V (by omega)).1.2.2.2.1 w
  have lnk : ∀ t : Nat, (t : Int) ≤ nvl B n 0 → (lnkF C' B n t).1 = 0 := by
    intro t
    induction t with
    | zero => intro _; rfl
    | succ t ih =>
      intro ht
      have nb' := tN_bd hY (hA' t (by omega)).1
      show (ff (lnkF C' B n t) (lksF C' B n t (tN C' B n t).toNat)).1 = 0
      rw [ff_0 (ih (by omega)), (eY t (by omega)).2.2.2.1]
      exact lks t (by omega) _ (by omega)
  have eJ : rJ C' B n (nvl B n 0) = rJ C B n (nvl B n 0) := tx _ (by omega)
  have eC : rC C' B n (nvl B n 0) = rC C B n (nvl B n 0) := by unfold rC; rw [eJ]
  have eH : ∀ r, rH C' B n (nvl B n 0) r = rH C B n (nvl B n 0) r := fun r => by
    cases r with
    | zero => rfl
    | succ r => show rN C' B n (nvl B n 0) r = rN C B n (nvl B n 0) r; unfold rN; rw [eJ]
  have eR : ∀ r, rtsF C' B n (nvl B n 0) r = rtsF C B n (nvl B n 0) r := by
    intro r
    induction r with
    | zero => rfl
    | succ r ih =>
      show ff (rtsF C' B n (nvl B n 0) r) (rtF C' B n (nvl B n 0) r) = ff (rtsF C B n (nvl B n 0) r) (rtF C B n (nvl B n 0) r)
      rw [ih]
      unfold rtF rN
      rw [eJ, eH]
  have eW : wkW C' B n (nvl B n 0) = wkW C B n (nvl B n 0) := by
    unfold wkW
    rw [eC, wR_c (f := rtS C' B n (nvl B n 0)) (g := rtS C B n (nvl B n 0)) _ (fun r _ => by unfold rtS rQ; rw [eJ])]
    refine wTh_c _ fun t ht => ?_
    have ht' : (t : Int) < nvl B n 0 := by omega
    have nb' := tN_bd hY (hA' t ht').1
    refine ⟨by unfold ctS; rw [show ((t : Int)).toNat = t from by omega]; exact (eY t ht').2.2.2.1, fun k hk => ?_⟩
    unfold ctS at hk
    rw [show ((t : Int)).toNat = t from by omega] at hk
    unfold lvS
    rw [show ((t : Int)).toNat = t from by omega, show ((k : Int)).toNat = k from by omega, (eY t ht').2.1, (ekA t ht' k (by omega)).1, esv t ht' k (by omega)]
  refine ⟨⟨?_, fun u hu' q => ?_⟩, tx⟩
  · unfold dcF
    rw [ff_0 h1, ff_0 h2, ff_0 (ths _ (by omega)), ff_0 (lnk _ (by omega)), eJ, ff_0 h5, eC, eR, ff_0 h6]
    have e1 : rE C' B n (nvl B n 0) = rE C B n (nvl B n 0) := by unfold rE; rw [eJ, eC]
    rw [e1, ff_0 h7]
    unfold wlF at h8 ⊢
    rw [eW]
    by_cases w : (wkW C B n (nvl B n 0)).2 ≠ 0 ∨ (wkW C B n (nvl B n 0)).1 < nvl B n 0
    · rw [cnd_1 w] at h8; exact absurd (show (7 : Int) = 0 from h8) (by decide)
    · rw [cnd_0 w]; rfl
  · rw [(eY u hu').2.1] at q ⊢
    have g4 := (hA' u hu').1.2.2.2.1
    unfold vT at g4
    have h16 := hY.2.2.1
    exact ((hl.2 _ (by omega) (by omega)).2.2.1 (hu u hu' q)).1
