/-! a picture is taken: the reference, whole -/
theorem stv_in {C R R0 : MM} (hY : Rty C R0) (hH : Rhp C R) {f : Nat} (hf : (f : Int) < 6 * C 8 0) (h : stv C f ≠ -1) : stv C f ∈ wkL C := by
  obtain ⟨-, -, w3, -⟩ := wkL_ok hY hH
  refine w3 _ ?_
  unfold rtL
  refine fm_has _ f (by omega) ?_
  rcases stv_lt hY hH hf with q | q
  · exact absurd q h
  · exact q.1
theorem told_in {C R R0 : MM} (hY : Rty C R0) (hH : Rhp C R) {k : Int} (k0 : 0 ≤ k) (k1 : k < C 26 11) : C 33 k ∈ wkL C := by
  obtain ⟨-, -, w3, -⟩ := wkL_ok hY hH
  obtain ⟨g1, g2, g3, g4, g5⟩ := hH.2.2.2.2.2.2.2.2.2.2.2.1
  refine w3 _ ?_
  unfold rtL
  have h := (g4 k k0 k1).2.1
  have e : (fun j : Nat => C 33 (j : Int)) k.toNat = C 33 k := by
    show C 33 ((k.toNat : Nat) : Int) = _
    rw [show ((k.toNat : Nat) : Int) = k from by omega]
  rw [← e] at h ⊢
  exact fm_sub (fm_has (f := fun j : Nat => C 33 (j : Int)) _ k.toNat (by omega) h) _
theorem sN_bf {C R R0 : MM} (hY : Rty C R0) (hH : Rhp C R) (m : Nat) : ∀ k L, sN C L → (∀ o ∈ L, hOk C o) → sN C (bf (slk C) (lnN C) m k L) := by
  induction m with
  | zero => intro k L h _; exact h
  | succ m ih =>
    intro k L h hok
    show sN C (if k < L.length then bf (slk C) (lnN C) m (k + 1) (fm (slk C (L.getD k 0)) (lnN C (L.getD k 0)) L) else L)
    by_cases z : k < L.length
    · rw [if_pos z]
      have ho := hok _ (gD_mem z)
      exact ih _ _ (sN_fm h _ (slk_n hY hH _ ho)) (fm_ok _ hok (fun j hj => slk_lt hY hH ho hj))
    · rw [if_neg z]; exact h
theorem sN_wk {C R R0 : MM} (hY : Rty C R0) (hH : Rhp C R) : sN C (wkL C) := by
  obtain ⟨rw1, rw2⟩ := rtL_wl hY hH
  obtain ⟨g1, g2, g3, g4, g5⟩ := hH.2.2.2.2.2.2.2.2.2.2.2.1
  have n0 := hH.2.1
  refine sN_bf hY hH _ _ _ ?_ rw2
  refine sN_fm (sN_fm (sN_nil C) _ fun j hj => (g4 j (by omega) (by omega)).2.2.1) _ fun j hj => ?_
  rcases stv_lt hY hH (f := j) (by omega) with q | q
  · omega
  · exact q.2.1
def RP (C M : MM) (p : Int) : Prop := M 38 p = (wkL C).length ∧ RR M p (wkL C) (rtX C) ∧ RT C M p (wkL C) (wkL C).length 0
set_option maxHeartbeats 1000000 in
theorem p_R_picture0 {Q : Int → MM → Prop} {C R : MM} {p : Int} (hY : Rty C R) (hH : Rhp C R) (p0 : 0 ≤ p) (p5 : p < 5) (hq : ∀ A M, WR R A (wkL C) → fP A M p → RP C M p → Q 0 M) : w_X12_picture0 Q p R := by
  obtain ⟨w1, w2, w3, w4⟩ := wkL_ok hY hH
  obtain ⟨g1, g2, g3, g4, g5⟩ := hH.2.2.2.2.2.2.2.2.2.2.2.1
  have h13 := hH.2.2.2.2.2.2.2.2.2.2.2.2.1
  have n0 := hH.2.1
  have n4 := hH.2.2.1
  have h0 := hY.2.1
  have h16 := hY.2.2.1
  have h20 := hY.1
  have hll := wl_len w1 n0
  have hsn := sN_wk hY hH
  unfold w_X12_picture0
  refine p_R_walkRoots hY hH fun A hA => ?_
  intro v3 e3 _
  rw [hA.2.2.1] at e3
  subst e3
  refine ⟨p0, p5, fun M4 e4 => ⟨p0, p5, fun M5 e5 v6 e6 _ => ?_⟩⟩
  have f5 : fP A M5 p := by
    rw [e5, e4]
    exact fP_u (fP_u (fP_r A p) (by omega) (by omega) (by unfold rw_; omega)) (by omega) (by omega) (by unfold rw_; omega)
  have k38 : M5 38 p = (wkL C).length := by rw [e5, ux_c _ _ _ _ (by decide), e4, ux_s]
  have r5 : RR M5 p (wkL C) [] := ⟨by rw [e5, ux_s]; rfl, by simp, fun r hr => by simp at hr⟩
  rw [f5.1 0 (by omega), hA.2.1 31 (by decide), ← g1] at e6
  subst e6
  have gY : ∀ M', fP A M' p → Rty C M' := fun M' h' => Rty_R hY (fun k a b _ => by rw [h'.1 k (by omega), hA.1 k (by simp; omega)]) (by rw [h'.1 0 (by omega), hA.2.1 20 (by decide)])
  have second : ∀ M, fP A M p → M 38 p = (wkL C).length → RR M p (wkL C) (rS C 0) → w_X12_picture0_b61 Q p (C 26 11) 0 M := by
    intro M hf hk hr
    refine loop4 _ (fun (x n a : Int) M1 => p = x ∧ 0 ≤ a ∧ a ≤ 6 * C 8 0 ∧ n = C 26 11 + nS C a.toNat ∧ fP A M1 p ∧ M1 38 p = (wkL C).length ∧ RR M1 p (wkL C) (rS C a.toNat)) (fun _ _ (a : Int) _ => (6 * C 8 0 - a).toNat) ?_ _ _ _ _ ⟨rfl, by omega, by omega, by show _ = C 26 11 + 0; omega, hf, hk, hr⟩
    rintro _ n a M1 f ⟨rfl, a0, a1, hn, hf1, hk1, hr1⟩ ih
    have ka : ((a.toNat : Nat) : Int) = a := by omega
    have sn : (a + 1).toNat = a.toNat + 1 := by omega
    have nba := nS_bd C a.toNat
    have hrl := (rS_len C a.toNat).1
    unfold wb_X12_picture0_b61
    intro v1 e1 _
    rw [hf1.1 0 (by omega), hA.2.1 20 (by decide), ← h20] at e1
    subst e1
    refine ⟨by unfold ri_; omega, fun z => ?_, fun z => ?_⟩
    · have e : a.toNat = (6 * C 8 0).toNat := by omega
      rw [e] at hr1
      refine p_R_pic128 hY hH p0 p5 hA w2 w1 hsn w4 hf1 fun M2 hf2 ht2 fr2 => hq A M2 hA hf2 ⟨by rw [fr2 38 (by decide)]; exact hk1, ?_, ht2⟩
      unfold RR at hr1 ⊢
      rw [fr2 55 (by decide), fr2 56 (by decide), fr2 57 (by decide)]
      exact hr1
    · have es : ∀ x, stv C a.toNat = x → rS C (a.toNat + 1) = if x = -1 then rS C a.toNat else rS C a.toNat ++ [(C 26 11 + nS C a.toNat, x)] := fun x hx => by rw [← hx]; rfl
      have nxt : ∀ n' M2, n' = C 26 11 + nS C (a.toNat + 1) → fP A M2 p → M2 38 p = (wkL C).length → RR M2 p (wkL C) (rS C (a.toNat + 1)) → w_X12_picture0_b117 Q f p n' a M2 := fun n' M2 hn' q1 q2 q3 => by
        unfold w_X12_picture0_b117
        exact ⟨by unfold ri_; omega, ih _ _ _ _ ⟨rfl, by omega, by omega, by rw [sn]; exact hn', q1, q2, by rw [sn]; exact q3⟩ (by omega)⟩
      refine p_R_isLS (gY M1 hf1) a0 (by omega) (fun q1 q2 _ => ⟨fun _ => ⟨a0, by omega, fun v7 e7 _ => ?_⟩, fun q => by omega⟩) (fun q _ => ⟨fun q2 => absurd rfl q2, fun _ => nxt n M1 ?_ hf1 hk1 ?_⟩)
      · have en : nS C (a.toNat + 1) = nS C a.toNat + 1 := by rw [nS_s, ka, if_neg q1, if_pos q2]
        rw [hf1.1 6 (by omega), hA.1 6 (by decide), ← h13 a a0 (by omega)] at e7
        have esv : stv C a.toNat = v7 := by unfold stv; rw [ka, if_neg q1, if_pos q2, e7]
        have n114 : ∀ M2, fP A M2 p → M2 38 p = (wkL C).length → RR M2 p (wkL C) (rS C (a.toNat + 1)) → w_X12_picture0_b114 Q f p n a M2 := fun M2 x1 x2 x3 => by
          unfold w_X12_picture0_b114
          exact ⟨by unfold ri_; omega, nxt (n + 1) M2 (by rw [en, hn]; omega) x1 x2 x3⟩
        refine ⟨fun z7 => n114 M1 hf1 hk1 (by rw [es v7 esv, if_pos z7]; exact hr1), fun z7 => ⟨a0, by omega, fun v9 e9 _ => ?_⟩⟩
        rw [hf1.1 6 (by omega), hA.1 6 (by decide), ← h13 a a0 (by omega), ← e7] at e9
        subst e9
        have hv : hOk C v9 := by
          rcases stv_lt hY hH (f := a.toNat) (by omega) with q | q
          · rw [esv] at q; exact absurd q z7
          · rw [esv] at q; exact q
        have hv0 := hv.1
        have hv1 := hv.2.1
        refine ⟨by unfold ri_; omega, hv0, by omega, fun v11 e11 _ => ?_⟩
        rw [hf1.1 37 (by omega), hA.2.2.2.2 v9 hv0 (by omega)] at e11
        refine p_R_addRoot (v := v9) p0 p5 hf1 hr1 (by omega) e11 (fun M2 x1 x2 x3 => n114 M2 x1 (by rw [x3 38 (by decide) (by decide) (by decide)]; exact hk1) ?_)
        rw [es v9 esv, if_neg z7, ← hn]; exact x2
      · have en : nS C (a.toNat + 1) = nS C a.toNat := by
          rw [nS_s, ka]
          by_cases y : C 21 a = 0
          · rw [if_pos y]; omega
          · rw [if_neg y, if_neg (fun y2 => q ⟨y, y2⟩)]; omega
        rw [en]; exact hn
      · have esv : stv C a.toNat = -1 := by
          unfold stv
          rw [ka]
          by_cases y : C 21 a = 0
          · rw [if_pos y]
          · rw [if_neg y, if_neg (fun y2 => q ⟨y, y2⟩)]
        rw [es (-1) esv, if_pos rfl]; exact hr1
  refine loop4 _ (fun (x n a : Int) M1 => p = x ∧ C 26 11 = n ∧ 0 ≤ a ∧ a ≤ C 26 11 ∧ fP A M1 p ∧ M1 38 p = (wkL C).length ∧ RR M1 p (wkL C) (rT C a.toNat)) (fun _ _ (a : Int) _ => (C 26 11 - a).toNat) ?_ _ _ _ _ ⟨rfl, rfl, by omega, g2, f5, k38, r5⟩
  rintro _ _ a M1 f ⟨rfl, rfl, a0, a1, hf1, hk1, hr1⟩ ih
  have ka : ((a.toNat : Nat) : Int) = a := by omega
  unfold wb_X12_picture0_b28
  intro v1 e1 _
  rw [hf1.1 0 (by omega), hA.2.1 31 (by decide), ← g1] at e1
  subst e1
  refine ⟨fun z => second M1 hf1 hk1 ?_, fun z => ⟨a0, by omega, fun v3 e3 _ => ?_⟩⟩
  · have e : a.toNat = (C 26 11).toNat := by omega
    rw [e] at hr1; exact hr1
  rw [hf1.1 24 (by omega), hA.1 24 (by decide), ← (g4 a a0 (by omega)).1] at e3
  subst e3
  have ho := (g4 a a0 (by omega)).2
  have ho0 := ho.1
  have ho1 := ho.2.1
  refine ⟨ho0, by omega, fun v4 e4' _ => ?_⟩
  rw [hf1.1 37 (by omega), hA.2.2.2.2 _ ho0 (by omega)] at e4'
  refine p_R_addRoot (v := C 33 a) p0 p5 hf1 hr1 (by rw [rT_len]; omega) e4' (fun M2 x1 x2 x3 => ⟨by unfold ri_; omega, ih _ _ _ _ ⟨rfl, rfl, by omega, by omega, x1, by rw [x3 38 (by decide) (by decide) (by decide)]; exact hk1, ?_⟩ (by omega)⟩)
  rw [show (a + 1).toNat = a.toNat + 1 from by omega]
  show RR M2 p (wkL C) (rT C a.toNat ++ [(((a.toNat : Nat) : Int), C 33 (a.toNat : Nat))])
  rw [ka]; exact x2
