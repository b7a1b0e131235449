/-! a picture is taken: the reference -/
/-- the places of one picture in the reference's rows -/
def rw_ (k : Nat) (p i : Int) : Prop := ((k = 38 ∨ (52 ≤ k ∧ k ≤ 55)) ∧ i = p) ∨ (((39 ≤ k ∧ k ≤ 51) ∨ k = 59) ∧ 400 * p ≤ i ∧ i < 400 * p + 400) ∨ ((k = 56 ∨ k = 57) ∧ 128 * p ≤ i ∧ i < 128 * p + 128) ∨ (k = 58 ∧ 4000 * p ≤ i ∧ i < 4000 * p + 4000)
def fP (A M : MM) (p : Int) : Prop := (∀ k, (k < 38 ∨ 59 < k) → M k = A k) ∧ ∀ k i, 38 ≤ k → k ≤ 59 → ¬ rw_ k p i → M k i = A k i
theorem fP_r (A : MM) (p : Int) : fP A A p := ⟨fun _ _ => rfl, fun _ _ _ _ _ => rfl⟩
theorem fP_u {A M : MM} {p : Int} (h : fP A M p) {k : Nat} {i v : Int} (k0 : 38 ≤ k) (k1 : k ≤ 59) (hr : rw_ k p i) : fP A (ux_ M k i v) p := by
  refine ⟨fun q hq => funext fun j => by rw [ux_c _ _ _ _ (by omega), h.1 q hq], fun q j a b hn => ?_⟩
  by_cases z : q = k
  · subst z
    rw [ux_i _ _ _ (fun e => hn (by rw [e]; exact hr))]; exact h.2 q j a b hn
  · rw [ux_c _ _ _ _ z]; exact h.2 q j a b hn
theorem p_at {Q : Int → MM → Prop} {p t : Int} {M : MM} (p0 : 0 ≤ p) (p5 : p < 5) (t0 : 0 ≤ t) (t4 : t < 400) (h : Q (400 * p + t) M) : w_X12_at Q p t M := by
  unfold w_X12_at
  exact ⟨by unfold ri_; omega, by unfold ri_; omega, h⟩
/-- roots, and the rows of the things, as they are laid down -/
def RR (M : MM) (p : Int) (L : List Int) (rs : List (Int × Int)) : Prop := M 55 p = rs.length ∧ (rs.length : Int) ≤ 108 ∧ ∀ r : Nat, r < rs.length → M 56 (128 * p + r) = (rs.getD r (0, 0)).1 ∧ M 57 (128 * p + r) = ix L (rs.getD r (0, 0)).2
theorem p_R_addRoot {Q : Int → MM → Prop} {A M : MM} {p n x v : Int} {L : List Int} {rs : List (Int × Int)} (p0 : 0 ≤ p) (p5 : p < 5) (hf : fP A M p) (h : RR M p L rs) (hr : (rs.length : Int) < 108) (hx : x = ix L v) (hq : ∀ M', fP A M' p → RR M' p L (rs ++ [(n, v)]) → (∀ k, k ≠ 55 → k ≠ 56 → k ≠ 57 → M' k = M k) → Q 0 M') : w_X12_addRoot Q p n x M := by
  obtain ⟨h1, h2, h3⟩ := h
  unfold w_X12_addRoot
  refine ⟨by unfold ri_; omega, p0, p5, fun v2 e2 _ => ?_⟩
  rw [h1] at e2
  subst e2
  refine ⟨by unfold ri_; omega, by omega, by omega, fun M4 e4 => ⟨by unfold ri_; omega, p0, p5, fun v6 e6 _ => ?_⟩⟩
  rw [e4, ux_c _ _ _ _ (by decide), h1] at e6
  subst e6
  refine ⟨by unfold ri_; omega, by omega, by omega, fun M8 e8 => ⟨p0, p5, fun v9 e9 _ => ?_⟩⟩
  rw [e8, e4, ux_c _ _ _ _ (by decide), ux_c _ _ _ _ (by decide), h1] at e9
  subst e9
  refine ⟨by unfold ri_; omega, p0, p5, fun M11 e11 => hq M11 ?_ ⟨?_, ?_, fun r hr2 => ?_⟩ (fun k a b c => funext fun i => by rw [e11, e8, e4, ux_c _ _ _ _ a, ux_c _ _ _ _ c, ux_c _ _ _ _ b])⟩
  · rw [e11, e8, e4]
    exact fP_u (fP_u (fP_u hf (by omega) (by omega) (by unfold rw_; omega)) (by omega) (by omega) (by unfold rw_; omega)) (by omega) (by omega) (by unfold rw_; omega)
  · rw [e11, ux_s, List.length_append]; simp
  · rw [List.length_append]; simp; omega
  · rw [List.length_append] at hr2
    simp at hr2
    rw [e11, ux_c _ _ _ _ (by decide), ux_c _ _ _ _ (by decide), e8]
    by_cases y : r = rs.length
    · rw [ux_c _ _ _ _ (by decide), e4, y, ux_s, ux_s, xg_last]
      exact ⟨rfl, hx⟩
    · rw [ux_c _ _ _ _ (by decide), ux_i _ _ _ (by omega), e4, ux_i _ _ _ (by omega), ux_c _ _ _ _ (by decide), xg_app (by omega)]
      exact h3 r (by omega)
/-- the things that were laid down -/
def RT (C M : MM) (p : Int) (W : List Int) (T K : Nat) : Prop := (∀ t : Nat, t < W.length → (t < T ∨ (t = T ∧ 0 < K)) → M 39 (400 * p + t) = W.getD t 0 ∧ M 40 (400 * p + t) = C 27 (W.getD t 0) ∧ M 41 (400 * p + t) = C 28 (W.getD t 0) ∧ M 42 (400 * p + t) = sL C W t) ∧ ∀ t k : Nat, t < W.length → (t < T ∨ (t = T ∧ k + 1 < K)) → k < lnN C (W.getD t 0) → M 58 (4000 * p + sL C W t + k) = pv C W (W.getD t 0) k
set_option maxHeartbeats 1000000 in
theorem p_R_pic128 {Q : Int → MM → Prop} {C R A M : MM} {p : Int} {W : List Int} (hY : Rty C R) (hH : Rhp C R) (p0 : 0 ≤ p) (p5 : p < 5) (hA : WR R A W) (hW : ∀ o ∈ W, hOk C o) (hwl : wl (C 26 1) W) (hsn : sN C W) (hcl : ∀ o ∈ W, ∀ k, k < lnN C o → 0 ≤ slk C o k → slk C o k ∈ W) (hf : fP A M p) (hq : ∀ M', fP A M' p → RT C M' p W W.length 0 → (∀ k, k ∉ [39, 40, 41, 42, 58] → M' k = M k) → Q 0 M') : w_X12_picture0_b128 Q p 0 0 M := by
  have n0 := hH.2.1
  have n4 := hH.2.2.1
  have hll := wl_len hwl n0
  have hsl := sN_le hY hH hsn hW
  refine loop4 _ (fun (a s t : Int) M1 => p = a ∧ 0 ≤ t ∧ t ≤ W.length ∧ s = sL C W t.toNat ∧ fP A M1 p ∧ RT C M1 p W t.toNat 0 ∧ (∀ k, k ∉ [39, 40, 41, 42, 58] → M1 k = M k)) (fun _ _ (t : Int) _ => ((W.length : Int) - t).toNat) ?_ _ _ _ _ ⟨rfl, by omega, by omega, rfl, hf, ⟨fun t _ q => by omega, fun t k _ q => by omega⟩, fun _ _ => rfl⟩
  rintro _ s t M1 f ⟨rfl, t0, t1, rfl, hf1, hr, hfr⟩ ih
  have tt : ((t.toNat : Nat) : Int) = t := by omega
  have q0 : ∀ i, M1 0 i = A 0 i := fun i => by rw [hf1.1 0 (by omega)]
  unfold wb_X12_picture0_b128
  intro v1 e1 _
  rw [q0, hA.2.2.1] at e1
  subst e1
  refine ⟨fun z => ?_, fun z => ⟨t0, by omega, fun v3 e3 _ => ?_⟩⟩
  · have e : t.toNat = W.length := by omega
    rw [e] at hr
    exact hq M1 hf1 hr hfr
  · have hk := hA.2.2.2.1 t.toNat (by omega)
    rw [tt] at hk
    rw [hf1.1 36 (by omega), hk] at e3
    have ho := hW _ (gD_mem (L := W) (k := t.toNat) (by omega))
    rw [← e3] at ho
    have hat := hp_at hY hH ho
    have ho0 := ho.1
    obtain ⟨ty, hv, -, tl, -⟩ := (hH.2.2.2.2.2.2.2.2.2.1 v3 ho.1 ho.2.1).2 ho.2.2
    have hb := ((hH.2.2.2.2.2.2.2.2.2.1 v3 ho.1 ho.2.1).2 ho.2.2).2.2.2.2.2.2.2.2.2
    have hln : ((lnN C v3 : Nat) : Int) = ln C v3 := by unfold lnN; omega
    have es : sL C W (t.toNat + 1) = sL C W t.toNat + ln C v3 := by rw [e3]; rfl
    have hs0 := (sL_mono hY hH hW 0 t.toNat (by omega) (by omega)).1
    have hs1 := (sL_mono hY hH hW (t.toNat + 1) W.length (by omega) (Nat.le_refl _)).1
    have z0 : sL C W 0 = 0 := rfl
    have g19 : ∀ M', fP A M' p → M' 19 = R 19 := fun M' h' => by rw [h'.1 19 (by omega), hA.1 19 (by decide)]
    have g20 : ∀ M', fP A M' p → M' 20 = R 20 := fun M' h' => by rw [h'.1 20 (by omega), hA.1 20 (by decide)]
    have gY : ∀ M', fP A M' p → Rty C M' := fun M' h' => Rty_R hY (fun k a b _ => by rw [h'.1 k (by omega), hA.1 k (by simp; omega)]) (by rw [h'.1 0 (by omega), hA.2.1 20 (by decide)])
    refine p_at p0 p5 t0 (by omega) fun _ => ⟨by omega, by omega, fun M6 e6 => p_at p0 p5 t0 (by omega) fun _ => ⟨ho0, by omega, fun v9 e9 _ => ⟨by omega, by omega, fun M10 e10 => p_at p0 p5 t0 (by omega) fun _ => ⟨ho0, by omega, fun v13 e13 _ => ⟨by omega, by omega, fun M14 e14 => p_at p0 p5 t0 (by omega) fun _ => ⟨by omega, by omega, fun M17 e17 => ⟨ho0, by omega, fun v18 e18 _ => ⟨ho0, by omega, fun v19 e19 _ => ?_⟩⟩⟩⟩⟩⟩⟩⟩
    have hf6 : fP A M6 p := by rw [e6]; exact fP_u hf1 (by omega) (by omega) (by unfold rw_; omega)
    have hf10 : fP A M10 p := by rw [e10]; exact fP_u hf6 (by omega) (by omega) (by unfold rw_; omega)
    have hf14 : fP A M14 p := by rw [e14]; exact fP_u hf10 (by omega) (by omega) (by unfold rw_; omega)
    have hf17 : fP A M17 p := by rw [e17]; exact fP_u hf14 (by omega) (by omega) (by unfold rw_; omega)
    rw [g19 M6 hf6, ← ty] at e9
    rw [g20 M10 hf10, ← tl] at e13
    rw [g19 M17 hf17, ← ty] at e18
    rw [g20 M17 hf17, ← tl] at e19
    subst e9 e13 e18 e19
    refine p_R_so (gY M17 hf17) hv fun _ => ?_
    rw [show so C (C 27 v3) (C 28 v3) = ln C v3 from rfl]
    have r17 : RT C M17 p W t.toNat 1 := by
      refine ⟨fun t' ht' htt => ?_, fun t' k' ht' htt hk' => ?_⟩
      · rw [e17, e14, e10, e6]
        by_cases y : t' = t.toNat
        · subst y
          rw [tt, ux_s, ux_c _ _ _ _ (by decide), ux_c _ _ _ _ (by decide), ux_c _ _ _ _ (by decide), ux_s, ux_c _ _ _ _ (by decide), ux_c _ _ _ _ (by decide), ux_s, ux_c _ _ _ _ (by decide), ux_s, ← e3]
          exact ⟨rfl, rfl, rfl, rfl⟩
        · rw [ux_c _ _ _ _ (by decide), ux_c _ _ _ _ (by decide), ux_c _ _ _ _ (by decide), ux_i _ _ _ (by omega), ux_c _ _ _ _ (by decide), ux_c _ _ _ _ (by decide), ux_i _ _ _ (by omega), ux_c _ _ _ _ (by decide), ux_c _ _ _ _ (by decide), ux_i _ _ _ (by omega), ux_c _ _ _ _ (by decide), ux_c _ _ _ _ (by decide), ux_i _ _ _ (by omega), ux_c _ _ _ _ (by decide), ux_c _ _ _ _ (by decide), ux_c _ _ _ _ (by decide)]
          exact hr.1 t' ht' (by omega)
      · rw [e17, e14, e10, e6, ux_c _ _ _ _ (by decide), ux_c _ _ _ _ (by decide), ux_c _ _ _ _ (by decide), ux_c _ _ _ _ (by decide)]
        exact hr.2 t' k' ht' (by omega) hk'
    refine loop7 _ (fun (a b d e g k : Int) M2 => p = a ∧ sL C W t.toNat = b ∧ t = d ∧ v3 = e ∧ ln C v3 = g ∧ 0 ≤ k ∧ k ≤ ln C v3 ∧ fP A M2 p ∧ RT C M2 p W t.toNat (k.toNat + 1) ∧ (∀ k, k ∉ [39, 40, 41, 42, 58] → M2 k = M k)) (fun _ _ _ _ _ (k : Int) _ => (ln C v3 - k).toNat) ?_ _ _ _ _ _ _ _ ⟨rfl, rfl, rfl, rfl, rfl, by omega, hat.1, hf17, r17, fun k hk => ?_⟩
    · rintro _ _ _ _ _ k M2 g ⟨rfl, rfl, rfl, rfl, rfl, k0, k1, hf2, hr2, hfr2⟩ ih2
      have kk : ((k.toNat : Nat) : Int) = k := by omega
      unfold wb_X12_picture0_b234
      refine ⟨fun z => ⟨by unfold ri_; omega, by unfold ri_; omega, ih _ _ _ _ ⟨rfl, by omega, by omega, ?_, hf2, ?_, hfr2⟩ (by omega)⟩, fun z => ⟨ho0, by omega, fun v4 e4 _ => ?_⟩⟩
      · rw [show (t + 1).toNat = t.toNat + 1 from by omega, es]
      · rw [show (t + 1).toNat = t.toNat + 1 from by omega]
        refine ⟨fun t' ht' htt => hr2.1 t' ht' (by omega), fun t' k' ht' htt hk' => ?_⟩
        by_cases y : t' = t.toNat
        · refine hr2.2 t' k' ht' (Or.inr ⟨y, ?_⟩) hk'
          rw [y, ← e3] at hk'; omega
        · exact hr2.2 t' k' ht' (Or.inl (by omega)) hk'
      · rw [hf2.1 21 (by omega), hA.1 21 (by decide)] at e4
        subst e4
        refine ⟨by unfold ri_; omega, by omega, by omega, fun v6 e6' _ => ⟨by unfold ri_; omega, by unfold ri_; omega, by unfold ri_; omega, ?_⟩⟩
        rw [hf2.1 23 (by omega), hA.1 23 (by decide), ← (hb k k0 (by omega)).1] at e6'
        have kl : k.toNat < lnN C v3 := by omega
        have put : ∀ s, s = pv C W v3 k.toNat → w_X12_picture0_b306 Q f g p (sL C W t.toNat) t v3 (ln C v3) k s (4000 * p + sL C W t.toNat + k) M2 := by
          intro s hs
          unfold w_X12_picture0_b306
          refine ⟨by omega, by omega, fun M3 e3' => ⟨by unfold ri_; omega, ih2 _ _ _ _ _ _ _ ⟨rfl, rfl, rfl, rfl, rfl, by omega, by omega, ?_, ?_, fun k hk => ?_⟩ (by omega)⟩⟩
          · rw [e3']; exact fP_u hf2 (by omega) (by omega) (by unfold rw_; omega)
          · rw [show (k + 1).toNat = k.toNat + 1 from by omega]
            refine ⟨fun t' ht' htt => ?_, fun t' k' ht' htt hk' => ?_⟩
            · rw [e3', ux_c _ _ _ _ (by decide), ux_c _ _ _ _ (by decide), ux_c _ _ _ _ (by decide), ux_c _ _ _ _ (by decide)]
              exact hr2.1 t' ht' (by omega)
            · rw [e3']
              by_cases y : t' = t.toNat ∧ k' = k.toNat
              · rw [y.1, y.2, kk, ux_s, hs, ← e3]
              · have lo : t' < t.toNat ∨ (t' = t.toNat ∧ k' < k.toNat) := by omega
                have hlt : sL C W t' + k' < sL C W t.toNat + k := by
                  rcases lo with q | ⟨q1, q2⟩
                  · have m := (sL_mono hY hH hW (t' + 1) t.toNat (by omega) (by omega)).1
                    have e : sL C W (t' + 1) = sL C W t' + ln C (W.getD t' 0) := rfl
                    unfold lnN at hk'
                    omega
                  · rw [q1]; omega
                rw [ux_i _ _ _ (by omega)]
                exact hr2.2 t' k' ht' (by omega) hk'
          · funext i
            rw [e3', ux_c _ _ _ _ (by intro q; rw [q] at hk; revert hk; decide), hfr2 k hk]
        unfold w_X12_isLinkSlot
        refine ⟨ho0, by omega, fun u1 h1 _ => ?_⟩
        rw [g19 M2 hf2, ← ty] at h1
        subst h1
        refine p_R_kA (gY M2 hf2) hv k0 (ln_c (by omega)) fun _ => ⟨fun zk _ => ⟨fun _ => put v6 ?_, fun q => absurd rfl q⟩, fun zk _ => ⟨fun q => by omega, fun _ => ⟨fun z6 => put v6 ?_, fun z6 => ?_⟩⟩⟩
        · unfold pv; rw [kk, ← e6', if_neg (fun q => zk q.1)]
        · unfold pv; rw [kk, ← e6', if_neg (fun q => q.2 z6)]
        · have esl : slk C v3 k.toNat = v6 := by unfold slk; rw [kk, if_pos zk, e6']
          have hv6 : hOk C v6 := by
            rcases slk_lt hY hH ho kl with q | q
            · rw [esl] at q; exact absurd q z6
            · rw [esl] at q; exact q
          have h60 := hv6.1
          have h61 := hv6.2.1
          refine ⟨by unfold ri_; omega, h60, by omega, fun v15 e15 _ => put v15 ?_⟩
          rw [hf2.1 37 (by omega), hA.2.2.2.2 v6 h60 (by omega)] at e15
          unfold pv; rw [kk, ← e6', if_pos ⟨zk, z6⟩, e15]
    · funext i
      rw [e17, e14, e10, e6, ux_c _ _ _ _ (by intro q; rw [q] at hk; revert hk; decide), ux_c _ _ _ _ (by intro q; rw [q] at hk; revert hk; decide), ux_c _ _ _ _ (by intro q; rw [q] at hk; revert hk; decide), ux_c _ _ _ _ (by intro q; rw [q] at hk; revert hk; decide), hfr k hk]
