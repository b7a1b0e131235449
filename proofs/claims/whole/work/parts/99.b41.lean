/-! like, on both sides -/
theorem ps_sc {C C' R R' R0 : MM} (hY : Rty C R0) (h : Rps C R) (hl : tyLe C C') (e : FSc C C') (r : ∀ k, 38 ≤ k → k ≤ 59 → R' k = R k) : Rps C' R' := by
  obtain ⟨cs, h1, h2, h3, h4, h5⟩ := h
  have hi : ∀ p, 0 ≤ p → p < 5 → cs p % 33 = 13 ∧ 46 ≤ cs p ∧ cs p ≤ 178 := fun p a b => isP_m (h4 p a b)
  refine ⟨cs, fun p a b => ⟨by rw [e 45 (by omega)]; exact (h1 p a b).1, ?_⟩, by rw [e 0 (by omega)]; exact h2, ?_, h4, h5⟩
  · have m := hi p a (by omega)
    have h := (h1 p a b).2
    have n4 := h.1.2.1
    have ht := h.2.2.1
    refine pic_fr0 hY h hl (by rw [e (cs p) (by omega)]) (by rw [e (cs p) (by omega)]) (fun q a b => e q (by omega)) (fun q a b => e q (by omega)) (fun t a b => by rw [e (cs p + 13) (by omega)]; exact h.1.2.2.2.2.2.2.2.2.2.2.2.1 t a b) (fun t a b => ?_) ⟨?_, ?_, ?_, fun k a b => ?_⟩ (fun k i a b _ _ _ _ => by rw [r k a b])
    · rw [e (cs p + 13) (by omega), r 59 (by omega) (by omega)]; exact (ht.1 t a b).2.2.2
    · rw [e (cs p) (by omega), r 52 (by omega) (by omega)]; exact ht.2.1
    · rw [e (cs p) (by omega)]; exact ht.2.2.1
    · rw [e (cs p) (by omega)]; exact ht.2.2.2.1
    · rw [e (cs p) (by omega)] at b
      rw [e (cs p + 14) (by omega), r 51 (by omega) (by omega)]; exact ht.2.2.2.2.1 k a b
  · have := hi 4 (by omega) (by omega)
    unfold PF at h3 ⊢
    rw [e (cs 4) (by omega), e (cs 4 + 1) (by omega), e (cs 4 + 4) (by omega), e (cs 4 + 8) (by omega), e (cs 4 + 13) (by omega)]
    exact h3
def FSr (R M : MM) : Prop := (∀ k, k ≠ 0 → k ≠ 62 → k ≠ 64 → k ≠ 65 → M k = R k) ∧ ∀ i, i ≠ 73 → M 0 i = R 0 i
theorem FSr_t {A B D : MM} (h : FSr A B) (h' : FSr B D) : FSr A D := ⟨fun k a b c d => by rw [h'.1 k a b c d, h.1 k a b c d], fun i a => by rw [h'.2 i a, h.2 i a]⟩
theorem FSr_r (A : MM) : FSr A A := ⟨fun _ _ _ _ _ => rfl, fun _ _ => rfl⟩
theorem p_R_pair {Q : Int → MM → Prop} {M : MM} {N D a b : Int} {s : LkS} (N4 : N ≤ 400) (D4 : D ≤ 400) (hR : LRm M 64 65 62 N D s) (hn : M 0 73 = s.2.2.2) (hI : LI N D s) (a0 : 0 ≤ a) (a1 : a < N) (b0 : 0 ≤ b) (b1 : b < D) (h1 : ∀ s' M', lk_pair s a b = some s' → FSr M M' → LRm M' 64 65 62 N D s' → M' 0 73 = s'.2.2.2 → LI N D s' → Q 1 M') (h0 : lk_pair s a b = none → Q 0 M) : w_X12_pair Q a b M := by
  have old : ¬ (s.1 a = -1 ∧ s.2.1 b = -1) → w_X12_pair_b20 Q a b M := fun r => by
    unfold w_X12_pair_b20
    refine ⟨a0, by omega, fun v1 e1 _ => ?_⟩
    rw [hR.1 a a0 a1] at e1
    exact ⟨fun y => h0 (by unfold lk_pair; rw [if_neg r, if_neg (by rw [← e1]; exact y)]), fun y => h1 s M (by unfold lk_pair; rw [if_neg r, if_pos (by rw [← e1]; exact y)]) (FSr_r M) hR hn hI⟩
  unfold w_X12_pair
  refine ⟨a0, by omega, fun v1 e1 _ => ?_⟩
  rw [hR.1 a a0 a1] at e1
  refine ⟨fun y => old fun q => y (by rw [e1]; exact q.1), fun y => ⟨b0, by omega, fun v3 e3 _ => ?_⟩⟩
  rw [hR.2.1 b b0 b1] at e3
  refine ⟨fun y2 => ⟨a0, by omega, fun M5 e5 => ⟨b0, by omega, fun M6 e6 v7 e7 _ => ?_⟩⟩, fun y2 => old fun q => y2 (by rw [e3]; exact q.2)⟩
  rw [e1] at y
  rw [e3] at y2
  obtain ⟨l1, l2, l3⟩ := LI_nw hI a0 a1 b0 b1 y
  rw [e6, e5, ux_c _ _ _ _ (by decide), ux_c _ _ _ _ (by decide), hn] at e7
  refine ⟨by omega, by omega, fun M8 e8 v9 e9 _ => ?_⟩
  rw [e8, e6, e5, ux_c _ _ _ _ (by decide), ux_c _ _ _ _ (by decide), ux_c _ _ _ _ (by decide), hn] at e9
  refine ⟨by unfold ri_; omega, fun M11 e11 => h1 (lk_nw s a b) M11 (by unfold lk_pair; rw [if_pos ⟨y, y2⟩]) ⟨fun k q1 q2 q3 q4 => ?_, fun i q => ?_⟩ ?_ ?_ l1⟩
  · rw [e11, e8, e6, e5]; funext i; rw [ux_c _ _ _ _ q1, ux_c _ _ _ _ q2, ux_c _ _ _ _ q4, ux_c _ _ _ _ q3]
  · rw [e11, e8, e6, e5, ux_i _ _ _ q, ux_c _ _ _ _ (by decide), ux_c _ _ _ _ (by decide), ux_c _ _ _ _ (by decide)]
  · have L := LRm_nw (a := a) (b := b) hR (by decide) (by decide) (by decide)
    rw [e11, e8, e6, e5, e7]
    exact ⟨fun i i0 i1 => by rw [ux_c _ _ _ _ (by decide)]; exact L.1 i i0 i1, fun i i0 i1 => by rw [ux_c _ _ _ _ (by decide)]; exact L.2.1 i i0 i1, fun i i0 i1 => by rw [ux_c _ _ _ _ (by decide)]; exact L.2.2 i i0 i1⟩
  · rw [e11, ux_s, e9]; rfl
set_option maxHeartbeats 1000000 in
theorem p_R_slots {Q : Int → MM → Prop} {f : Int → Int → Int → Int → MM → Prop} {C R M : MM} {c d : Nat} {p q t i : Int} {s : LkS} (hY : Rty C R) (hw : PW C c) (hv : PW C d) (hb : Rpb C R c p) (hd : Rpb C R d q) (p0 : 0 ≤ p) (p5 : p < 5) (q0 : 0 ≤ q) (q5 : q < 5) (gi : 0 ≤ i ∧ i < 400) (hF : FSr R M) (hR : LRm M 64 65 62 (C c 0) (C d 0) s) (hn : M 0 73 = s.2.2.2) (hI : LI (C c 0) (C d 0) s) (t0 : 0 ≤ t) (t1 : t < C c 0) (hs : s.1 t ≠ -1) (sT : C (c + 2) t = C (d + 2) (s.1 t)) (sL : C (c + 3) t = C (d + 3) (s.1 t)) (h1 : ∀ s' M', lk_th C c d s t = some s' → FSr R M' → LRm M' 64 65 62 (C c 0) (C d 0) s' → M' 0 73 = s'.2.2.2 → LI (C c 0) (C d 0) s' → f p q 1 (i + 1) M') (h0 : ∀ M', lk_th C c d s t = none → FSr R M' → f p q 0 (i + 1) M') : w_X12_like_b178 Q f p q i t (s.1 t) 1 M := by
  have n4 := hw.2.1
  have m4 := hv.2.1
  obtain ⟨u0, u1⟩ : 0 ≤ s.1 t ∧ s.1 t < C d 0 := by
    rcases hI.2.1 t t0 t1 with q | q
    · exact absurd q hs
    · exact q
  have eth : lk_th C c d s t = lk_sls C c d t (s.1 t) s (pcn C c t).toNat := by unfold lk_th; rw [if_pos ⟨sT, sL⟩]
  rw [eth] at h1 h0
  have sp : pcn C c t = pcn C d (s.1 t) := by unfold pcn; rw [sT, sL]
  have pb := pw_bd hY hw t0 t1
  generalize hu : s.1 t = u at *
  unfold w_X12_like_b178 w_X12_like_b183
  refine loop8 _ (fun (a b z i' t' u' k : Int) M1 => p = a ∧ q = b ∧ i = i' ∧ t = t' ∧ u = u' ∧ FSr R M1 ∧ 0 ≤ k ∧ k ≤ pcn C c t ∧ ((z = 1 ∧ ∃ s', lk_sls C c d t u s k.toNat = some s' ∧ LRm M1 64 65 62 (C c 0) (C d 0) s' ∧ M1 0 73 = s'.2.2.2 ∧ LI (C c 0) (C d 0) s') ∨ (z = 0 ∧ lk_sls C c d t u s (pcn C c t).toNat = none))) (fun (_ _ _ _ _ _ k : Int) _ => (pcn C c t - k).toNat) ?_ _ _ _ _ _ _ _ _ ⟨rfl, rfl, rfl, rfl, rfl, hF, by omega, pb.1, Or.inl ⟨rfl, s, rfl, hR, hn, hI⟩⟩
  rintro _ _ z _ _ _ k M1 g ⟨rfl, rfl, rfl, rfl, rfl, hF1, k0, k1, hz⟩ ih
  have hY1 : Rty C M1 := Rty_R hY (fun k _ _ _ => hF1.1 k (by omega) (by omega) (by omega) (by omega)) (hF1.2 20 (by decide))
  have hb1 : Rpb C M1 c p := Rpb_M hb (fun k hk => hF1.1 k (by intro y; rw [y] at hk; revert hk; decide) (by intro y; rw [y] at hk; revert hk; decide) (by intro y; rw [y] at hk; revert hk; decide) (by intro y; rw [y] at hk; revert hk; decide))
  have hd1 : Rpb C M1 d q := Rpb_M hd (fun k hk => hF1.1 k (by intro y; rw [y] at hk; revert hk; decide) (by intro y; rw [y] at hk; revert hk; decide) (by intro y; rw [y] at hk; revert hk; decide) (by intro y; rw [y] at hk; revert hk; decide))
  unfold wb_X12_like_b183
  refine ⟨fun y => ?_, fun y => p_slotsIn hY1 hw hb1 p0 p5 t0 t1 fun _ => ⟨fun y2 => ?_, fun y2 => ?_⟩⟩
  · unfold w_X12_like_b298
    rcases hz with ⟨a, -⟩ | ⟨a, b⟩
    · omega
    · rw [a]; exact ⟨by unfold ri_; omega, h0 M1 b hF1⟩
  · unfold w_X12_like_b298
    rcases hz with ⟨a, s', b1, b2, b3, b4⟩ | ⟨a, b⟩
    · rw [a]; exact ⟨by unfold ri_; omega, h1 s' M1 (by rw [← b1, show k.toNat = (pcn C c t).toNat from by omega]) hF1 b2 b3 b4⟩
    · exact absurd a y
  · obtain ⟨s', es, hR', hn', hI'⟩ : ∃ s', lk_sls C c d t u s k.toNat = some s' ∧ LRm M1 64 65 62 (C c 0) (C d 0) s' ∧ M1 0 73 = s'.2.2.2 ∧ LI (C c 0) (C d 0) s' := by
      rcases hz with ⟨-, b⟩ | ⟨a, -⟩
      · exact b
      · exact absurd a y
    have st := lk_s k.toNat es
    rw [show ((k.toNat : Nat) : Int) = k from by omega] at st
    have pv := hw.2.2.2.2.2.1 t k t0 t1 k0 (by omega)
    have pu := hv.2.2.2.2.2.1 u k u0 u1 k0 (by omega)
    have yes : ∀ s'' M'', lk_sl C c d t u s' k = some s'' → FSr R M'' → LRm M'' 64 65 62 (C c 0) (C d 0) s'' → M'' 0 73 = s''.2.2.2 → LI (C c 0) (C d 0) s'' → w_X12_like_b290 Q f g p q i t u k 1 M'' := fun s'' M'' a1 a2 a3 a4 a5 => by
      unfold w_X12_like_b290
      exact ⟨by unfold ri_; omega, ih _ _ _ _ _ _ _ _ ⟨rfl, rfl, rfl, rfl, rfl, a2, by omega, by omega, Or.inl ⟨rfl, s'', by rw [show (k + 1).toNat = k.toNat + 1 from by omega, st]; exact a1, a3, a4, a5⟩⟩ (by omega)⟩
    have no : lk_sl C c d t u s' k = none → w_X12_like_b290 Q f g p q i t u k 0 M1 := fun a1 => by
      unfold w_X12_like_b290
      exact ⟨by unfold ri_; omega, ih _ _ _ _ _ _ _ _ ⟨rfl, rfl, rfl, rfl, rfl, hF1, by omega, by omega, Or.inr ⟨rfl, lk_no (k := k.toNat + 1) (by rw [st]; exact a1) (by omega)⟩⟩ (by omega)⟩
    have cmp : ¬ (kA C (C (c + 2) t) k = 5 ∧ C (c + 9) (C (c + 4) t + k) ≠ -1 ∧ C (d + 9) (C (d + 4) u + k) ≠ -1) → w_X12_like_b256 Q f g p q i t u k (C (c + 9) (C (c + 4) t + k)) (C (d + 9) (C (d + 4) u + k)) M1 := fun r => by
      have e : lk_sl C c d t u s' k = if C (c + 9) (C (c + 4) t + k) = C (d + 9) (C (d + 4) u + k) then some s' else none := by
        unfold lk_sl
        rw [if_neg r]
      unfold w_X12_like_b256 w_X12_like_b257
      exact ⟨fun _ => ⟨fun w => no (by rw [e, if_neg w]), fun w => yes s' M1 (by rw [e, if_pos w]) hF1 hR' hn' hI'⟩, fun w => absurd rfl w⟩
    refine p_valueIn hY1 hw hb1 p0 p5 t0 t1 k0 (by omega) fun _ _ => p_valueIn hY1 hv hd1 q0 q5 u0 u1 k0 (by omega) fun _ _ => p_linksIn hY1 hw hb1 p0 p5 t0 t1 k0 (by omega) (fun nk _ => ⟨fun w => absurd w (by decide), fun _ => ⟨fun w => cmp fun r => r.2.1 w, fun w => ⟨fun w' => cmp fun r => r.2.2 w', fun w' => ?_⟩⟩⟩) (fun nk _ => ⟨fun _ => cmp fun r => nk r.1, fun w => absurd rfl w⟩)
    unfold PV at pv pu
    rw [← sT] at pu
    have p1 := pv.2
    have p2 := pu.2
    rw [nk] at p1 p2
    unfold pK at p1 p2
    have a01 : 0 ≤ C (c + 9) (C (c + 4) t + k) ∧ C (c + 9) (C (c + 4) t + k) < C c 0 := by
      rcases p1 with ⟨-, r | ⟨r, r', -⟩⟩ | ⟨r, -⟩
      · exact absurd r w
      · exact ⟨r, r'⟩
      · exact absurd rfl r
    have b01 : 0 ≤ C (d + 9) (C (d + 4) u + k) ∧ C (d + 9) (C (d + 4) u + k) < C d 0 := by
      rcases p2 with ⟨-, r | ⟨r, r', -⟩⟩ | ⟨r, -⟩
      · exact absurd r w'
      · exact ⟨r, r'⟩
      · exact absurd rfl r
    have e : lk_sl C c d t u s' k = lk_pair s' (C (c + 9) (C (c + 4) t + k)) (C (d + 9) (C (d + 4) u + k)) := by
      unfold lk_sl
      rw [if_pos ⟨nk, w, w'⟩]
    unfold w_X12_like_b257
    refine ⟨fun r => absurd r (by decide), fun _ => ⟨by unfold ri_; omega, by unfold ri_; omega, p_R_pair n4 m4 hR' hn' hI' a01.1 a01.2 b01.1 b01.2 (fun s'' M'' k1 k2 k3 k4 k5 _ => yes s'' M'' (by rw [e]; exact k1) (FSr_t hF1 k2) k3 k4 k5) (fun k1 _ => no (by rw [e]; exact k1))⟩⟩
set_option maxHeartbeats 1000000 in
theorem p_R_like {Q : Int → MM → Prop} {C R : MM} {c d : Nat} {p q a b : Int} (hY : Rty C R) (hw : PW C c) (hv : PW C d) (hb : Rpb C R c p) (hd : Rpb C R d q) (p0 : 0 ≤ p) (p5 : p < 5) (q0 : 0 ≤ q) (q5 : q < 5) (a0 : 0 ≤ a) (a1 : a < C c 0) (b0 : 0 ≤ b) (b1 : b < C d 0) (hq : ∀ M, FSr R M → Q (lk_run C c d 401 0 (lk_0 a b)) M) : w_X12_like_b40 Q p a q b 0 R := by
  have n4 := hw.2.1
  have m4 := hv.2.1
  have n0 := hw.1
  have search : ∀ M, FSr R M → LRm M 64 65 62 (C c 0) (C d 0) (lk_0 a b) → M 0 73 = (lk_0 a b).2.2.2 → w_X12_like_b87 Q p q 1 0 M := fun M hF hR hn => by
    unfold w_X12_like_b87
    refine loop5 _ (fun (x y z i : Int) M => p = x ∧ q = y ∧ 0 ≤ i ∧ i ≤ 400 ∧ FSr R M ∧ ((z = 1 ∧ ∃ s, LRm M 64 65 62 (C c 0) (C d 0) s ∧ M 0 73 = s.2.2.2 ∧ LI (C c 0) (C d 0) s ∧ lk_run C c d (401 - i).toNat i s = lk_run C c d 401 0 (lk_0 a b)) ∨ (z = 0 ∧ 0 = lk_run C c d 401 0 (lk_0 a b)))) (fun (_ _ _ i : Int) _ => (400 - i).toNat) ?_ _ _ _ _ _ ⟨rfl, rfl, by omega, by omega, hF, Or.inl ⟨rfl, lk_0 a b, hR, hn, LI_0 a0 a1 b0 b1, rfl⟩⟩
    rintro _ _ z i M f ⟨rfl, rfl, i0, i4, hF, hz⟩ ih
    unfold wb_X12_like_b87
    intro v1 e1 _
    rcases hz with ⟨z1, s, hR, hn, hI, er⟩ | ⟨z0, er⟩
    · obtain ⟨g, eg⟩ : ∃ g : Nat, (401 - i).toNat = g + 1 := ⟨(400 - i).toNat, by omega⟩
      rw [eg] at er
      have er' : (if s.2.2.2 ≤ i then 1 else match lk_th C c d s (s.2.2.1 i) with | none => 0 | some s' => lk_run C c d g (i + 1) s') = lk_run C c d 401 0 (lk_0 a b) := er
      rw [hn] at e1
      subst z1
      refine ⟨fun y => ?_, fun y => ⟨fun y2 => absurd y2 (by decide), fun _ => ?_⟩⟩
      · rw [e1] at y
        rw [if_pos y] at er'
        exact ⟨Or.inr rfl, by rw [er']; exact hq M hF⟩
      · rw [e1] at y
        rw [if_neg y] at er'
        have rb := rk_bd (fun a => s.1 a ≠ -1) (C c 0).toNat
        have en := hI.2.2
        obtain ⟨q1, q2, q3⟩ := hI.1 i i0 (by omega)
        have hY1 : Rty C M := Rty_R hY (fun k _ _ _ => hF.1 k (by omega) (by omega) (by omega) (by omega)) (hF.2 20 (by decide))
        have hb1 : Rpb C M c p := Rpb_M hb (fun k hk => hF.1 k (by intro y; rw [y] at hk; revert hk; decide) (by intro y; rw [y] at hk; revert hk; decide) (by intro y; rw [y] at hk; revert hk; decide) (by intro y; rw [y] at hk; revert hk; decide))
        have hd1 : Rpb C M d q := Rpb_M hd (fun k hk => hF.1 k (by intro y; rw [y] at hk; revert hk; decide) (by intro y; rw [y] at hk; revert hk; decide) (by intro y; rw [y] at hk; revert hk; decide) (by intro y; rw [y] at hk; revert hk; decide))
        obtain ⟨u0, u1⟩ : 0 ≤ s.1 (s.2.2.1 i) ∧ s.1 (s.2.2.1 i) < C d 0 := by
          rcases hI.2.1 _ q1 q2 with r | r
          · exact absurd r q3
          · exact r
        refine ⟨i0, by omega, fun v4 e4 _ => ?_⟩
        rw [hR.2.2 i i0 (by omega)] at e4
        subst e4
        refine ⟨q1, by omega, fun v5 e5 _ => ?_⟩
        rw [hR.1 _ q1 q2] at e5
        subst e5
        obtain ⟨-, x2, x3, -⟩ := hb1.2.1 _ q1 q2
        obtain ⟨-, w2, w3, -⟩ := hd1.2.1 _ u0 u1
        have fail : ¬ (C (c + 2) (s.2.2.1 i) = C (d + 2) (s.1 (s.2.2.1 i)) ∧ C (c + 3) (s.2.2.1 i) = C (d + 3) (s.1 (s.2.2.1 i))) → w_X12_like_b177 Q f p q i (s.2.2.1 i) (s.1 (s.2.2.1 i)) M := fun r => by
          have e : lk_th C c d s (s.2.2.1 i) = none := by unfold lk_th; rw [if_neg r]
          rw [e] at er'
          unfold w_X12_like_b177 w_X12_like_b178 w_X12_like_b183
          refine loop8 _ (fun (x y z i' t' u' k : Int) M1 => p = x ∧ q = y ∧ i = i' ∧ M = M1 ∧ z = 0) (fun (_ _ _ _ _ _ _ : Int) _ => 0) ?_ _ _ _ _ _ _ _ _ ⟨rfl, rfl, rfl, rfl, rfl⟩
          rintro _ _ z _ _ _ k _ g ⟨rfl, rfl, rfl, rfl, rfl⟩ ih2
          unfold wb_X12_like_b183 w_X12_like_b298
          exact ⟨fun _ => ⟨by unfold ri_; omega, ih _ _ _ _ _ ⟨rfl, rfl, by omega, by omega, hF, Or.inr ⟨rfl, er'⟩⟩ (by omega)⟩, fun w => absurd rfl w⟩
        refine p_at p0 p5 q1 (by omega) fun _ => ⟨by omega, by omega, fun v8 e8 _ => p_at q0 q5 u0 (by omega) fun _ => ⟨by omega, by omega, fun v11 e11 _ => ⟨fun r => fail fun r' => r (by rw [e8, e11, ← x2, ← w2]; exact r'.1), fun r => p_at p0 p5 q1 (by omega) fun _ => ⟨by omega, by omega, fun v15 e15 _ => p_at q0 q5 u0 (by omega) fun _ => ⟨by omega, by omega, fun v18 e18 _ => ⟨fun r2 => fail fun r' => r2 (by rw [e15, e18, ← x3, ← w3]; exact r'.2), fun r2 => ?_⟩⟩⟩⟩⟩⟩
        rw [e8, e11, ← x2, ← w2] at r
        rw [e15, e18, ← x3, ← w3] at r2
        refine p_R_slots hY hw hv hb hd p0 p5 q0 q5 ⟨i0, by omega⟩ hF hR hn hI q1 q2 q3 r r2 (fun s' M' k1 k2 k3 k4 k5 => ih _ _ _ _ _ ⟨rfl, rfl, by omega, by omega, k2, Or.inl ⟨rfl, s', k3, k4, k5, ?_⟩⟩ (by omega)) (fun M' k1 k2 => ih _ _ _ _ _ ⟨rfl, rfl, by omega, by omega, k2, Or.inr ⟨rfl, ?_⟩⟩ (by omega))
        · rw [k1] at er'
          rw [show (401 - (i + 1)).toNat = g from by omega]; exact er'
        · rw [k1] at er'; exact er'
    · subst z0
      exact ⟨fun _ => ⟨Or.inl rfl, by rw [er]; exact hq M hF⟩, fun _ => ⟨fun _ => ⟨Or.inl rfl, by rw [er]; exact hq M hF⟩, fun y => absurd rfl y⟩⟩
  unfold w_X12_like_b40
  refine loop6 _ (fun (x1 x2 x3 x4 k : Int) M => p = x1 ∧ a = x2 ∧ q = x3 ∧ b = x4 ∧ 0 ≤ k ∧ k ≤ 400 ∧ FSr R M ∧ ∀ i, 0 ≤ i → i < k → M 64 i = -1 ∧ M 65 i = -1) (fun (_ _ _ _ k : Int) _ => (400 - k).toNat) ?_ _ _ _ _ _ _ ⟨rfl, rfl, rfl, rfl, by omega, by omega, FSr_r R, fun i i0 i1 => by omega⟩
  rintro _ _ _ _ k M f ⟨rfl, rfl, rfl, rfl, k0, k4, hF, hk⟩ ih
  unfold wb_X12_like_b40
  refine ⟨fun z M2 e2 => ?_, fun z => ⟨k0, by omega, fun M5 e5 => ⟨k0, by omega, fun M6 e6 => ⟨by unfold ri_; omega, ih _ _ _ _ _ _ ⟨rfl, rfl, rfl, rfl, by omega, by omega, ⟨fun j j0 j1 j2 j3 => ?_, fun j j0 => ?_⟩, fun j j0 j1 => ?_⟩ (by omega)⟩⟩⟩⟩
  · have hF2 : FSr R M2 := ⟨fun j j0 j1 j2 j3 => by rw [e2]; funext i; rw [ux_c _ _ _ _ j0, hF.1 j j0 j1 j2 j3], fun j j0 => by rw [e2, ux_i _ _ _ j0, hF.2 j j0]⟩
    have hR2 : LRm M2 64 65 62 (C c 0) (C d 0) (fun _ => -1, fun _ => -1, fun _ => 0, 0) := ⟨fun x x0 x1 => by rw [e2, ux_c _ _ _ _ (by decide)]; exact (hk x x0 (by omega)).1, fun x x0 x1 => by rw [e2, ux_c _ _ _ _ (by decide)]; exact (hk x x0 (by omega)).2, fun i i0 i1 => by have : i < 0 := i1; omega⟩
    have hI2 : LI (C c 0) (C d 0) (fun _ => -1, fun _ => -1, fun _ => 0, 0) := by
      refine ⟨fun i i0 i1 => ?_, fun x _ _ => Or.inl rfl, ?_⟩
      · have : i < 0 := i1
        omega
      · show (0 : Int) = _
        have z : ∀ n : Nat, rk (fun (_ : Int) => (-1 : Int) ≠ -1) n = 0 := by
          intro n
          induction n with
          | zero => rfl
          | succ n ih => rw [(rk_s n).2 (fun q => q rfl), ih]
        exact (z _).symm
    have e : lk_pair (fun _ => -1, fun _ => -1, fun _ => 0, 0) a b = some (lk_0 a b) := by unfold lk_pair; rw [if_pos ⟨rfl, rfl⟩]; rfl
    refine p_R_pair n4 m4 hR2 (by rw [e2, ux_s]) hI2 a0 a1 b0 b1 (fun s' M' k1 k2 k3 k4 _ _ => ?_) (fun k1 => ?_)
    · rw [e] at k1
      have es : lk_0 a b = s' := by injection k1
      subst es
      exact search M' (FSr_t hF2 k2) k3 k4
    · rw [e] at k1; exact absurd k1 (by simp)
  · rw [e6, e5]; funext i; rw [ux_c _ _ _ _ j3, ux_c _ _ _ _ j2, hF.1 j j0 j1 j2 j3]
  · rw [e6, e5, ux_c _ _ _ _ (by decide), ux_c _ _ _ _ (by decide), hF.2 j j0]
  · rw [e6, e5]
    by_cases w : j = k
    · rw [w, ux_c _ _ _ _ (by decide), ux_s, ux_s]; exact ⟨rfl, rfl⟩
    · rw [ux_c _ _ _ _ (by decide), ux_i _ _ _ w, ux_i _ _ _ w, ux_c _ _ _ _ (by decide)]; exact hk j j0 (by omega)
theorem t_like {C R : MM} {p t q u : Int} (h : RD C R) : w_X11_like (fun r C' => w_X12_like (fun r' R' => r = r' ∧ R' 0 0 = 0 ∧ RD C' R' ∧ FPc C C' ∧ (∀ k, k ∉ [0, 62, 64, 65] → R' k = R k) ∧ (∀ i, i ∉ ([0, 73] : List Int) → R' 0 i = R 0 i)) p t q u R) (fun E C' => E = "java/util/NoSuchElementException" ∧ C' = C ∧ w_X12_like (fun r' R' => R' = ux_ R 0 0 1) p t q u R) p t q u C := by
  have h' := h
  obtain ⟨hB, hJ, cs, hcs⟩ := h
  have hY := hB.1.2.2.2.2
  have b20 : w_X12_like_b20 (fun r' R' => R' = ux_ R 0 0 1) p t q u R := by
    unfold w_X12_like_b20 w_X12_like_b25
    intro M1 e1 v2 e2 _
    rw [e1, ux_s] at e2
    exact ⟨fun y => by omega, fun _ => e1⟩
  have bad : ¬ ((0 ≤ p ∧ p < 4 ∧ 0 ≤ t ∧ t < C (cs p) 0) ∧ (0 ≤ q ∧ q < 4 ∧ 0 ≤ u ∧ u < C (cs q) 0)) → w_X12_like (fun r' R' => R' = ux_ R 0 0 1) p t q u R := fun hn => by
    unfold w_X12_like
    exact p_R_isThing hcs rfl (fun a b c d _ => ⟨fun y => absurd y (by decide), fun _ => p_R_isThing hcs rfl (fun a' b' c' d' => absurd ⟨⟨a, b, c, d⟩, a', b', c', d'⟩ hn) (fun _ _ => ⟨fun y => absurd rfl y, fun _ => b20⟩)⟩) (fun _ _ => ⟨fun _ => b20, fun y => absurd rfl y⟩)
  unfold w_X11_like
  refine p_isThing hcs (fun p0 p4 t0 t1 _ => ⟨fun y => absurd y (by decide), fun _ => p_isThing hcs (fun q0 q4 u0 u1 _ => ⟨fun _ => ?_, fun y => absurd y (by decide)⟩) (fun hn _ => ⟨fun y => absurd rfl y, fun _ => ?_⟩)⟩) (fun hn _ => ⟨fun _ => ?_, fun y => absurd rfl y⟩)
  · have cP := hcs.1 p p0 p4
    have cQ := hcs.1 q q0 q4
    have iP := hcs.2.2.2.1 p p0 (by omega)
    have iQ := hcs.2.2.2.1 q q0 (by omega)
    refine ⟨p0, p4, cs p, cP.1, iP, q0, q4, cs q, cQ.1, iQ, p_isLike hY cP.2.1 cQ.2.1 iP iQ t0 t1 u0 u1 fun M hM _ => ?_⟩
    have fin : w_X12_like_b25 (fun r' R' => lk_run C (cs p) (cs q) 401 0 (lk_0 t u) = r' ∧ R' 0 0 = 0 ∧ RD M R' ∧ FPc C M ∧ (∀ k, k ∉ [0, 62, 64, 65] → R' k = R k) ∧ (∀ i, i ∉ ([0, 73] : List Int) → R' 0 i = R 0 i)) p t q u 0 R := by
      unfold w_X12_like_b25
      intro M1 e1 v2 e2 _
      rw [e1, ux_s] at e2
      refine ⟨fun _ => ?_, fun y => by omega⟩
      subst e1
      refine p_R_like (RB_00 hB 0).1.2.2.2.2 cP.2.1 cQ.2.1 (pic_00 0 cP.2.2.1) (pic_00 0 cQ.2.2.1) p0 (by omega) q0 (by omega) t0 t1 u0 u1 fun N hN => ?_
      have nR : ∀ k, k ∉ [0, 62, 64, 65] → N k = R k := fun k hk => by
        simp only [List.mem_cons, List.not_mem_nil, or_false, not_or] at hk
        rw [hN.1 k hk.1 hk.2.1 hk.2.2.1 hk.2.2.2]; funext i; rw [ux_c _ _ _ _ hk.1]
      have nR0 : ∀ i, i ∉ ([0, 73] : List Int) → N 0 i = R 0 i := fun i hi => by
        rw [hN.2 i (fun y => hi (by rw [y]; decide)), ux_i _ _ _ (fun y => hi (by rw [y]; decide))]
      obtain ⟨nB, nJ⟩ := RB_p2 (C' := M) (R' := N) hB hJ (fun k a _ => hM k (by omega)) (fun k a _ => nR k (by simp only [List.mem_cons, List.not_mem_nil, or_false] at a ⊢; omega)) (fun i hi => nR0 i (fun y => hi (by simp only [List.mem_cons, List.not_mem_nil, or_false] at y ⊢; omega)))
      refine ⟨rfl, by rw [hN.2 0 (by decide), ux_s], ⟨nB, nJ, ps_sc hY h'.2.2 (tyLe_of (by rw [hM 8 (by omega)]) (fun k _ _ => hM k (by omega))) hM (fun k a b => nR k (by simp only [List.mem_cons, List.not_mem_nil, or_false]; omega))⟩, ⟨fun k a b => hM k (by omega), fun i _ => by rw [hM 0 (by omega)]⟩, nR, nR0⟩
    unfold w_X12_like
    exact p_R_isThing hcs rfl (fun _ _ _ _ _ => ⟨fun y => absurd y (by decide), fun _ => p_R_isThing hcs rfl (fun _ _ _ _ _ => ⟨fun _ => fin, fun y => absurd y (by decide)⟩) (fun y => absurd ⟨q0, q4, u0, u1⟩ y)⟩) (fun y => absurd ⟨p0, p4, t0, t1⟩ y)
  · unfold w_X11_like_b19
    exact ⟨rfl, rfl, bad fun y => hn y.2⟩
  · unfold w_X11_like_b19
    exact ⟨rfl, rfl, bad fun y => hn y.1⟩
