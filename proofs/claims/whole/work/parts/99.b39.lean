/-! growth, on both sides: the reference -/
theorem p_thingOf {Q : Int → MM → Prop} {C M : MM} {c : Nat} {p o : Int} (hw : PW C c) (hb : Rpb C M c p) (p0 : 0 ≤ p) (p5 : p < 5) (o0 : 0 ≤ o) (o4 : o < 400) (hq : Q (C (c + 8) o) M) : w_X12_thingOf Q p o M := by
  have n0 := hw.1
  have n4 := hw.2.1
  have th := hw.2.2.2.2.2.2.1 o o0 o4
  unfold w_X12_thingOf w_X12_thingOf_b5
  refine loop5 _ (fun (a b z t : Int) M1 => p = a ∧ o = b ∧ M = M1 ∧ 0 ≤ t ∧ t ≤ C c 0 ∧ ((z = C (c + 8) o ∧ C (c + 8) o < t) ∨ (z = -1 ∧ (C (c + 8) o = -1 ∨ t ≤ C (c + 8) o)))) (fun (_ _ _ t : Int) _ => (C c 0 - t).toNat) ?_ _ _ _ _ _ ⟨rfl, rfl, rfl, by omega, n0, Or.inr ⟨rfl, by omega⟩⟩
  rintro _ _ z t _ f ⟨rfl, rfl, rfl, t0, t1, hz⟩ ih
  unfold wb_X12_thingOf_b5
  refine ⟨p0, p5, fun v1 e1 _ => ?_⟩
  rw [← hb.1] at e1
  subst e1
  refine ⟨fun q => ?_, fun q => p_at p0 p5 t0 (by omega) fun _ => ⟨by omega, by omega, fun v5 e5 _ => ?_⟩⟩
  · have : z = C (c + 8) o := by omega
    rw [this]; exact hq
  · rw [← (hb.2.1 t t0 (by omega)).1] at e5
    have pt := (hw.2.2.2.1 t t0 (by omega)).2.2.2.2.2.2.2
    unfold w_X12_thingOf_b38
    refine ⟨fun q2 => ⟨by unfold ri_; omega, ih _ _ _ _ _ ⟨rfl, rfl, rfl, by omega, by omega, ?_⟩ (by omega)⟩, fun q2 => ⟨by unfold ri_; omega, ih _ _ _ _ _ ⟨rfl, rfl, rfl, by omega, by omega, ?_⟩ (by omega)⟩⟩
    · have : C (c + 8) o ≠ t := fun y => by
        rcases th with h | ⟨_, _, h⟩
        · omega
        · rw [y] at h; exact q2 (by rw [e5]; exact h)
      omega
    · rw [← e5, q2] at pt; omega
theorem p_shown {Q : Int → MM → Prop} {C M : MM} {c : Nat} {p t k : Int} (hY : Rty C M) (hw : PW C c) (hb : Rpb C M c p) (p0 : 0 ≤ p) (p5 : p < 5) (t0 : 0 ≤ t) (t1 : t < C c 0) (k0 : 0 ≤ k) (k1 : k < pcn C c t) (hq : Q (shv C c t k) M) : w_X12_shown Q p t k M := by
  have n4 := hw.2.1
  have pv := hw.2.2.2.2.2.1 t k t0 t1 k0 k1
  unfold w_X12_shown
  refine p_valueIn hY hw hb p0 p5 t0 t1 k0 k1 fun _ _ => p_linksIn hY hw hb p0 p5 t0 t1 k0 k1 (fun q _ => ⟨fun y => absurd y (by decide), fun _ => ⟨fun y => ?_, fun y => ?_⟩⟩) (fun q _ => ⟨fun _ => ?_, fun y => absurd rfl y⟩)
  · unfold shv at hq; rw [if_neg (fun w => w.2 y)] at hq; exact hq
  · have p1 := pv.2
    rw [q] at p1
    unfold pK at p1
    have p1' : 0 ≤ C (c + 9) (C (c + 4) t + k) ∧ C (c + 9) (C (c + 4) t + k) < C c 0 := by
      rcases p1 with ⟨-, w | ⟨w, w', -⟩⟩ | ⟨w, -⟩
      · exact absurd w y
      · exact ⟨w, w'⟩
      · exact absurd rfl w
    refine ⟨by unfold ri_; omega, p_at p0 p5 p1'.1 (by omega) fun _ => ⟨by omega, by omega, fun v10 e10 _ => ?_⟩⟩
    rw [← (hb.2.1 _ p1'.1 p1'.2).1] at e10
    unfold shv at hq; rw [if_pos ⟨q, y⟩] at hq
    rw [e10]; exact hq
  · unfold shv at hq; rw [if_neg (fun w => q w.1)] at hq; exact hq
theorem p_isChanged {Q : Int → MM → Prop} {C M : MM} {c d : Nat} {p q t u : Int} (hY : Rty C M) (hw : PW C c) (hb : Rpb C M c p) (hv : PW C d) (hd : Rpb C M d q) (p0 : 0 ≤ p) (p5 : p < 5) (q0 : 0 ≤ q) (q5 : q < 5) (t0 : 0 ≤ t) (t1 : t < C c 0) (u0 : 0 ≤ u) (u1 : u < C d 0) (h1 : ¬ SMp C c d t u → Q 1 M) (h0 : SMp C c d t u → Q 0 M) : w_X12_isChanged Q q u p t M := by
  have n4 := hw.2.1
  have m4 := hv.2.1
  obtain ⟨-, b2, b3, -⟩ := hb.2.1 t t0 t1
  obtain ⟨-, d2, d3, -⟩ := hd.2.1 u u0 u1
  have one : ¬ SMp C c d t u → w_X12_isChanged_b52 Q q u p t M := fun hn => by
    unfold w_X12_isChanged_b52 w_X12_isChanged_b57 w_X12_isChanged_b62
    refine loop7 _ (fun (a b a' b' z k : Int) M1 => M = M1 ∧ z = 1) (fun (_ _ _ _ _ _ : Int) _ => 0) ?_ _ _ _ _ _ _ _ ⟨rfl, rfl⟩
    rintro _ _ _ _ z k _ f ⟨rfl, rfl⟩ ih
    unfold wb_X12_isChanged_b62
    exact ⟨fun _ => ⟨Or.inr rfl, h1 hn⟩, fun y => absurd y (by decide)⟩
  unfold w_X12_isChanged
  refine p_at q0 q5 u0 (by omega) fun _ => ⟨by omega, by omega, fun v3 e3 _ => p_at p0 p5 t0 (by omega) fun _ => ⟨by omega, by omega, fun v6 e6 _ => ⟨fun z => one fun y => z (by rw [e3, e6, ← b2, ← d2]; exact y.1.symm), fun z => p_at q0 q5 u0 (by omega) fun _ => ⟨by omega, by omega, fun v10 e10 _ => p_at p0 p5 t0 (by omega) fun _ => ⟨by omega, by omega, fun v13 e13 _ => ⟨fun z2 => ?_, fun z2 => one fun y => z2 (by rw [e10, e13, ← b3, ← d3]; exact y.2.1.symm)⟩⟩⟩⟩⟩⟩
  rw [e3, e6, ← b2, ← d2] at z
  rw [e10, e13, ← b3, ← d3] at z2
  have sp : pcn C c t = pcn C d u := by unfold pcn; rw [z, z2]
  have pb := pw_bd hY hw t0 t1
  unfold w_X12_isChanged_b57 w_X12_isChanged_b62
  refine loop7 _ (fun (a b a' b' z k : Int) M1 => q = a ∧ u = b ∧ p = a' ∧ t = b' ∧ M = M1 ∧ 0 ≤ k ∧ k ≤ pcn C c t ∧ ((z = 0 ∧ ∀ j, 0 ≤ j → j < k → shv C c t j = shv C d u j) ∨ (z = 1 ∧ ¬ SMp C c d t u))) (fun (_ _ _ _ _ k : Int) _ => (pcn C c t - k).toNat) ?_ _ _ _ _ _ _ _ ⟨rfl, rfl, rfl, rfl, rfl, by omega, pb.1, Or.inl ⟨rfl, fun j a b => by omega⟩⟩
  rintro _ _ _ _ s k _ f ⟨rfl, rfl, rfl, rfl, rfl, k0, k1, hs⟩ ih
  unfold wb_X12_isChanged_b62
  refine ⟨fun y => ?_, fun y => p_slotsIn hY hv hd q0 q5 u0 u1 fun _ => ⟨fun y2 => ?_, fun y2 => ?_⟩⟩
  · rcases hs with ⟨a, -⟩ | ⟨a, b⟩
    · exact absurd a y
    · rw [a]; exact ⟨Or.inr rfl, h1 b⟩
  · rcases hs with ⟨a, b⟩ | ⟨a, b⟩
    · rw [a]; exact ⟨Or.inl rfl, h0 ⟨z.symm, z2.symm, fun j a' b' => b j a' (by omega)⟩⟩
    · omega
  · obtain ⟨-, hj⟩ : s = 0 ∧ ∀ j, 0 ≤ j → j < k → shv C c t j = shv C d u j := by
      rcases hs with h | h
      · exact h
      · omega
    refine p_shown hY hv hd q0 q5 u0 u1 k0 (by omega) fun _ => p_shown hY hw hb p0 p5 t0 t1 k0 (by omega) fun _ => ?_
    unfold w_X12_isChanged_b104
    refine ⟨fun e => ⟨by unfold ri_; omega, ih _ _ _ _ _ _ _ ⟨rfl, rfl, rfl, rfl, rfl, by omega, by omega, Or.inl ⟨rfl, fun j a b => ?_⟩⟩ (by omega)⟩, fun e => ⟨by unfold ri_; omega, ih _ _ _ _ _ _ _ ⟨rfl, rfl, rfl, rfl, rfl, by omega, by omega, Or.inr ⟨rfl, fun w => e (w.2.2 k k0 (by omega)).symm⟩⟩ (by omega)⟩⟩
    by_cases w : j = k
    · rw [w]; exact e.symm
    · exact hj j a (by omega)
def grw (C : MM) (c d : Nat) (w t : Int) : Prop := (w = 2 ∧ chd C c d t) ∨ (w ≠ 2 ∧ mis C c d t)
theorem RB_p2 {C R C' R' : MM} (hB : RB C R) (hJ : Rjn C R) (c : ∀ k, k ≠ 0 → k < 45 → C' k = C k) (r : ∀ k, k ∉ [0, 36, 37] → k < 38 → R' k = R k) (r0 : ∀ i, i ∉ ([0, 47, 73, 75] : List Int) → R' 0 i = R 0 i) : RB C' R' ∧ Rjn C' R' := by
  have hH := hB.2.2
  have q := hH.2.2.2.2.2.2.2.2.2.2.2.1
  have hH2 : Rhp C' R' := Rhp_C hH (fun k hk => c k (by intro q; rw [q] at hk; revert hk; decide) (by simp at hk; omega)) (by rw [c 8 (by decide) (by omega)]) (fun i _ => by rw [c 26 (by decide) (by omega)]) (fun k hk => r k (by intro q; simp at q hk; omega) (by simp at hk; omega)) (fun i hi => r0 i (by revert hi; simp; omega)) (by
    unfold Rrt at q ⊢
    rw [c 26 (by decide) (by omega), c 33 (by decide) (by omega), r 24 (by decide) (by omega), r0 31 (by decide), hOk_eq (by rw [c 26 (by decide) (by omega)]) (c 27 (by decide) (by omega))]
    exact q)
  refine ⟨RB_of hB hH2 (fun k a b => c k (by omega) (by omega)) (fun k a b _ => r k (by simp; omega) (by omega)) (fun i hi => r0 i (by revert hi; simp; omega)), ?_⟩
  exact le_jn hB.1.2.2.2.2 hH (hpLe_e (fun k a b _ => c k (by omega) (by omega)) (by rw [c 26 (by decide) (by omega)]) (fun k hk => c k (by intro q; rw [q] at hk; revert hk; decide) (by simp at hk; omega))) hJ (fun k a b => c k (by omega) (by omega)) (fun k a b => r k (by simp; omega) (by omega)) (fun i hi => r0 i (by revert hi; simp; omega))
def FGw (R M : MM) : Prop := (∀ k, k ≠ 0 → k ≠ 63 → M k = R k) ∧ ∀ i, i ≠ 75 → M 0 i = R 0 i
theorem Rty_gw {C R M : MM} (hY : Rty C R) (h : FGw R M) : Rty C M := Rty_R hY (fun k _ _ _ => h.1 k (by omega) (by omega)) (h.2 20 (by decide))
set_option maxHeartbeats 1000000 in
theorem p_R_growth {Q : Int → MM → Prop} {C R : MM} {c d : Nat} {p q w : Int} (hY : Rty C R) (hw : PW C c) (hb : Rpb C R c p) (hv : PW C d) (hd : Rpb C R d q) (p0 : 0 ≤ p) (p5 : p < 5) (q0 : 0 ≤ q) (q5 : q < 5) (r0 : R 0 75 = 0) (hq : ∀ M, FGw R M → M 0 75 = rk (grw C c d w) (C c 0).toNat → lst_ M 63 (grw C c d w) (C c 0) → Q (rk (grw C c d w) (C c 0).toNat) M) : w_X12_growth_b75 Q w p q 0 R := by
  have n0 := hw.1
  have n4 := hw.2.1
  unfold w_X12_growth_b75
  refine loop5 _ (fun (a b b' t : Int) M => w = a ∧ p = b ∧ q = b' ∧ FGw R M ∧ 0 ≤ t ∧ t ≤ C c 0 ∧ M 0 75 = rk (grw C c d w) t.toNat ∧ lst_ M 63 (grw C c d w) t) (fun (_ _ _ t : Int) _ => (C c 0 - t).toNat) ?_ _ _ _ _ _ ⟨rfl, rfl, rfl, ⟨fun _ _ _ => rfl, fun _ _ => rfl⟩, by omega, n0, r0, fun u a b => by omega⟩
  rintro _ _ _ t M f ⟨rfl, rfl, rfl, hF, t0, t1, es, hl⟩ ih
  have hbM : Rpb C M c p := Rpb_M hb (fun k hk => hF.1 k (by intro y; rw [y] at hk; revert hk; decide) (by intro y; rw [y] at hk; revert hk; decide))
  have hdM : Rpb C M d q := Rpb_M hd (fun k hk => hF.1 k (by intro y; rw [y] at hk; revert hk; decide) (by intro y; rw [y] at hk; revert hk; decide))
  have hYM : Rty C M := Rty_gw hY hF
  unfold wb_X12_growth_b75
  refine ⟨p0, p5, fun v1 e1 _ => ?_⟩
  rw [← hbM.1] at e1
  subst e1
  refine ⟨fun z v3 e3 _ => ?_, fun z => p_at p0 p5 t0 (by omega) fun _ => ⟨by omega, by omega, fun v6 e6 _ => ?_⟩⟩
  · have et : t = C c 0 := by omega
    rw [e3, es, et]; exact hq M hF (by rw [← et]; exact es) (by rw [← et]; exact hl)
  · rw [← (hbM.2.1 t t0 (by omega)).1] at e6
    obtain ⟨o0, o4, -⟩ := hw.2.2.2.1 t t0 (by omega)
    have th := hv.2.2.2.2.2.2.1 (C (c + 1) t) o0 o4
    have rb := rk_bd (grw C c d w) t.toNat
    have nk := rk_s (P := grw C c d w) t.toNat
    rw [show ((t.toNat : Nat) : Int) = t from by omega] at nk
    have no : ¬ grw C c d w t → w_X12_growth_b167 Q f w p q t M := fun y => by
      unfold w_X12_growth_b167
      refine ⟨by unfold ri_; omega, ih _ _ _ _ _ ⟨rfl, rfl, rfl, hF, by omega, by omega, ?_, lst_no hl y⟩ (by omega)⟩
      rw [show (t + 1).toNat = t.toNat + 1 from by omega, nk.2 y, es]
    have yes : grw C c d w t → w_X12_growth_b146 Q f w p q t M := fun y => by
      unfold w_X12_growth_b146 w_X12_growth_b167
      intro v1 e1 _
      rw [es] at e1
      refine ⟨by omega, by omega, fun M2 e2 v3 e3 _ => ?_⟩
      have : M2 0 75 = v1 := by rw [e2, ux_c _ _ _ _ (by decide), es, e1]
      rw [this] at e3
      refine ⟨by unfold ri_; omega, fun M5 e5 => ⟨by unfold ri_; omega, ih _ _ _ _ _ ⟨rfl, rfl, rfl, ⟨fun k a b => ?_, fun i a => ?_⟩, by omega, by omega, ?_, ?_⟩ (by omega)⟩⟩
      · rw [e5, e2]; funext i; rw [ux_c _ _ _ _ a, ux_c _ _ _ _ b, hF.1 k a b]
      · rw [e5, e2, ux_i _ _ _ a, ux_c _ _ _ _ (by decide), hF.2 i a]
      · rw [e5, ux_s, show (t + 1).toNat = t.toNat + 1 from by omega, nk.1 y, e3, e1]
      · intro u u0 u1 hu
        rw [e5, ux_c _ _ _ _ (by decide), e2, e1]
        exact lst_in t0 hl y u u0 u1 hu
    rw [e6]
    refine p_thingOf hv hdM q0 q5 o0 o4 fun _ => ⟨fun w2 => ⟨fun y => yes (Or.inr ⟨w2, y⟩), fun y => no ?_⟩, fun w2 => ⟨fun y => no ?_, fun y => ?_⟩⟩
    · rintro (⟨a, -⟩ | ⟨-, a⟩)
      · exact w2 a
      · exact y a
    · rintro (⟨-, a⟩ | ⟨a, -⟩)
      · exact a.1 y
      · exact a w2
    · have v0 : 0 ≤ C (d + 8) (C (c + 1) t) ∧ C (d + 8) (C (c + 1) t) < C d 0 := by
        rcases th with h | ⟨h, h', -⟩
        · exact absurd h y
        · exact ⟨h, h'⟩
      refine p_isChanged hYM hw hbM hv hdM p0 p5 q0 q5 t0 (by omega) v0.1 v0.2 (fun a _ => ⟨fun _ => yes (Or.inl ⟨w2, y, a⟩), fun a' => absurd a' (by decide)⟩) (fun a _ => ⟨fun a' => absurd rfl a', fun _ => no ?_⟩)
      rintro (⟨-, b⟩ | ⟨b, -⟩)
      · exact b.2 a
      · exact b w2
theorem gr_mis {C : MM} {c d : Nat} {w : Int} (h : w ≠ 2) : grw C c d w = mis C c d := by
  funext t; unfold grw; apply propext
  exact ⟨fun q => by rcases q with ⟨a, -⟩ | ⟨-, a⟩; exact absurd a h; exact a, fun q => Or.inr ⟨h, q⟩⟩
theorem gr_chd {C : MM} {c d : Nat} {w : Int} (h : w = 2) : grw C c d w = chd C c d := by
  funext t; unfold grw; apply propext
  exact ⟨fun q => by rcases q with ⟨-, a⟩ | ⟨a, -⟩; exact a; exact absurd h a, fun q => Or.inl ⟨h, q⟩⟩
set_option maxHeartbeats 1000000 in
theorem t_growth {C R : MM} {p q w : Int} (h : RD C R) : w_X11_growth (fun r C' => w_X12_growth (fun r' R' => r = r' ∧ R' 0 0 = 0 ∧ RD C' R' ∧ Rgw C' R' ∧ (∀ k, k ≠ 0 → k ≠ 285 → C' k = C k) ∧ (∀ i, i ≠ 15 → C' 0 i = C 0 i) ∧ (∀ k, k ≠ 0 → k ≠ 63 → R' k = R k) ∧ (∀ i, i ∉ ([0, 75] : List Int) → R' 0 i = R 0 i)) p q w R) (fun E C' => E = "java/lang/IndexOutOfBoundsException" ∧ C' = C ∧ w_X12_growth (fun r' R' => R' = ux_ R 0 0 1) p q w R) p q w C := by
  have h' := h
  obtain ⟨hB, hJ, cs, hcs⟩ := h
  have hY := hB.1.2.2.2.2
  have bad : ¬ ((0 ≤ p ∧ p < 4) ∧ (0 ≤ q ∧ q < 4) ∧ 0 ≤ w ∧ w ≤ 2) → w_X12_growth (fun r' R' => R' = ux_ R 0 0 1) p q w R := fun hn => by
    have b26 : w_X12_growth_b26 (fun r' R' => R' = ux_ R 0 0 1) p q w R := by
      unfold w_X12_growth_b26 w_X12_growth_b31
      intro M1 e1 v2 e2 _
      rw [e1, ux_s] at e2
      exact ⟨fun y => by omega, fun _ => e1⟩
    unfold w_X12_growth
    exact p_R_isPic (fun a b _ => ⟨fun _ => b26, fun _ => p_R_isPic (fun a' b' _ => ⟨fun _ => b26, fun _ => ⟨fun _ => b26, fun z => ⟨fun z2 => absurd ⟨⟨a, b⟩, ⟨a', b'⟩, by omega, z2⟩ hn, fun _ => b26⟩⟩⟩) (fun _ _ => ⟨fun _ => b26, fun y => absurd rfl y⟩)⟩) (fun _ _ => ⟨fun _ => b26, fun y => absurd rfl y⟩)
  unfold w_X11_growth w_X11_needPicture
  refine p_isPic (fun p0 p4 _ => ⟨fun _ => p_isPic (fun q0 q4 _ => ⟨fun _ => ?_, fun y => absurd y (by decide)⟩) (fun hn _ => ⟨fun y => absurd rfl y, fun _ => ⟨rfl, rfl, bad fun y => hn y.2.1⟩⟩), fun y => absurd y (by decide)⟩) (fun hn _ => ⟨fun y => absurd rfl y, fun _ => ⟨rfl, rfl, bad fun y => hn y.1⟩⟩)
  unfold w_X11_growth_b17
  refine ⟨fun z => ⟨rfl, rfl, bad fun y => by omega⟩, fun z => ⟨fun z2 => ?_, fun z2 => ⟨rfl, rfl, bad fun y => by omega⟩⟩⟩
  have core : ∀ a b : Int, 0 ≤ a → a < 4 → 0 ≤ b → b < 4 → ((w = 1 ∧ a = p ∧ b = q) ∨ (w ≠ 1 ∧ a = q ∧ b = p)) → ∀ M, (∀ k, k ≠ 285 → M k = C k) → lst_ M 285 (grw C (cs a) (cs b) w) (C (cs a) 0) → ∀ N, N = ux_ M 0 15 (rk (grw C (cs a) (cs b) w) (C (cs a) 0).toNat) → w_X11_growth_b109 (fun r C' => w_X12_growth (fun r' R' => r = r' ∧ R' 0 0 = 0 ∧ RD C' R' ∧ Rgw C' R' ∧ (∀ k, k ≠ 0 → k ≠ 285 → C' k = C k) ∧ (∀ i, i ≠ 15 → C' 0 i = C 0 i) ∧ (∀ k, k ≠ 0 → k ≠ 63 → R' k = R k) ∧ (∀ i, i ∉ ([0, 75] : List Int) → R' 0 i = R 0 i)) p q w R) (fun E C' => E = "java/lang/IndexOutOfBoundsException" ∧ C' = C ∧ w_X12_growth (fun r' R' => R' = ux_ R 0 0 1) p q w R) N := fun a b a0 a4 b0 b4 hab M hM hl N eN => by
    have ha := hcs.1 a a0 a4
    have hb := hcs.1 b b0 b4
    have n0 := ha.2.1.1
    have n4 := ha.2.1.2.1
    unfold w_X11_growth_b109
    intro v1 e1 _
    rw [eN, ux_s] at e1
    have g : ∀ k i, k ≠ 0 → ux_ (ux_ R 0 0 0) 0 75 0 k i = R k i := fun k i hk => by rw [ux_c _ _ _ _ hk, ux_c _ _ _ _ hk]
    have gz : ∀ i, i ∉ ([0, 75] : List Int) → ux_ (ux_ R 0 0 0) 0 75 0 0 i = R 0 i := fun i hi => by rw [ux_i _ _ _ (fun y => hi (by rw [y]; decide)), ux_i _ _ _ (fun y => hi (by rw [y]; decide))]
    have hYr : Rty C (ux_ (ux_ R 0 0 0) 0 75 0) := (RB_p (C' := C) (R' := ux_ (ux_ R 0 0 0) 0 75 0) hB hJ (fun _ _ _ => rfl) (fun k hk _ => funext fun i => g k i (by intro y; rw [y] at hk; revert hk; decide)) (fun i hi => gz i (fun y => hi (by simp only [List.mem_cons, List.not_mem_nil, or_false] at y ⊢; omega)))).1.1.2.2.2.2
    have hbr : Rpb C (ux_ (ux_ R 0 0 0) 0 75 0) (cs a) a := Rpb_M ha.2.2.1 (fun k hk => funext fun i => g k i (by intro y; rw [y] at hk; revert hk; decide))
    have hdr : Rpb C (ux_ (ux_ R 0 0 0) 0 75 0) (cs b) b := Rpb_M hb.2.2.1 (fun k hk => funext fun i => g k i (by intro y; rw [y] at hk; revert hk; decide))
    have fin : w_X12_growth_b75 (fun r' R' => v1 = r' ∧ R' 0 0 = 0 ∧ RD N R' ∧ Rgw N R' ∧ (∀ k, k ≠ 0 → k ≠ 285 → N k = C k) ∧ (∀ i, i ≠ 15 → N 0 i = C 0 i) ∧ (∀ k, k ≠ 0 → k ≠ 63 → R' k = R k) ∧ (∀ i, i ∉ ([0, 75] : List Int) → R' 0 i = R 0 i)) w a b 0 (ux_ (ux_ R 0 0 0) 0 75 0) := by
      refine p_R_growth hYr ha.2.1 hbr hb.2.1 hdr a0 (by omega) b0 (by omega) (ux_s _ _ _ _) fun M' hF e75 hl' => ?_
      have nC : ∀ k, k ≠ 0 → k ≠ 285 → N k = C k := fun k a b => by rw [eN]; funext i; rw [ux_c _ _ _ _ a, hM k b]
      have nC0 : ∀ i, i ≠ 15 → N 0 i = C 0 i := fun i a => by rw [eN, ux_i _ _ _ a, hM 0 (by decide)]
      have nR : ∀ k, k ≠ 0 → k ≠ 63 → M' k = R k := fun k a b => by rw [hF.1 k a b]; funext i; exact g k i a
      have nR0 : ∀ i, i ∉ ([0, 75] : List Int) → M' 0 i = R 0 i := fun i hi => by rw [hF.2 i (fun y => hi (by rw [y]; decide)), gz i hi]
      obtain ⟨nB, nJ⟩ := RB_p2 (C' := N) (R' := M') hB hJ (fun k a _ => nC k a (by omega)) (fun k a _ => nR k (fun y => a (by rw [y]; decide)) (by omega)) (fun i hi => nR0 i (fun y => hi (by simp only [List.mem_cons, List.not_mem_nil, or_false] at y ⊢; omega)))
      refine ⟨e1, ?_, ⟨nB, nJ, ps_fr hY h'.2.2 (tyLe_of (by rw [nC 8 (by decide) (by decide)]) (fun k _ _ => nC k (by omega) (by omega))) (fun k _ _ => nC k (by omega) (by omega)) (nC0 5 (by decide)) (fun k _ _ => nR k (by omega) (by omega))⟩, ?_, nC, nC0, nR, nR0⟩
      · rw [hF.2 0 (by decide), ux_i _ _ _ (by decide), ux_s]
      · have rb := rk_bd (grw C (cs a) (cs b) w) (C (cs a) 0).toNat
        have e15 : N 0 15 = rk (grw C (cs a) (cs b) w) (C (cs a) 0).toNat := by rw [eN, ux_s]
        refine ⟨by rw [e15, e75], by omega, by omega, fun k k0 k1 => ?_⟩
        have : N 285 k = M 285 k := by rw [eN, ux_c _ _ _ _ (by decide)]
        rw [this]
        have nn : (((C (cs a) 0).toNat : Nat) : Int) = C (cs a) 0 := by omega
        exact lst_eq (n := (C (cs a) 0).toNat) (by rw [nn]; exact hl) (by rw [nn]; exact hl') k k0 (by omega)
    unfold w_X12_growth
    refine p_R_isPic (fun _ _ _ => ⟨fun y => absurd y (by decide), fun _ => p_R_isPic (fun _ _ _ => ⟨fun y => absurd y (by decide), fun _ => ⟨fun y => absurd y z, fun _ => ⟨fun _ => ?_, fun y => absurd z2 y⟩⟩⟩) (fun y => absurd ⟨q0, q4⟩ y)⟩) (fun y => absurd ⟨p0, p4⟩ y)
    unfold w_X12_growth_b31
    intro M1 e1' v2 e2' _
    rw [e1', ux_s] at e2'
    refine ⟨fun _ M4 e4' => ?_, fun y => by omega⟩
    subst e1'
    subst e4'
    unfold w_X12_growth_b58 w_X12_growth_b70
    rcases hab with ⟨y1, y2, y3⟩ | ⟨y1, y2, y3⟩
    · subst y2; subst y3
      exact ⟨fun y => absurd y1 y, fun _ => ⟨fun y => absurd y1 y, fun _ => fin⟩⟩
    · subst y2; subst y3
      exact ⟨fun _ => ⟨fun _ => fin, fun y => absurd y y1⟩, fun y => absurd y y1⟩
  have cP := hcs.1 p p0 p4
  have cQ := hcs.1 q q0 q4
  have iP := hcs.2.2.2.1 p p0 (by omega)
  have iQ := hcs.2.2.2.1 q q0 (by omega)
  have bP : cs p + 32 < 285 := by unfold isP at iP; omega
  have bQ : cs q + 32 < 285 := by unfold isP at iQ; omega
  refine ⟨fun w0 => ⟨fun w1 => ⟨q0, q4, cs q, cQ.1, iQ, p0, p4, cs p, cP.1, iP, p_listChanged hY cQ.2.1 cP.2.1 bQ bP fun M hM hl _ N eN => ?_⟩, fun w1 => ⟨p0, p4, cs p, cP.1, iP, q0, q4, cs q, cQ.1, iQ, p_listMissing cP.2.1 bP bQ fun M hM hl _ N eN => ?_⟩⟩, fun w0 => ⟨q0, q4, cs q, cQ.1, iQ, p0, p4, cs p, cP.1, iP, p_listMissing cQ.2.1 bQ bP fun M hM hl _ N eN => ?_⟩⟩
  · have w2 : w = 2 := by omega
    exact core q p q0 q4 p0 p4 (Or.inr ⟨by omega, rfl, rfl⟩) M hM (by rw [gr_chd w2]; exact hl) N (by rw [gr_chd w2]; exact eN)
  · have w2 : w ≠ 2 := by omega
    exact core p q p0 p4 q0 q4 (Or.inl ⟨w1, rfl, rfl⟩) M hM (by rw [gr_mis w2]; exact hl) N (by rw [gr_mis w2]; exact eN)
  · have w2 : w ≠ 2 := by omega
    exact core q p q0 q4 p0 p4 (Or.inr ⟨by omega, rfl, rfl⟩) M hM (by rw [gr_mis w2]; exact hl) N (by rw [gr_mis w2]; exact eN)
