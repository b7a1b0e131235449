/-! member, on both sides -/
theorem p_memberOf {Q : Int → MM → Prop} {C : MM} {c a : Nat} {x k : Int} (n0 : 0 ≤ C c 0) (n4 : C c 0 ≤ 400) (k0 : 0 ≤ k) (gk : ri_ k) (h1 : ∀ t, 0 ≤ t → t < C c 0 → C a t = x → rk (fun u => C a u = x) t.toNat = k → Q t C) (h0 : rk (fun u => C a u = x) (C c 0).toNat ≤ k → Q (-1) C) : w_X5_memberOf c a 400 Q x k C := by
  unfold ri_ at gk
  unfold w_X5_memberOf w_X5_memberOf_b6
  refine loop4 _ (fun (b y t : Int) M1 => x = b ∧ C = M1 ∧ 0 ≤ t ∧ t ≤ C c 0 ∧ 0 ≤ y ∧ y = k - rk (fun u => C a u = x) t.toNat) (fun (_ _ t : Int) _ => (C c 0 - t).toNat) ?_ _ _ _ _ ⟨rfl, rfl, by omega, n0, k0, by show k = k - 0; omega⟩
  rintro _ y t _ f ⟨rfl, rfl, t0, t1, y0, ey⟩ ih
  unfold wb_X5_memberOf_b6
  intro v1 e1 _
  subst e1
  refine ⟨fun z => h0 (by rw [← show t = C c 0 from by omega]; omega), fun z => ⟨t0, by omega, fun v3 e3 _ => ?_⟩⟩
  have nk := rk_s (P := fun u => C a u = x) t.toNat
  rw [show ((t.toNat : Nat) : Int) = t from by omega] at nk
  have nb := rk_bd (fun u => C a u = x) t.toNat
  have nxt : ∀ y', 0 ≤ y' → y' = k - rk (fun u => C a u = x) (t.toNat + 1) → w_X5_memberOf_b34 c a 400 Q f x y' t C := fun y' q1 q2 => by
    unfold w_X5_memberOf_b34
    exact ⟨by unfold ri_; omega, ih _ _ _ _ ⟨rfl, rfl, by omega, by omega, q1, by rw [q2, show (t + 1).toNat = t.toNat + 1 from by omega]⟩ (by omega)⟩
  refine ⟨fun q => nxt y y0 (by rw [nk.2 (by rw [← e3]; exact q)]; exact ey), fun q => ⟨fun q2 => ⟨by unfold ri_; omega, nxt _ (by omega) (by rw [nk.1 (by rw [← e3]; exact q)]; omega)⟩, fun q2 => h1 t t0 (by omega) (by rw [← e3]; exact q) (by omega)⟩⟩
theorem p_R_member {Q : Int → MM → Prop} {C M : MM} {c a : Nat} {p s x k : Int} (n4 : C c 0 ≤ 400) (n0 : 0 ≤ C c 0) (e38 : C c 0 = M 38 p) (p0 : 0 ≤ p) (p4 : p < 4) (s0 : 0 ≤ s) (s1 : s < 2) (x0 : 0 ≤ x) (k0 : 0 ≤ k) (gk : ri_ k) (ha : (s = 0 ∧ a = 49) ∨ (s = 1 ∧ a = 50)) (h1 : ∀ t, 0 ≤ t → t < C c 0 → M a (400 * p + t) = x → rk (fun u => M a (400 * p + u) = x) t.toNat = k → Q t (ux_ M 0 0 0)) (h0 : rk (fun u => M a (400 * p + u) = x) (C c 0).toNat ≤ k → Q 0 (ux_ M 0 0 1)) : w_X12_member Q p s x k M := by
  unfold ri_ at gk
  have ok : ∀ t, t ≠ -1 → Q t (ux_ M 0 0 0) → w_X12_member_b109 Q t M := fun t ht q => by
    unfold w_X12_member_b109 w_X12_member_b121
    refine ⟨fun _ M1 e1 v2 e2 _ => ⟨fun _ => by rw [e1]; exact q, fun y => ?_⟩, fun y => absurd y ht⟩
    rw [e2, e1, ux_s] at y
    omega
  unfold w_X12_member w_X12_member_b10
  refine loop8 _ (fun (b1 b2 b3 b4 z y t : Int) M1 => p = b1 ∧ s = b2 ∧ x = b3 ∧ k = b4 ∧ M = M1 ∧ 0 ≤ t ∧ t ≤ C c 0 ∧ ((z = -1 ∧ 0 ≤ y ∧ y = k - rk (fun u => M a (400 * p + u) = x) t.toNat) ∨ (z ≠ -1 ∧ Q z (ux_ M 0 0 0)))) (fun (_ _ _ _ _ _ t : Int) _ => (C c 0 - t).toNat) ?_ _ _ _ _ _ _ _ _ ⟨rfl, rfl, rfl, rfl, rfl, by omega, n0, Or.inl ⟨rfl, k0, by show k = k - 0; omega⟩⟩
  rintro _ _ _ _ z y t _ f ⟨rfl, rfl, rfl, rfl, rfl, t0, t1, hz⟩ ih
  unfold wb_X12_member_b10
  refine p_R_isPic (fun _ _ _ => ⟨fun q => absurd q (by decide), fun _ => ⟨fun q => by omega, fun _ => ⟨fun q => by omega, fun _ => ⟨fun q => by omega, fun _ => ⟨fun q => by omega, fun _ => ⟨p0, by omega, fun v8 e8 _ => ?_⟩⟩⟩⟩⟩⟩) (fun q => absurd ⟨p0, p4⟩ q)
  rw [← e38] at e8
  subst e8
  refine ⟨fun q => ?_, fun q => ⟨fun q2 => ?_, fun q2 => ?_⟩⟩
  · rcases hz with ⟨h, y0, ey⟩ | ⟨h, hQ⟩
    · unfold w_X12_member_b109 w_X12_member_b121
      refine ⟨fun w => absurd h w, fun _ M1 e1 v2 e2 _ => ⟨fun w => ?_, fun _ => ?_⟩⟩
      · rw [e2, e1, ux_s] at w; omega
      · rw [e1]; exact h0 (by rw [← show t = C c 0 from by omega]; omega)
    · exact ok z h hQ
  · rcases hz with ⟨h, y0, ey⟩ | ⟨h, hQ⟩
    · exact absurd h q2
    · exact ok z h hQ
  · obtain ⟨y0, ey⟩ : 0 ≤ y ∧ y = k - rk (fun u => M a (400 * p + u) = x) t.toNat := by
      rcases hz with h | h
      · exact h.2
      · exact absurd q2 h.1
    have nk := rk_s (P := fun u => M a (400 * p + u) = x) t.toNat
    rw [show ((t.toNat : Nat) : Int) = t from by omega] at nk
    have nb := rk_bd (fun u => M a (400 * p + u) = x) t.toNat
    have go : ∀ v, v = M a (400 * p + t) → w_X12_member_b84 Q f p s x k z y t v M := fun v ev => by
      unfold w_X12_member_b84 w_X12_member_b100 w_X12_member_b103
      refine ⟨fun w => ⟨fun w2 => ⟨by unfold ri_; omega, by unfold ri_; omega, ih _ _ _ _ _ _ _ _ ⟨rfl, rfl, rfl, rfl, rfl, by omega, by omega, Or.inl ⟨q2, by omega, ?_⟩⟩ (by omega)⟩, fun w2 => ⟨by unfold ri_; omega, by unfold ri_; omega, ih _ _ _ _ _ _ _ _ ⟨rfl, rfl, rfl, rfl, rfl, by omega, by omega, Or.inr ⟨by omega, h1 t t0 (by omega) (by rw [← ev]; exact w) (by omega)⟩⟩ (by omega)⟩⟩, fun w => ⟨by unfold ri_; omega, ih _ _ _ _ _ _ _ _ ⟨rfl, rfl, rfl, rfl, rfl, by omega, by omega, Or.inl ⟨q2, y0, ?_⟩⟩ (by omega)⟩⟩
      · rw [show (t + 1).toNat = t.toNat + 1 from by omega, nk.1 (by rw [← ev]; exact w)]; omega
      · rw [show (t + 1).toNat = t.toNat + 1 from by omega, nk.2 (by rw [← ev]; exact w)]; exact ey
    refine ⟨fun w => p_at p0 (by omega) t0 (by omega) fun _ => ⟨by omega, by omega, fun v14 e14 _ => go v14 ?_⟩, fun w => p_at p0 (by omega) t0 (by omega) fun _ => ⟨by omega, by omega, fun v17 e17 _ => go v17 ?_⟩⟩
    · rcases ha with ⟨h, h'⟩ | ⟨h, h'⟩
      · omega
      · rw [h']; exact e14
    · rcases ha with ⟨h, h'⟩ | ⟨h, h'⟩
      · rw [h']; exact e17
      · omega
theorem rk_uq {P : Int → Prop} {a b : Int} (a0 : 0 ≤ a) (b0 : 0 ≤ b) (ha : P a) (hb : P b) (h : rk P a.toNat = rk P b.toNat) : a = b := by
  by_cases z : a < b
  · have := rk_st (b := b.toNat) a0 (by omega) ha; omega
  · by_cases z2 : b < a
    · have := rk_st (b := a.toNat) b0 (by omega) hb; omega
    · omega
set_option maxHeartbeats 1000000 in
theorem t_member {C R : MM} {p s x k : Int} (gk : ri_ k) (h : RD C R) : w_X11_member (fun r C' => w_X12_member (fun r' R' => r = r' ∧ R' = ux_ R 0 0 0 ∧ RD C' R' ∧ FPc C C') p s x k R) (fun E C' => E = "java/util/NoSuchElementException" ∧ RD C' R ∧ FPc C C' ∧ w_X12_member (fun r' R' => R' = ux_ R 0 0 1) p s x k R) p s x k C := by
  have h' := h
  obtain ⟨hB, hJ, cs, hcs⟩ := h
  have hY := hB.1.2.2.2.2
  have bad : ∀ Q : Int → MM → Prop, ¬ (0 ≤ p ∧ p < 4 ∧ 0 ≤ s ∧ s < 2 ∧ 0 ≤ x ∧ 0 ≤ k) → Q 0 (ux_ R 0 0 1) → w_X12_member Q p s x k R := fun Q hn hq => by
    have fin : w_X12_member_b109 Q (-1) R := by
      unfold w_X12_member_b109 w_X12_member_b121
      refine ⟨fun w => absurd rfl w, fun _ M1 e1 v2 e2 _ => ⟨fun w => ?_, fun _ => by rw [e1]; exact hq⟩⟩
      rw [e2, e1, ux_s] at w; omega
    unfold w_X12_member w_X12_member_b10
    refine loop8 _ (fun (b1 b2 b3 b4 z y t : Int) M1 => p = b1 ∧ s = b2 ∧ x = b3 ∧ k = b4 ∧ R = M1 ∧ z = -1) (fun (_ _ _ _ _ _ t : Int) _ => 0) ?_ _ _ _ _ _ _ _ _ ⟨rfl, rfl, rfl, rfl, rfl, rfl⟩
    rintro _ _ _ _ z y t _ f ⟨rfl, rfl, rfl, rfl, rfl, rfl⟩ ih
    unfold wb_X12_member_b10
    exact p_R_isPic (fun _ _ _ => ⟨fun q => absurd q (by decide), fun _ => ⟨fun q => fin, fun _ => ⟨fun q => fin, fun _ => ⟨fun q => fin, fun _ => ⟨fun q => fin, fun _ => absurd ⟨by omega, by omega, by omega, by omega, by omega, by omega⟩ hn⟩⟩⟩⟩⟩) (fun q _ => ⟨fun _ => fin, fun q => absurd rfl q⟩)
  have bad' : ¬ (0 ≤ p ∧ p < 4 ∧ 0 ≤ s ∧ s < 2 ∧ 0 ≤ x ∧ 0 ≤ k) → w_X11_member_b25 (fun r C' => w_X12_member (fun r' R' => r = r' ∧ R' = ux_ R 0 0 0 ∧ RD C' R' ∧ FPc C C') p s x k R) (fun E C' => E = "java/util/NoSuchElementException" ∧ RD C' R ∧ FPc C C' ∧ w_X12_member (fun r' R' => R' = ux_ R 0 0 1) p s x k R) C := fun hn => by
    unfold w_X11_member_b25
    exact ⟨rfl, h', FPc_r C, bad _ hn rfl⟩
  unfold w_X11_member
  refine p_isPic (fun p0 p4 _ => ⟨fun q => absurd q (by decide), fun _ => ⟨fun q => bad' (by omega), fun q1 => ⟨fun q => bad' (by omega), fun q2 => ⟨fun q => bad' (by omega), fun q3 => ⟨fun q4 => ?_, fun q => bad' (by omega)⟩⟩⟩⟩⟩) (fun hn _ => ⟨fun _ => bad' (by omega), fun q => absurd rfl q⟩)
  have hc := hcs.1 p p0 p4
  have hP := hc.2
  have hw := hc.2.1
  have n0 := hw.1
  have n4 := hw.2.1
  have ip := hcs.2.2.2.1 p p0 (by omega)
  have cc : 25 < cs p := by unfold isP at ip; omega
  have core : ∀ (a : Nat) (d : Nat) (M : MM), SHf C M (cs p) → Rpic M R (cs p) p → (∀ t, 0 ≤ t → t < C (cs p) 0 → M d t = R a (400 * p + t)) → ((s = 0 ∧ a = 49) ∨ (s = 1 ∧ a = 50)) → w_X5_memberOf (cs p) d 400 (fun r3 M4 => ri_ r3 → ri_ r3 → w_X11_member_b64 (fun r C' => w_X12_member (fun r' R' => r = r' ∧ R' = ux_ R 0 0 0 ∧ RD C' R' ∧ FPc C C') p s x k R) (fun E C' => E = "java/util/NoSuchElementException" ∧ RD C' R ∧ FPc C C' ∧ w_X12_member (fun r' R' => R' = ux_ R 0 0 1) p s x k R) r3 M4) x k M := fun a d M hS hP' tab ha => by
    have e0 : M (cs p) 0 = C (cs p) 0 := by rw [hS (cs p) (by omega)]
    obtain ⟨y1, y2⟩ := RD_sh hB hJ hcs p0 p4 hS hP'
    have rkE : ∀ n : Nat, (n : Int) ≤ C (cs p) 0 → rk (fun u => M d u = x) n = rk (fun u => R a (400 * p + u) = x) n := fun n hn => rk_c n fun t t0 t1 => by rw [tab t t0 (by omega)]
    refine p_memberOf (by omega) (by omega) q4 gk (fun t t0 t1 et er _ _ => ?_) (fun hr _ _ => ?_)
    · rw [e0] at t1
      rw [tab t t0 t1] at et
      rw [rkE t.toNat (by omega)] at er
      unfold w_X11_member_b64
      refine ⟨fun _ => p_R_member n4 n0 hc.2.2.1.1 p0 p4 (by omega) (by omega) (by omega) q4 gk ha (fun u u0 u1 eu ek => ⟨rk_uq (P := fun u => R a (400 * p + u) = x) t0 u0 et eu (by omega), rfl, RD_00 y1 0, y2⟩) (fun q => ?_), fun q => by omega⟩
      have := rk_st (P := fun u => R a (400 * p + u) = x) (b := (C (cs p) 0).toNat) t0 (by omega) et
      omega
    · rw [e0, rkE _ (by omega)] at hr
      unfold w_X11_member_b64
      refine ⟨fun q => absurd rfl q, fun _ => ⟨rfl, y1, y2, p_R_member n4 n0 hc.2.2.1.1 p0 p4 (by omega) (by omega) (by omega) q4 gk ha (fun u u0 u1 eu ek => ?_) (fun _ => rfl)⟩⟩
      have := rk_st (P := fun u => R a (400 * p + u) = x) (b := (C (cs p) 0).toNat) u0 (by omega) eu
      omega
  refine ⟨fun z => ⟨p0, p4, cs p, hc.1, ip, ?_⟩, fun z => ⟨p0, p4, cs p, hc.1, ip, ?_⟩⟩
  · unfold w_X5_twinMember
    exact nd_T hY cc hP fun M hS hP' _ tab => core 50 (cs p + 26) M hS hP' tab (Or.inr ⟨by omega, rfl⟩)
  · unfold w_X5_ringMember
    exact nd_R hY cc hP fun M hS hP' _ tab => core 49 (cs p + 25) M hS hP' tab (Or.inl ⟨z, rfl⟩)
