/-! what a picture tells when it is asked first: on both sides -/
def SHf (C M : MM) (c : Nat) : Prop := ∀ k, ¬ (c + 18 ≤ k ∧ k ≤ c + 32) → M k = C k
theorem SHf_t {C M N : MM} {c : Nat} (h : SHf C M c) (h' : SHf M N c) : SHf C N c := fun k hk => by rw [h' k hk, h k hk]
theorem SHf_ty {C M : MM} {c : Nat} (hc : 25 < c) (h : SHf C M c) : tyLe C M := tyLe_of (by rw [h 8 (by omega)]) (fun k _ _ => h k (by omega))
theorem SHf_Y {C M R0 : MM} {c : Nat} (hc : 25 < c) (h : SHf C M c) (hY : Rty C R0) : Rty M R0 := Rty_C hY fun k _ _ => h k (by omega)
theorem pic_sh {C M R R0 : MM} {c : Nat} {p : Int} (hY : Rty C R0) (hc : 25 < c) (h : SHf C M c) (hP : Rpic C R c p) (hs : ShK M R c p) : Rpic M R c p := by
  obtain ⟨hw, hb, ht, -⟩ := hP
  have tl := SHf_ty hc h
  have e0 : M c 0 = C c 0 := by rw [h c (by omega)]
  have e11 : M c 11 = C c 11 := by rw [h c (by omega)]
  have e : ∀ q, c < q → q ≤ c + 12 → M q = C q := fun q a b => h q (by omega)
  have n4 := hw.2.1
  obtain ⟨hp, -, -⟩ := gr_eq hY hw tl e0 e11 e
  obtain ⟨s1, s2, s3⟩ := sp_eq hY hw tl e0 e11 e
  refine ⟨pw_fr hY hw tl e0 e11 e (fun t a b => by rw [h (c + 13) (by omega)]; exact hw.2.2.2.2.2.2.2.2.2.2.2.1 t a b), ?_, ?_, hs⟩
  · obtain ⟨b1, b2, b3, b4, b5⟩ := hb
    unfold Rpb
    rw [e0, e11, e (c + 1) (by omega) (by omega), e (c + 2) (by omega) (by omega), e (c + 3) (by omega) (by omega), e (c + 4) (by omega) (by omega), e (c + 9) (by omega) (by omega), e (c + 11) (by omega) (by omega), e (c + 12) (by omega) (by omega)]
    exact ⟨b1, b2, fun t k a b d f => b3 t k a b d (by rw [← (hp t a b).1]; exact f), b4, b5⟩
  · obtain ⟨t1, t2, t3, t4, t5, t6, t7, t8⟩ := ht
    unfold Rtb
    rw [h c (by omega), e (c + 5) (by omega) (by omega), e (c + 6) (by omega) (by omega), e (c + 7) (by omega) (by omega), h (c + 13) (by omega), h (c + 14) (by omega)]
    exact ⟨t1, t2, t3, t4, t5, s1 _ _ _ t6, s2 _ _ t7, s3 _ _ t8⟩
theorem HD_fr {C M R0 : MM} {c : Nat} (hY : Rty C R0) (hc : 25 < c) (hw : PW C c) (h : ∀ k, ¬ (c + 18 ≤ k ∧ k ≤ c + 32) → M k = C k) (e : M (c + 19) = C (c + 19) ∧ M (c + 20) = C (c + 20) ∧ M (c + 21) = C (c + 21)) (hd : HD C c) : HD M c := by
  unfold HD at hd ⊢
  rw [h c (by omega), e.1, e.2.1, e.2.2]
  refine ⟨hd.1, fun t a b => ?_⟩
  rw [hl_fr hY hw (SHf_ty hc h) (by rw [h c (by omega)]) (by rw [h c (by omega)]) (fun q a b => h q (by omega)) t]
  exact hd.2 t a b
theorem nd_H {Q : Int → MM → Prop} {C R R0 : MM} {c : Nat} {p : Int} (hY : Rty C R0) (hc : 25 < c) (hP : Rpic C R c p) (hq : ∀ M, SHf C M c → Rpic M R c p → HD M c → Q 0 M) : w_X8_needHolders (c + 18) c Q C := by
  obtain ⟨k1, k2, k3, k4, k5, k6⟩ := hP.2.2.2
  refine p_needHolders hY hP.1 (fun z => hq C (fun _ _ => rfl) hP (k3 z)) fun z M hF f0 f1 => ?_
  have hS : SHf C M c := fun k hk => hF.1 k (by omega) (by omega) (by omega) (by omega) (by omega)
  have hd : HD M c := by
    refine ⟨f0, fun t a b => ?_⟩
    rw [hS c (by omega)] at b
    rw [hl_fr hY hP.1 (SHf_ty hc hS) (by rw [hS c (by omega)]) (by rw [hS c (by omega)]) (fun q a b => hS q (by omega)) t]
    exact f1 t a b
  have kb := kb_1 ⟨(C (c + 18) 1).toNat, by omega⟩
  simp only [show (((C (c + 18) 1).toNat : Nat) : Int) = C (c + 18) 1 from by omega] at kb
  refine hq M hS (pic_sh hY hc hS hP ?_) hd
  unfold ShK
  rw [hF.2.2, hF.2.1 9 (by decide), hF.2.1 11 (by decide), hF.1 (c + 22) (by omega) (by omega) (by omega) (by omega) (by omega), hF.1 (c + 23) (by omega) (by omega) (by omega) (by omega) (by omega), hF.1 (c + 24) (by omega) (by omega) (by omega) (by omega) (by omega), hF.1 (c + 25) (by omega) (by omega) (by omega) (by omega) (by omega), hF.1 (c + 26) (by omega) (by omega) (by omega) (by omega) (by omega), hS c (by omega), kb.2.1, kb.2.2.1, kb.2.2.2.1]
  exact ⟨kb.2.2.2.2.1, kb.2.2.2.2.2, fun _ => hd, k4, k5, k6⟩
theorem nd_D {Q : Int → MM → Prop} {C R R0 : MM} {c : Nat} {p : Int} (hY : Rty C R0) (hc : 25 < c) (hP : Rpic C R c p) (hq : ∀ M, SHf C M c → Rpic M R c p → (∀ t, 0 ≤ t → t < C c 0 → M (c + 22) t = R 46 (400 * p + t) ∧ M (c + 23) t = R 47 (400 * p + t) ∧ M (c + 24) t = R 48 (400 * p + t)) → Q 0 M) : w_X5_needDominators c Q C := by
  unfold w_X5_needDominators
  refine nd_H hY hc hP fun M hS hP1 hd => ?_
  have hY1 := SHf_Y hc hS hY
  have e0 : M c 0 = C c 0 := by rw [hS c (by omega)]
  obtain ⟨k1, k2, k3, k4, k5, k6⟩ := hP1.2.2.2
  refine p_needDominators hY1 hP1.1 hc hd (fun z => hq M hS hP1 fun t a b => k4 z t a (by omega)) fun z N hF hT => ?_
  have hS2 : SHf M N c := fun k hk => hF.1 k (by omega) (by omega)
  have kb := kb_2 ⟨(M (c + 18) 1).toNat, by omega⟩
  simp only [show (((M (c + 18) 1).toNat : Nat) : Int) = M (c + 18) 1 from by omega] at kb
  have tab : ∀ t, 0 ≤ t → t < M c 0 → N (c + 22) t = R 46 (400 * p + t) ∧ N (c + 23) t = R 47 (400 * p + t) ∧ N (c + 24) t = R 48 (400 * p + t) := fun t a b => DTf_u hT hP1.2.2.1.2.2.2.2.2.1 a b
  refine hq N (SHf_t hS hS2) (pic_sh hY1 hc hS2 hP1 ?_) fun t a b => tab t a (by omega)
  unfold ShK
  rw [hF.2.2, hF.2.1 9 (by decide), hF.2.1 11 (by decide), hF.1 (c + 25) (by omega) (by omega), hF.1 (c + 26) (by omega) (by omega), hS2 c (by omega), kb.2.1, kb.2.2.1, kb.2.2.2.1]
  exact ⟨kb.2.2.2.2.1, kb.2.2.2.2.2, fun y => HD_fr hY1 hc hP1.1 hS2 ⟨hF.1 _ (by omega) (by omega), hF.1 _ (by omega) (by omega), hF.1 _ (by omega) (by omega)⟩ (k3 y), fun _ => tab, k5, k6⟩
theorem nd_R {Q : Int → MM → Prop} {C R R0 : MM} {c : Nat} {p : Int} (hY : Rty C R0) (hc : 25 < c) (hP : Rpic C R c p) (hq : ∀ M, SHf C M c → Rpic M R c p → M (c + 18) 9 = R 53 p → (∀ t, 0 ≤ t → t < C c 0 → M (c + 25) t = R 49 (400 * p + t)) → Q 0 M) : w_X8_needRings (c + 18) c Q C := by
  obtain ⟨k1, k2, k3, k4, k5, k6⟩ := hP.2.2.2
  refine p_needRings hY hP.1 (fun z => hq C (fun _ _ => rfl) hP (k5 z).1 (k5 z).2) fun z N hF hT => ?_
  have hS : SHf C N c := fun k hk => hF.1 k (by omega) (by unfold tC; omega)
  have kb := kb_4 ⟨(C (c + 18) 1).toNat, by omega⟩
  simp only [show (((C (c + 18) 1).toNat : Nat) : Int) = C (c + 18) 1 from by omega] at kb
  have tab := RGf_u hT hP.2.2.1.2.2.2.2.2.2.1
  refine hq N hS (pic_sh hY hc hS hP ?_) tab.1 tab.2
  unfold ShK
  rw [hF.2.2, hF.2.1 11 (by decide) (by decide), hF.1 (c + 22) (by omega) (by unfold tC; omega), hF.1 (c + 23) (by omega) (by unfold tC; omega), hF.1 (c + 24) (by omega) (by unfold tC; omega), hF.1 (c + 26) (by omega) (by unfold tC; omega), hS c (by omega), kb.2.1, kb.2.2.1, kb.2.2.2.1]
  exact ⟨kb.2.2.2.2.1, kb.2.2.2.2.2, fun y => HD_fr hY hc hP.1 hS ⟨hF.1 _ (by omega) (by unfold tC; omega), hF.1 _ (by omega) (by unfold tC; omega), hF.1 _ (by omega) (by unfold tC; omega)⟩ (k3 y), k4, fun _ => tab, k6⟩
theorem nd_T {Q : Int → MM → Prop} {C R R0 : MM} {c : Nat} {p : Int} (hY : Rty C R0) (hc : 25 < c) (hP : Rpic C R c p) (hq : ∀ M, SHf C M c → Rpic M R c p → M (c + 18) 11 = R 54 p → (∀ t, 0 ≤ t → t < C c 0 → M (c + 26) t = R 50 (400 * p + t)) → Q 0 M) : w_X8_needTwins (c + 18) c Q C := by
  obtain ⟨k1, k2, k3, k4, k5, k6⟩ := hP.2.2.2
  refine p_needTwins hY hP.1 (fun z => hq C (fun _ _ => rfl) hP (k6 z).1 (k6 z).2) fun z N hF hT => ?_
  have hS : SHf C N c := fun k hk => hF.1 k (by omega) (by unfold tW; omega)
  have kb := kb_8 ⟨(C (c + 18) 1).toNat, by omega⟩
  simp only [show (((C (c + 18) 1).toNat : Nat) : Int) = C (c + 18) 1 from by omega] at kb
  have tab := GPf_u hT hP.2.2.1.2.2.2.2.2.2.2
  refine hq N hS (pic_sh hY hc hS hP ?_) tab.1 tab.2
  unfold ShK
  rw [hF.2.2, hF.2.1 9 (by decide) (by decide), hF.1 (c + 22) (by omega) (by unfold tW; omega), hF.1 (c + 23) (by omega) (by unfold tW; omega), hF.1 (c + 24) (by omega) (by unfold tW; omega), hF.1 (c + 25) (by omega) (by unfold tW; omega), hS c (by omega), kb.2.1, kb.2.2.1, kb.2.2.2.1]
  exact ⟨kb.2.2.2.2.1, kb.2.2.2.2.2, fun y => HD_fr hY hc hP.1 hS ⟨hF.1 _ (by omega) (by unfold tW; omega), hF.1 _ (by omega) (by unfold tW; omega), hF.1 _ (by omega) (by unfold tW; omega)⟩ (k3 y), k4, k5, fun _ => tab⟩
/-- the state of both behind it -/
theorem RD_sh {C M R : MM} {cs : Int → Nat} {p : Int} (hB : RB C R) (hJ : Rjn C R) (h : pcs C R cs) (p0 : 0 ≤ p) (p4 : p < 4) (hS : SHf C M (cs p)) (hP : Rpic M R (cs p) p) : RD M R ∧ FPc C M := by
  have ip := h.2.2.2.1 p p0 (by omega)
  unfold isP at ip
  have hY := hB.1.2.2.2.2
  obtain ⟨nB, nJ⟩ := RB_p (C' := M) (R' := R) hB hJ (fun k a b => hS k (by omega)) (fun _ _ _ => rfl) (fun _ _ => rfl)
  exact ⟨⟨nB, nJ, ps_put hY p0 p4 h.1 h.2.1 h.2.2.1 h.2.2.2.1 h.2.2.2.2 hP (fun k hk => hS k (by omega)) (fun _ _ _ _ _ => rfl)⟩, fun k a b => hS k (by omega), fun i _ => by rw [hS 0 (by omega)]⟩
set_option maxHeartbeats 1000000 in
theorem p_R_holders {Q : Int → MM → Prop} {C M : MM} {c : Nat} {p t : Int} (hY : Rty C M) (hw : PW C c) (hb : Rpb C M c p) (p0 : 0 ≤ p) (p5 : p < 5) (t0 : 0 ≤ t) (t1 : t < C c 0) (hq : Q ((hl C c t).length : Int) M) : w_X12_holders Q p t M := by
  have n0 := hw.1
  have n4 := hw.2.1
  obtain ⟨-, -, -, -, -, -, -, r0, r1, hr, -⟩ := id hw
  obtain ⟨b1, b2, b3, b4, b5⟩ := id hb
  have bd := hs_bd hY hw
  have lb : ((hl C c t).length : Int) ≤ 4108 := by
    have s := hs_s C c t.toNat
    rw [show ((t.toNat : Nat) : Int) = t from by omega] at s
    have m0 := hs_m C c 0 t.toNat (by omega)
    have m1 := hs_m C c (t.toNat + 1) (C c 0).toNat (by omega)
    have z0 : hs C c 0 = 0 := rfl
    omega
  have second : w_X12_holders_b50 Q p t ((hR C c t (C c 11).toNat).length : Int) 0 M := by
    unfold w_X12_holders_b50
    refine loop5 _ (fun (a b n u : Int) M1 => p = a ∧ t = b ∧ M = M1 ∧ 0 ≤ u ∧ u ≤ C c 0 ∧ n = ((hU C c t u.toNat).length : Int)) (fun (_ _ _ u : Int) _ => (C c 0 - u).toNat) ?_ _ _ _ _ _ ⟨rfl, rfl, rfl, by omega, n0, rfl⟩
    rintro _ _ n u _ f ⟨rfl, rfl, rfl, u0, u1, en⟩ ih
    unfold wb_X12_holders_b50
    refine ⟨p0, p5, fun v1 e1 _ => ?_⟩
    rw [← b1] at e1
    subst e1
    refine ⟨fun z => ?_, fun z => ?_⟩
    · have : (hU C c t u.toNat) = hl C c t := by unfold hl; rw [show u.toNat = (C c 0).toNat from by omega]
      rw [en, this]; exact hq
    · have uu : ((u.toNat : Nat) : Int) = u := by omega
      have hpc := pw_bd hY hw u0 (by omega)
      unfold w_X12_holders_b64
      refine loop6 _ (fun (a b n2 d k : Int) M1 => p = a ∧ t = b ∧ u = d ∧ M = M1 ∧ 0 ≤ k ∧ k ≤ pcn C c u ∧ n2 = ((hU C c t u.toNat ++ hK C c t u k.toNat).length : Int)) (fun (_ _ _ _ k : Int) _ => (pcn C c u - k).toNat) ?_ _ _ _ _ _ _ ⟨rfl, rfl, rfl, rfl, by omega, hpc.1, by rw [en, List.length_append, show (0 : Int).toNat = 0 from rfl]; show _ = (((hU C c t u.toNat).length + 0 : Nat) : Int); omega⟩
      rintro _ _ n2 _ k _ g ⟨rfl, rfl, rfl, rfl, k0, k1, en2⟩ ih2
      unfold wb_X12_holders_b64
      refine p_slotsIn hY hw hb p0 p5 u0 (by omega) fun _ => ⟨fun z2 => ⟨by unfold ri_; omega, ih _ _ _ _ _ ⟨rfl, rfl, rfl, by omega, by omega, ?_⟩ (by omega)⟩, fun z2 => ?_⟩
      · have e := hU_s (C := C) (c := c) (t := t) u.toNat
        rw [show (u + 1).toNat = u.toNat + 1 from by omega, e, uu, en2, show k.toNat = (pcn C c u).toNat from by omega]
      · have kk : ((k.toNat : Nat) : Int) = k := by omega
        have sp := hl_split (C := C) (c := c) (t := t) u.toNat (k.toNat + 1) (by omega) (by rw [uu]; omega)
        rw [uu] at sp
        have hs := hK_s (C := C) (c := c) (t := t) (u := u) k.toNat
        rw [kk] at hs
        have hlv := pw_lv hw u0 (by omega) k0 (k := k) (by omega)
        have nxt : ∀ s0 : Int, ((lv C c u k = t ∧ s0 = 1) ∨ (lv C c u k ≠ t ∧ s0 = 0)) → w_X12_holders_b109 Q f g p t u k s0 n2 M := fun s0 h => by
          unfold w_X12_holders_b109
          have key : n2 + s0 = ((hU C c t u.toNat ++ hK C c t u (k.toNat + 1)).length : Int) := by
            rcases h with ⟨q1, q2⟩ | ⟨q1, q2⟩
            · rw [hs, if_pos q1, en2, q2, List.length_append, List.length_append, List.length_append]
              simp only [List.length_cons, List.length_nil]; omega
            · rw [hs, if_neg q1, en2, q2]; omega
          refine ⟨by unfold ri_; omega, by unfold ri_; omega, ih2 _ _ _ _ _ _ ⟨rfl, rfl, rfl, rfl, by omega, by omega, by rw [show (k + 1).toNat = k.toNat + 1 from by omega]; exact key⟩ (by omega)⟩
        refine p_linksIn hY hw hb p0 p5 u0 (by omega) k0 (by omega) (fun q => ?_) (fun q => ?_)
        · refine fun _ => ⟨fun w => by omega, fun _ => p_valueIn hY hw hb p0 p5 u0 (by omega) k0 (by omega) fun _ _ => ⟨fun w => ?_, fun w => nxt 1 (Or.inl ⟨by rw [hlv.2.1 q]; exact w, rfl⟩)⟩⟩
          unfold w_X12_holders_b108
          exact nxt 0 (Or.inr ⟨by rw [hlv.2.1 q]; exact w, rfl⟩)
        · refine fun _ => ⟨fun _ => ?_, fun w => absurd rfl w⟩
          unfold w_X12_holders_b108
          exact nxt 0 (Or.inr ⟨by rw [hlv.2.2 q]; omega, rfl⟩)
  unfold w_X12_holders w_X12_holders_b5
  refine loop5 _ (fun (a b n r : Int) M1 => p = a ∧ t = b ∧ M = M1 ∧ 0 ≤ r ∧ r ≤ C c 11 ∧ n = ((hR C c t r.toNat).length : Int)) (fun (_ _ _ r : Int) _ => (C c 11 - r).toNat) ?_ _ _ _ _ _ ⟨rfl, rfl, rfl, by omega, r0, rfl⟩
  rintro _ _ n r _ f ⟨rfl, rfl, rfl, q0, q1, en⟩ ih
  unfold wb_X12_holders_b5
  refine ⟨p0, p5, fun v1 e1 _ => ?_⟩
  rw [← b4] at e1
  subst e1
  refine ⟨fun z => ?_, fun z => ⟨by unfold ri_; omega, by unfold ri_; omega, by omega, by omega, fun v5 e5 _ => ?_⟩⟩
  · rw [en, show r.toNat = (C c 11).toNat from by omega]; exact second
  · rw [← (b5 r q0 (by omega)).2] at e5
    have rr : ((r.toNat : Nat) : Int) = r := by omega
    have hs := hR_s (C := C) (c := c) (t := t) r.toNat
    rw [rr, ← e5] at hs
    have hm := hR_m C c t (r.toNat + 1) (C c 11).toNat (by omega)
    have hm0 := hR_m C c t r.toNat (r.toNat + 1) (by omega)
    have hl0 : (hR C c t (C c 11).toNat).length ≤ (hl C c t).length := hU_m C c t 0 (C c 0).toNat (by omega)
    unfold w_X12_holders_b39
    refine ⟨fun w => ⟨by unfold ri_; omega, by unfold ri_; omega, ih _ _ _ _ _ ⟨rfl, rfl, rfl, by omega, by omega, ?_⟩ (by omega)⟩, fun w => ⟨?_, by unfold ri_; omega, ih _ _ _ _ _ ⟨rfl, rfl, rfl, by omega, by omega, ?_⟩ (by omega)⟩⟩
    · rw [show (r + 1).toNat = r.toNat + 1 from by omega, hs, if_neg w, en]; omega
    · unfold ri_; rw [hs, if_pos w, List.length_append] at hm; simp only [List.length_cons, List.length_nil] at hm; omega
    · rw [show (r + 1).toNat = r.toNat + 1 from by omega, hs, if_pos w, en, List.length_append]; simp only [List.length_cons, List.length_nil]; omega
