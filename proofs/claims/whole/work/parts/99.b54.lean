/-! bytes read as a picture: decode, the class -/
theorem lvS_c {E M : MM} {c : Nat} {b0 n cn : Int} {B : Int → Int} (hA : AT E B n cn) (hK : KT E M c b0 n B cn.toNat) (hsl : ∀ u, u < cn.toNat → KS E M c b0 n B u (tN E B n u).toNat) (e16 : M 16 = E 16) {t k : Nat} (ht : (t : Int) < cn) : pcn M c t = tN E B n t ∧ ((k : Int) < tN E B n t → lv M c t k = lvS E B n t k) := by
  have q := hK.2.2.1 t (by omega)
  have e1 : pcn M c t = tN E B n t := by
    unfold pcn tN so
    rw [q.2.1, q.2.2.1, e16]
  refine ⟨e1, fun hk => ?_⟩
  have ks := hsl t (by omega) k (by omega)
  unfold lv lvS
  rw [KT_4 hK (u := t) (by omega), ks.1, ks.2.1, show ((t : Int)).toNat = t from by omega, show ((k : Int)).toNat = k from by omega]
  unfold lf
  by_cases z : kA E (tY E B n t) k = 5
  · rw [if_pos z, if_neg (by decide), if_pos z]
  · rw [if_neg z, if_pos rfl, if_neg z]
theorem PR_of {E M R0 : MM} {c : Nat} {b0 n cn : Int} {B : Int → Int} (hY : Rty E R0) (hA : AT E B n cn) (hK : KT E M c b0 n B cn.toNat) (hsl : ∀ u, u < cn.toNat → KS E M c b0 n B u (tN E B n u).toNat) (e16 : M 16 = E 16) (hr0 : 0 ≤ rC E B n cn) (hr1 : rC E B n cn ≤ 108) (hrt : ∀ r, r < (rC E B n cn).toNat → (rtF E B n cn r).1 = 0) (hKR : KR E M c n cn B (rC E B n cn).toNat) : PR M c := by
  obtain ⟨c0, c4, hA'⟩ := id hA
  have hG : ∀ u, u < cn.toNat → GT E B n u := fun u hu => (hA' u (by omega)).1
  have e0 : M c 0 = cn := by rw [hK.1]; omega
  have e11 : M c 11 = rC E B n cn := by rw [hKR.1]; omega
  refine ⟨by omega, by omega, hK.2.1, fun t a b => ?_, fun t k a b d e => ?_, by omega, by omega, fun r a b => ?_, fun r a b => ?_⟩
  · obtain ⟨T, rfl⟩ : ∃ T : Nat, t = T := ⟨t.toNat, by omega⟩
    rw [e0] at b
    have g := hG T (by omega)
    have nb' := tN_bd hY g
    have tl := tF_le hY hG (u := T) (by omega)
    rw [(lvS_c hA hK hsl e16 (k := 0) b).1, KT_4 hK (u := T) (by omega), show (T : Int) + 1 = ((T + 1 : Nat) : Int) from by omega, KT_4 hK (u := T + 1) (by omega), tF_s]
    exact ⟨rfl, nb'.1, nb'.2, tl.1, g.2.2.2.2.2.2.2.1⟩
  · obtain ⟨T, rfl⟩ : ∃ T : Nat, t = T := ⟨t.toNat, by omega⟩
    obtain ⟨K, rfl⟩ : ∃ K : Nat, k = K := ⟨k.toNat, by omega⟩
    rw [e0] at b
    obtain ⟨x1, x2⟩ := lvS_c hA hK hsl e16 (k := K) b
    rw [x1] at e
    have ks := hsl T (by omega) K (by omega)
    rw [x2 e, KT_4 hK (u := T) (by omega), ks.2.1, e0]
    unfold lvS lf
    rw [show ((T : Int)).toNat = T from by omega, show ((K : Int)).toNat = K from by omega]
    by_cases z : kA E (tY E B n T) K = 5
    · rw [if_pos z, if_pos z]
      have := AT_v hA b e z
      exact ⟨Or.inr rfl, by omega, by omega⟩
    · rw [if_neg z, if_neg z]; exact ⟨Or.inl rfl, by omega, by omega⟩
  · obtain ⟨T, rfl⟩ : ∃ T : Nat, r = T := ⟨r.toNat, by omega⟩
    have := rtF_ok (hrt T (by omega))
    rw [(hKR.2 T (by omega)).2, e0]; omega
  · obtain ⟨T, rfl⟩ : ∃ T : Nat, r = T := ⟨r.toNat, by omega⟩
    have := (rtF_ok (hrt (T + 1) (by omega))).2.2.1
    rw [(hKR.2 T (by omega)).1, show (T : Int) + 1 = ((T + 1 : Nat) : Int) from by omega, (hKR.2 (T + 1) (by omega)).1]
    exact this
def FDw (E M : MM) (c : Nat) : Prop := (∀ k, ¬ (c ≤ k ∧ k ≤ c + 12) → k ≠ 280 → k ≠ 283 → k ≠ 284 → M k = E k) ∧ (∀ i, i ≠ 0 → i ≠ 11 → M c i = E c i) ∧ ∀ i, i ∉ ([9, 10, 13, 14] : List Int) → M 280 i = E 280 i
theorem FDw_of {E M : MM} {c : Nat} (h : FD E M c) : FDw E M c := ⟨h.1, fun i a _ => h.2.1 i a, h.2.2⟩
theorem FDw_o {E M M' : MM} {c : Nat} (hc : c + 12 < 280) (h : FDw E M c) (o : O28 M M') : FDw E M' c := ⟨fun k a b d e => by rw [o.1 k b]; exact h.1 k a b d e, fun i a b => by rw [o.1 c (by omega)]; exact h.2.1 i a b, fun i a => by rw [o.2 i a]; exact h.2.2 i a⟩
theorem FD_R1 {E M M' : MM} {c : Nat} (hc : c + 12 < 280) (h : FD E M c) (r : FR1 M M' c) : FDw E M' c := ⟨fun k a b d e => by rw [r.1 k (by omega) (by omega) (by omega) b]; exact h.1 k a b d e, fun i a b => by rw [r.2.1 i b]; exact h.2.1 i a, fun i a => by rw [r.2.2 i a]; exact h.2.2 i a⟩
theorem FD_W5 {E M M' : MM} {c : Nat} (hc : c + 12 < 280) (h : FDw E M c) (r : W5 M M' c) : FDw E M' c := ⟨fun k a b d e => by rw [r k (by omega) (by omega) (by omega)]; exact h.1 k a b d e, fun i a b => by rw [r c (by omega) (by omega) (by omega)]; exact h.2.1 i a b, fun i a => by rw [r 280 (by omega) (by omega) (by omega)]; exact h.2.2 i a⟩
theorem WY_tr {C C' M : MM} {c : Nat} {x t k : Int} (h : WY C M c x t k) (e11 : C' c 11 = C c 11) (e : C' (c + 11) = C (c + 11) ∧ C' (c + 12) = C (c + 12)) (ep : pcn C' c = pcn C c) (el : lv C' c = lv C c) : WY C' M c x t k := by
  unfold WY fR fK at h ⊢
  rw [e11, e.1, e.2, ep, el]
  exact h
set_option maxHeartbeats 2000000 in
theorem p_decode {Q : Int → MM → Prop} {C R0 : MM} {c a na : Nat} {b0 n : Int} {B : Int → Int} (hY : Rty C R0) (hL : Rlk C) (hc : isP c) (hP : PF C c) (hac : ¬ (c ≤ a ∧ a ≤ c + 18)) (ha1 : a ≠ 280) (ha2 : a ≠ 283) (ha3 : a ≠ 284) (kc : ksC[a]? = some (0, na)) (hna : (na : Int) < 2147483648) (b00 : 0 ≤ b0) (n0 : 0 ≤ n) (hb : b0 + n ≤ na) (hB : ∀ i, 0 ≤ i → i < n → C a (b0 + i) = B i ∧ 0 ≤ B i ∧ B i < 256) (q1 : ∀ E, EMd C E c a b0 n → (dcF E B n).1 = 0 → ∀ M, FDw E M c → DOK E M c b0 n B (nvl B n 0) → M 280 13 = 0 → M 280 14 = -1 → Q 1 M) (q0 : ∀ E, EMd C E c a b0 n → (dcF E B n).1 ≠ 0 → ∀ M, FDw E M c → PF M c → M 280 13 = (dcF E B n).1 → M 280 14 = (dcF E B n).2 → Q 0 M) : w_X0_decode a na c Q b0 (b0 + n) C := by
  have mc := isP_m hc
  unfold w_X0_decode
  intro M1 e1 M2 e2 M3 e3 M4 e4 M5 e5 M6 e6
  have o6 : ∀ k, k ≠ 280 → M6 k = C k := fun k hk => by rw [e6, e5, e4, e3, e2, e1]; funext i; simp only [ux_c _ _ _ _ hk]
  have PF6 : PF M6 c := by
    unfold PF at hP ⊢
    rw [o6 c (by omega), o6 (c + 1) (by omega), o6 (c + 4) (by omega), o6 (c + 8) (by omega), o6 (c + 13) (by omega)]
    exact hP
  refine p_forget PF6 fun E hE => ?_
  obtain ⟨g1, g2, g3, g4, g5, g6, g7, g8, g9⟩ := hE
  have m28 : ∀ i, E 280 i = M6 280 i := fun i => by rw [g1 280 (by omega) (by omega) (by omega) (by omega)]
  have hEM : EMd C E c a b0 n := by
    refine ⟨fun k x1 x2 x3 x4 x5 => by rw [g1 k x1 x2 x3 x4, o6 k x5], fun i x1 x2 x3 => by rw [g2 i x1 x2 x3, o6 c (by omega)], g3, g4, g5, g6, g7, g8, fun i hi => ?_⟩
    rw [m28, e6, e5, e4, e3, e2, e1, ux_i _ _ _ (fun y => hi (by rw [y]; decide)), ux_i _ _ _ (fun y => hi (by rw [y]; decide)), ux_i _ _ _ (fun y => hi (by rw [y]; decide)), ux_i _ _ _ (fun y => hi (by rw [y]; decide)), ux_i _ _ _ (fun y => hi (by rw [y]; decide)), ux_i _ _ _ (fun y => hi (by rw [y]; decide))]
  have q1 := q1 E hEM
  have q0 := q0 E hEM
  have hYE : Rty E R0 := Rty_C hY (fun k x y => hEM.1 k (by omega) (by omega) (by omega) (by omega) (by omega))
  have hLE : Rlk E := Rlk_of hL (by rw [hEM.1 8 (by omega) (by omega) (by omega) (by omega) (by omega)]) (hEM.1 14 (by omega) (by omega) (by omega) (by omega) (by omega)) (hEM.1 19 (by omega) (by omega) (by omega) (by omega) (by omega)) (hEM.1 20 (by omega) (by omega) (by omega) (by omega) (by omega))
  have S0 : Sc E a b0 n B := by
    refine ⟨?_, ?_, ?_, ⟨na, kc, hna, hb⟩, b00, n0, fun i x y => ?_, ha1⟩
    · rw [m28, e6, e5, e4, e3, e2, e1, ux_i _ _ _ (by decide), ux_i _ _ _ (by decide), ux_i _ _ _ (by decide), ux_i _ _ _ (by decide), ux_i _ _ _ (by decide), ux_s]
    · rw [m28, e6, e5, e4, e3, e2, ux_i _ _ _ (by decide), ux_i _ _ _ (by decide), ux_i _ _ _ (by decide), ux_i _ _ _ (by decide), ux_s]
    · rw [m28, e6, e5, e4, e3, ux_i _ _ _ (by decide), ux_i _ _ _ (by decide), ux_i _ _ _ (by decide), ux_s]
    · rw [hEM.1 a (by omega) (by omega) (by omega) (by omega) ha1]; exact hB i x y
  have R0' : RdC E b0 0 okF := by
    refine ⟨?_, fun _ => ?_, ?_⟩
    · rw [m28, e6, e5, ux_i _ _ _ (by decide), ux_s]; rfl
    · rw [m28, e6, e5, e4, ux_i _ _ _ (by decide), ux_i _ _ _ (by decide), ux_s]; omega
    · rw [m28, e6, ux_s]; rfl
  have F0 : FD E E c := ⟨fun _ _ _ _ _ => rfl, fun _ _ => rfl, fun _ _ => rfl⟩
  have K0 : KT E E c b0 n B 0 := by
    refine ⟨g3, ?_, fun u hu => by omega, fun o x y => Or.inl (g6 o x y)⟩
    rw [g1 (c + 4) (by omega) (by omega) (by omega) (by omega)]; exact PF6.2.2.1
  have z13 : ∀ M : MM, FDw E M c → ∀ i, 0 ≤ i → i < 400 → M (c + 13) i = 0 := fun M hF i x y => by rw [hF.1 (c + 13) (by omega) (by omega) (by omega) (by omega)]; exact g7 i x y
  have unf := fun (y : Int × Int) (h : dcF E B n = y) => h
  refine p_readMarks S0 R0' (fun mk n2 M10 o10 r10 _ => ⟨fun w => absurd w (by decide), fun _ => ?_⟩) (fun mk M10 o10 x13 x14 _ => ⟨fun _ => ?_, fun w => absurd rfl w⟩)
  · have F10 := FD_o (by omega) F0 o10
    have K10 : KT E M10 c b0 n B 0 := KT_o K0 (fun k hk => o10.1 k (by omega))
    have d1 : dcF E B n = ff (upf B n 2 400) (ff (thsF E B n (nvl B n 0) (nvl B n 0).toNat) (ff (lnkF E B n (nvl B n 0).toNat) (ff (upf B n (stp B n (rJ E B n (nvl B n 0))) 108) (ff (rtsF E B n (nvl B n 0) (rC E B n (nvl B n 0)).toNat) (ff (chkF B n (rE E B n (nvl B n 0))) (wlF E B n (nvl B n 0))))))) := by unfold dcF; rw [ff_0 mk]
    refine p_readThings hYE hc (Sc_o S0 o10) (by omega) ha2 ha3 F10 K10 r10 n2 (fun u1 u2 M13 F13 S13 K13 L13 R13 p0 p1 _ => ⟨fun w => absurd w (by decide), fun _ => ?_⟩) (fun u1 M13 t t4 G13 F13 K13 x13 x14 _ => ⟨fun _ => ?_, fun w => absurd rfl w⟩)
    · have uu := upf_0 u1
      have cnb : 0 ≤ nvl B n 0 ∧ nvl B n 0 ≤ 400 := ⟨uu.2.1, uu.2.2⟩
      generalize hcn : nvl B n 0 = cn at *
      have hA : AT E B n cn := ⟨cnb.1, cnb.2, fun u hu => ⟨(L13 u (by omega)).1, fun k hk => slsF_ok ((thsF_ok u2 u (by omega)).2) k (by omega)⟩⟩
      have hG : ∀ u, u < cn.toNat → GT E B n u := fun u hu => (L13 u hu).1
      have L13' : ∀ u, u < cn.toNat → KS E M13 c b0 n B u (tN E B n u).toNat := fun u hu => (L13 u hu).2
      -- all positions are in bounds
      have posT : ∀ t : Nat, t ≤ cn.toNat → 0 ≤ stp B n (tix E B n t) ∧ stp B n (tix E B n t) ≤ n := by
        intro t
        induction t with
        | zero =>
          intro _
          have pz := rd_p uu.1
          show 0 ≤ (rd B n 2).2.2.2 ∧ (rd B n 2).2.2.2 ≤ n
          omega
        | succ t ih =>
          intro ht
          have i := ih (by omega)
          have ok : ∀ j, tix E B n t ≤ j → j < tix E B n t + (3 + (tN E B n t).toNat) → (rd B n (stp B n j)).1 = 0 := fun j j0 j1 => by
            by_cases w : j < tix E B n t + 3
            · exact (hG t (by omega)).2.2.2.2.2.2.2.2 j j0 w
            · have := (slF_ok ((hA.2.2 t (by omega)).2 (j - (tix E B n t + 3)) (by omega))).1
              unfold sj at this
              rw [show tix E B n t + 3 + (j - (tix E B n t + 3)) = j from by omega] at this
              exact this
          have s := stp_le (3 + (tN E B n t).toNat) i.2 ok
          rw [tix_s, show tix E B n t + 3 + (tN E B n t).toNat = tix E B n t + (3 + (tN E B n t).toNat) from by omega]
          omega
      have posS : ∀ t k : Nat, (t : Int) < cn → (k : Int) < tN E B n t → 0 ≤ stp B n (sj E B n t k) ∧ stp B n (sj E B n t k) ≤ n := fun t k ht hk => by
        have i := posT t (by omega)
        have s := stp_le (3 + k) i.2 (fun j j0 j1 => by
          by_cases w : j < tix E B n t + 3
          · exact (hG t (by omega)).2.2.2.2.2.2.2.2 j j0 w
          · have := (slF_ok ((hA.2.2 t ht).2 (j - (tix E B n t + 3)) (by omega))).1
            unfold sj at this
            rw [show tix E B n t + 3 + (j - (tix E B n t + 3)) = j from by omega] at this
            exact this)
        unfold sj
        rw [show tix E B n t + 3 + k = tix E B n t + (3 + k) from by omega]
        omega
      rw [ff_0 u1, ff_0 u2] at d1
      refine p_checkLinks hYE hLE hc S13 F13 hA K13 L13' posS (fun lk _ => ⟨fun w => absurd w (by decide), fun _ => ?_⟩) (fun lk M16 o16 x13 x14 _ => ⟨fun _ => ?_, fun w => absurd rfl w⟩)
      · rw [ff_0 lk] at d1
        have e0 : M13 c 0 = cn := by rw [K13.1]; omega
        have e11 : M13 c 11 = 0 := by rw [F13.2.1 11 (by decide)]; exact g4
        have rJe : rJ E B n cn = tix E B n cn.toNat := rfl
        refine p_readRoots (E := E) hc S13 (by omega) cnb e0 e11 R13 p0 p1 (fun v1 v2 M19 f19 S19 K19 R19 s0 s1 _ => ⟨fun w => absurd w (by decide), fun _ => ?_⟩) (fun v1 M19 f19 y11 x13 x14 _ => ⟨fun _ => ?_, fun w => absurd rfl w⟩)
        · rw [ff_0 v1, ff_0 v2] at d1
          have vv := upf_0 v1
          have F19 := FD_R1 (by omega) F13 f19
          have K19' : KT E M19 c b0 n B cn.toNat := by
            obtain ⟨w1, w2, w3, w4⟩ := K13
            refine ⟨by rw [f19.2.1 0 (by decide)]; exact w1, by rw [f19.1 (c + 4) (by omega) (by omega) (by omega) (by omega)]; exact w2, fun u hu => ?_, by rw [f19.1 (c + 8) (by omega) (by omega) (by omega) (by omega)]; exact w4⟩
            rw [f19.1 (c + 1) (by omega) (by omega) (by omega) (by omega), f19.1 (c + 2) (by omega) (by omega) (by omega) (by omega), f19.1 (c + 3) (by omega) (by omega) (by omega) (by omega), f19.1 (c + 4) (by omega) (by omega) (by omega) (by omega), f19.1 (c + 8) (by omega) (by omega) (by omega) (by omega), f19.1 283 (by omega) (by omega) (by omega) (by omega)]
            exact w3 u hu
          have L19 : ∀ u, u < cn.toNat → KS E M19 c b0 n B u (tN E B n u).toNat := fun u hu => KS_o (L13' u hu) ⟨f19.1 (c + 9) (by omega) (by omega) (by omega) (by omega), f19.1 (c + 10) (by omega) (by omega) (by omega) (by omega), f19.1 284 (by omega) (by omega) (by omega) (by omega)⟩
          refine p_readCheck S19 s0 s1 R19 (fun ck _ => ⟨fun w => absurd w (by decide), fun _ => ?_⟩) (fun ck M22 o22 x13 x14 _ => ⟨fun _ => ?_, fun w => absurd rfl w⟩)
          · have ck' : (chkF B n (rE E B n cn)).1 = 0 := ck
            rw [ff_0 ck'] at d1
            have e16 : M19 16 = E 16 := F19.1 16 (by omega) (by omega) (by omega) (by omega)
            have hrt : ∀ r, r < (rC E B n cn).toNat → (rtF E B n cn r).1 = 0 := rtsF_ok v2
            have hPR := PR_of hYE hA K19' L19 e16 vv.2.1 vv.2.2 hrt K19
            have e190 : M19 c 0 = cn := by rw [K19'.1]; omega
            have e1911 : M19 c 11 = rC E B n cn := by rw [K19.1]; have := vv.2.1; show ((rC E B n cn).toNat : Int) = rC E B n cn; have h9 : 0 ≤ rC E B n cn := vv.2.1; omega
            have eW : wkW E B n cn = wTh (lv M19 c) (pcn M19 c) (wR (M19 (c + 12)) (M19 c 11).toNat) (M19 c 0).toNat := by
              unfold wkW
              rw [e190, e1911]
              rw [wR_c (f := M19 (c + 12)) (g := rtS E B n cn) (rC E B n cn).toNat (fun r hr => by rw [(K19.2 r hr).2]; unfold rtS; rw [show ((r : Int)).toNat = r from by omega])]
              exact (wTh_c _ fun t ht => ⟨by rw [(lvS_c hA K19' L19 e16 (t := t) (k := 0) (by omega)).1]; unfold ctS; rw [show ((t : Int)).toNat = t from by omega], fun k hk => (lvS_c hA K19' L19 e16 (t := t) (k := k) (by omega)).2 (by unfold ctS at hk; rw [show ((t : Int)).toNat = t from by omega] at hk; omega)⟩).symm
            unfold w_X0_checkWalk
            refine p_findWays hPR eW fun M25 w25 y25 z0 z1 z2 _ v3 f3 _ => ?_
            have F25 := FD_W5 (by omega) F19 w25
            have K25 : KT E M25 c b0 n B cn.toNat := by
              obtain ⟨w1, w2, w3, w4⟩ := K19'
              refine ⟨by rw [w25 c (by omega) (by omega) (by omega)]; exact w1, by rw [w25 (c + 4) (by omega) (by omega) (by omega)]; exact w2, fun u hu => ?_, by rw [w25 (c + 8) (by omega) (by omega) (by omega)]; exact w4⟩
              rw [w25 (c + 1) (by omega) (by omega) (by omega), w25 (c + 2) (by omega) (by omega) (by omega), w25 (c + 3) (by omega) (by omega) (by omega), w25 (c + 4) (by omega) (by omega) (by omega), w25 (c + 8) (by omega) (by omega) (by omega), w25 283 (by omega) (by omega) (by omega)]
              exact w3 u hu
            have m28' : ∀ i, M25 280 i = M19 280 i := fun i => by rw [w25 280 (by omega) (by omega) (by omega)]
            have S25 : Sc M25 a b0 n B := by
              obtain ⟨x1, x2, x3, x4, x5, x6, x7, x8⟩ := S19
              exact ⟨by rw [m28']; exact x1, by rw [m28']; exact x2, by rw [m28']; exact x3, x4, x5, x6, fun i x y => by rw [w25 a (by omega) (by omega) (by omega)]; exact x7 i x y, x8⟩
            rw [w25 c (by omega) (by omega) (by omega), e190] at f3
            rw [e190] at z1 z2 y25
            refine ⟨fun w => ?_, fun w => ?_⟩
            · have wl : wlF E B n cn = okF := by unfold wlF; rw [cnd_0 (by omega)]
              rw [wl] at d1
              refine fun _ => ⟨fun w' => absurd w' (by decide), fun _ => q1 (by rw [d1]; rfl) M25 F25 ⟨hA, K25, fun u hu => KS_o (L19 u hu) ⟨w25 (c + 9) (by omega) (by omega) (by omega), w25 (c + 10) (by omega) (by omega) (by omega), w25 284 (by omega) (by omega) (by omega)⟩, lk, vv.2.1, vv.2.2, hrt, ⟨by rw [w25 c (by omega) (by omega) (by omega)]; exact K19.1, fun i hi => by rw [w25 (c + 11) (by omega) (by omega) (by omega), w25 (c + 12) (by omega) (by omega) (by omega)]; exact K19.2 i hi⟩, ?_⟩ (by rw [m28']; exact R19.1) (by rw [m28']; exact R19.2.2)⟩
              rw [w, f3] at y25
              refine WY_tr y25 (by rw [w25 c (by omega) (by omega) (by omega)]) ⟨w25 _ (by omega) (by omega) (by omega), w25 _ (by omega) (by omega) (by omega)⟩ ?_ ?_
              · funext t; unfold pcn so; rw [w25 (c + 2) (by omega) (by omega) (by omega), w25 (c + 3) (by omega) (by omega) (by omega), w25 16 (by omega) (by omega) (by omega)]
              · funext t k; unfold lv; rw [w25 (c + 10) (by omega) (by omega) (by omega), w25 (c + 4) (by omega) (by omega) (by omega), w25 (c + 9) (by omega) (by omega) (by omega)]
            · obtain ⟨V, eV⟩ : ∃ V : Nat, (wkW E B n cn).1 = V := ⟨(wkW E B n cn).1.toNat, by omega⟩
              refine ⟨z0, by omega, fun v5 f5 _ => ?_⟩
              rw [eV, (K25.2.2.1 V (by omega)).2.2.2.2.1] at f5
              have wl : wlF E B n cn = (7, stp B n (tix E B n V)) := by unfold wlF; rw [cnd_1 (Or.inr (by omega)), show (wkW E B n cn).1.toNat = V from by omega]
              rw [wl] at d1
              have pp := posT V (by omega)
              refine p_cfail S25 (by unfold ri_; omega) fun M26 o26 x13 x14 _ _ => ⟨fun _ _ => ⟨fun _ => ?_, fun w' => absurd rfl w'⟩, fun w' => absurd rfl w'⟩
              have F26 := FDw_o (by omega) F25 o26
              exact q0 (by rw [d1]; show (7 : Int) ≠ 0; decide) M26 F26 (KT_PF (KT_o K25 (fun k hk => o26.1 k (by omega))) (by omega) hG (z13 M26 F26)) (by rw [x13, d1]) (by rw [x14, d1, f5]; show b0 + _ - b0 = _; omega)
          · have ck' : (chkF B n (rE E B n cn)).1 ≠ 0 := ck
            rw [ff_1 ck'] at d1
            have F22 := FDw_o (by omega) F19 o22
            exact q0 (by rw [d1]; exact ck') M22 F22 (KT_PF (KT_o K19' (fun k hk => o22.1 k (by omega))) (by omega) hG (z13 M22 F22)) (by rw [x13, d1]; rfl) (by rw [x14, d1]; rfl)
        · have F19 := FD_R1 (by omega) F13 f19
          have K19' : KT E M19 c b0 n B cn.toNat := by
            obtain ⟨w1, w2, w3, w4⟩ := K13
            refine ⟨by rw [f19.2.1 0 (by decide)]; exact w1, by rw [f19.1 (c + 4) (by omega) (by omega) (by omega) (by omega)]; exact w2, fun u hu => ?_, by rw [f19.1 (c + 8) (by omega) (by omega) (by omega) (by omega)]; exact w4⟩
            rw [f19.1 (c + 1) (by omega) (by omega) (by omega) (by omega), f19.1 (c + 2) (by omega) (by omega) (by omega) (by omega), f19.1 (c + 3) (by omega) (by omega) (by omega) (by omega), f19.1 (c + 4) (by omega) (by omega) (by omega) (by omega), f19.1 (c + 8) (by omega) (by omega) (by omega) (by omega), f19.1 283 (by omega) (by omega) (by omega) (by omega)]
            exact w3 u hu
          have d2 : dcF E B n = ff (upf B n (stp B n (rJ E B n cn)) 108) (rtsF E B n cn (rC E B n cn).toNat) := by
            rw [d1]
            by_cases w : (upf B n (stp B n (rJ E B n cn)) 108).1 = 0
            · rw [ff_0 w] at v1 ⊢; rw [ff_0 w, ff_1 v1]
            · rw [ff_1 w, ff_1 w]
          exact q0 (by rw [d2]; exact v1) M19 F19 (KT_PF K19' (by omega) hG (z13 M19 F19)) (by rw [x13, d2]) (by rw [x14, d2])
      · rw [ff_1 lk] at d1
        have F16 := FD_o (by omega) F13 o16
        exact q0 (by rw [d1]; exact lk) M16 (FDw_of F16) (KT_PF (KT_o K13 (fun k hk => o16.1 k (by omega))) (by omega) hG (z13 M16 (FDw_of F16))) (by rw [x13, d1]) (by rw [x14, d1])
    · have d2 : dcF E B n = ff (upf B n 2 400) (thsF E B n (nvl B n 0) (nvl B n 0).toNat) := by
        rw [d1]
        by_cases w : (upf B n 2 400).1 = 0
        · rw [ff_0 w] at u1 ⊢; rw [ff_0 w, ff_1 u1]
        · rw [ff_1 w, ff_1 w]
      exact q0 (by rw [d2]; exact u1) M13 (FDw_of F13) (KT_PF K13 t4 G13 (z13 M13 (FDw_of F13))) (by rw [x13, d2]) (by rw [x14, d2])
  · have d1 : dcF E B n = mkF B n := by unfold dcF; rw [ff_1 mk]
    have F10 := FD_o (by omega) F0 o10
    exact q0 (by rw [d1]; exact mk) M10 (FDw_of F10) (KT_PF (KT_o K0 (fun k hk => o10.1 k (by omega))) (by omega) (fun u hu => by omega) (z13 M10 (FDw_of F10))) (by rw [x13, d1]) (by rw [x14, d1])
