/-! a picture as bytes: the reference; bytes on both sides -/
theorem p_R_check {Q : Int → MM → Prop} {M : MM} {a : Nat} {n : Nat} {L : List Int} {e : Int} (hn : (n : Int) < 2147483647) (e0 : 0 ≤ e) (e1 : e ≤ n) (eL : e ≤ L.length) (hl : ∀ i : Nat, (h : i < L.length) → (i : Int) < e → M a i % 256 = L[i]) (hq : Q (ckL (L.take e.toNat)) M) : w_X12_check a n Q 0 e M := by
  unfold w_X12_check w_X12_check_b5
  refine loop4 _ (fun (x v k : Int) M1 => e = x ∧ M = M1 ∧ 0 ≤ k ∧ k ≤ e ∧ v = ckL (L.take k.toNat)) (fun (_ _ k : Int) _ => (e - k).toNat) ?_ _ _ _ _ ⟨rfl, rfl, by omega, e0, by rfl⟩
  rintro _ v k _ f ⟨rfl, rfl, k0, k1, ev⟩ ih
  unfold wb_X12_check_b5
  refine ⟨fun z => by rw [ev, show k = e from by omega]; exact hq, fun z => ⟨k0, by omega, fun v2 e2 _ => ⟨by unfold ri_; omega, ih _ _ _ _ ⟨rfl, rfl, by omega, by omega, ?_⟩ (by omega)⟩⟩⟩
  have hk : k.toNat < L.length := by omega
  have := hl k.toNat hk (by omega)
  rw [show ((k.toNat : Nat) : Int) = k from by omega] at this
  rw [show (k + 1).toNat = k.toNat + 1 from by omega, take_s L k.toNat hk, ckL_s, ev, e2, jand_255, this]
theorem jushr_0 (x : Int) : jushr x 0 % 256 = x % 256 := by
  unfold jushr
  have e := pk_ushr (Ii x) (Ii 0) 0 (by decide)
  rw [Ii_nat] at e
  show ((_ : Int32).toBitVec.toInt) % 256 = _
  rw [BitVec.toInt_eq_toNat_cond, e]
  split <;> omega
theorem ck_b {x : Int} (h : ri_ x) (k : Int) (k0 : 0 ≤ k) (k4 : k < 4) : ji2b (jshr x (8 * k)) % 256 = jand (jushr x (8 * k)) 255 := by
  have r := rd_byte h (3 - k) (by omega) (by omega)
  rw [show 24 - 8 * (3 - k) = 8 * k from by omega] at r
  exact r.symm
theorem Fr98_Y {C R M : MM} (h : Rty C R) (f : Fr98 R M) : Rty C M := Rty_R h (fun k _ _ _ => f.1 k (by omega) (by omega)) (f.2 20 (by decide))
theorem Fr98_b {C R M : MM} {c : Nat} {p : Int} (h : Rpb C R c p) (f : Fr98 R M) : Rpb C M c p := Rpb_M h (fun k hk => f.1 k (by intro y; rw [y] at hk; revert hk; decide) (by intro y; rw [y] at hk; revert hk; decide))
set_option maxHeartbeats 1000000 in
theorem p_R_putPicture {Q : Int → MM → Prop} {C R : MM} {c : Nat} {p : Int} (hY : Rty C R) (hw : PW C c) (hb : Rpb C R c p) (p0 : 0 ≤ p) (p5 : p < 5) (h1 : ∀ M, Fr98 R M → Br M (eA C c) → (eA C c).length ≤ 4000 → Q 1 M) (h0 : ∀ M, Fr98 R M → 4000 < (eA C c).length → Q 0 M) : w_X12_putPicture Q p R := by
  have n0 := hw.1
  have n4 := hw.2.1
  have r0 := hw.2.2.2.2.2.2.2.1
  have r1 := hw.2.2.2.2.2.2.2.2.1
  have hr := hw.2.2.2.2.2.2.2.2.2.1
  have hl := eH_len C c
  have la : (eA C c).length = (eB C c).length + 4 := by unfold eA; rw [List.length_append]; rfl
  have last : ∀ M, Fr98 R M → Br M (eB C c) → (eB C c).length + 4 ≤ 4000 → w_X12_putPicture_b260 Q (ckL (eB C c)) 0 M := fun M hF hB hL => by
    have gx := ckL_r (eB C c)
    unfold w_X12_putPicture_b260
    refine loop3 _ (fun (y k : Int) M1 => ckL (eB C c) = y ∧ 0 ≤ k ∧ k ≤ 4 ∧ Fr98 R M1 ∧ Br M1 (eB C c ++ (ck4 (ckL (eB C c))).take k.toNat)) (fun (_ k : Int) _ => (4 - k).toNat) ?_ _ _ _ ⟨rfl, by omega, by omega, hF, by show Br M (eB C c ++ []); rw [List.append_nil]; exact hB⟩
    rintro _ k M1 f ⟨rfl, k0, k4, hF1, hB1⟩ ih
    have lk : ((eB C c ++ (ck4 (ckL (eB C c))).take k.toNat).length : Int) = (eB C c).length + k := by
      rw [List.length_append, List.length_take]; have : (ck4 (ckL (eB C c))).length = 4 := rfl; omega
    unfold wb_X12_putPicture_b260
    refine ⟨fun z => h1 M1 hF1 ?_ (by omega), fun z v2 e2 _ => ?_⟩
    · rw [show k.toNat = 4 from by omega] at hB1; exact hB1
    · rw [hB1.1, lk] at e2
      refine ⟨by unfold ri_; omega, by omega, by omega, fun M4 e4 v5 e5 _ => ?_⟩
      rw [e4, ux_c _ _ _ _ (by decide), hB1.1, lk] at e5
      refine ⟨by unfold ri_; omega, fun M7 e7 => ⟨by unfold ri_; omega, ih _ _ _ ⟨rfl, by omega, by omega, ⟨fun j a b => ?_, fun i a => ?_⟩, ?_, ?_⟩ (by omega)⟩⟩
      · rw [e7, e4]; funext i; rw [ux_c _ _ _ _ a, ux_c _ _ _ _ b, hF1.1 j a b]
      · rw [e7, e4, ux_i _ _ _ a, ux_c _ _ _ _ (by decide), hF1.2 i a]
      · rw [e7, ux_s, e5, List.length_append, List.length_take]; have : (ck4 (ckL (eB C c))).length = 4 := rfl; omega
      · have ek : k = 0 ∨ k = 1 ∨ k = 2 ∨ k = 3 := by omega
        have tk : (ck4 (ckL (eB C c))).take (k + 1).toNat = (ck4 (ckL (eB C c))).take k.toNat ++ [jand (jushr (ckL (eB C c)) (8 * k)) 255] := by
          rcases ek with rfl | rfl | rfl | rfl <;> rfl
        rw [tk, ← List.append_assoc]
        refine laid_s (M := M1) hB1.2 (fun i hi => ?_) (fun _ => ?_)
        · rw [e7, ux_c _ _ _ _ (by decide), e4, ux_i _ _ _ (by omega)]
        · show M7 98 _ % 256 = _
          rw [lk, e7, ux_c _ _ _ _ (by decide), e4, ← e2, ux_s]
          exact ck_b gx k k0 (by omega)
  have roots : ∀ M, Fr98 R M → Br M (eH C c ++ (eT C c (C c 0).toNat ++ nb (C c 11))) → w_X12_putPicture_b181 Q p 0 M := fun M hF hB => by
    have tl := eTl hY hw (C c 0).toNat (by omega)
    have nl := nb_len (C c 11)
    unfold w_X12_putPicture_b181
    refine loop3 _ (fun (x r : Int) M1 => p = x ∧ 0 ≤ r ∧ r ≤ C c 11 ∧ Fr98 R M1 ∧ Br M1 (eH C c ++ (eT C c (C c 0).toNat ++ (nb (C c 11) ++ eR C c r.toNat)))) (fun (_ r : Int) _ => (C c 11 - r).toNat) ?_ _ _ _ ⟨rfl, by omega, r0, hF, by show Br M (_ ++ (_ ++ (_ ++ []))); rw [List.append_nil]; exact hB⟩
    rintro _ r M1 f ⟨rfl, q0, q1, hF1, hB1⟩ ih
    have hb1 := Fr98_b hb hF1
    have rl := eR_len C c r.toNat
    have ll : (eH C c ++ (eT C c (C c 0).toNat ++ (nb (C c 11) ++ eR C c r.toNat))).length < 800000 := by simp only [List.length_append]; omega
    unfold wb_X12_putPicture_b181
    refine ⟨p0, p5, fun v1 e1 _ => ?_⟩
    rw [← hb1.2.2.2.1] at e1
    subst e1
    refine ⟨fun z v3 e3 _ => ?_, fun z => ⟨by unfold ri_; omega, by unfold ri_; omega, by omega, by omega, fun v11 e11 g11 => ?_⟩⟩
    · have er : r = C c 11 := by omega
      rw [er] at hB1 ll
      have hB2 : Br M1 (eB C c) := hB1
      have ll2 : (eB C c).length < 800000 := ll
      rw [hB2.1] at e3
      refine ⟨by unfold ri_; omega, fun w v6 e6 _ => ?_, fun w => h0 M1 hF1 (by omega)⟩
      rw [hB2.1] at e6
      refine p_R_check (L := eB C c) (by decide) (by omega) (by omega) (by omega) (fun i h q => hB2.2 i h (by omega)) fun _ => ?_
      rw [e6, show (((eB C c).length : Int)).toNat = (eB C c).length from by omega, List.take_length]
      exact last M1 hF1 hB2 (by omega)
    · have hb5 := hb1.2.2.2.2 r q0 (by omega)
      rw [← hb5.1] at e11
      refine p_R_putNumber (ri_rl g11) hB1 (by omega) fun M2 hF2 hB2 => ⟨by unfold ri_; omega, by unfold ri_; omega, by omega, by omega, fun v16 e16 g16 => ?_⟩
      rw [hF2.1 57 (by decide) (by decide), ← hb5.2] at e16
      have b2 := nb_len v11
      refine p_R_putNumber (ri_rl g16) hB2 (by rw [List.length_append]; omega) fun M3 hF3 hB3 => ⟨by unfold ri_; omega, ih _ _ _ ⟨rfl, by omega, by omega, Fr98_t hF1 (Fr98_t hF2 hF3), ?_⟩ (by omega)⟩
      rw [show (r + 1).toNat = r.toNat + 1 from by omega, eR_s, show ((r.toNat : Nat) : Int) = r from by omega, ← e11, ← e16]
      simp only [List.append_assoc] at hB3 ⊢
      exact hB3
  unfold w_X12_putPicture
  intro M1 e1
  have hF1 : Fr98 R M1 := ⟨fun k a b => by rw [e1]; funext i; exact ux_c _ _ _ _ a, fun i a => by rw [e1]; exact ux_i _ _ _ a⟩
  have hB1 : Br M1 [] := ⟨by rw [e1, ux_s]; rfl, laid_e _ _ _ _⟩
  refine p_R_putNumber (by unfold rl_; omega) hB1 (by simp) fun M3 f3 b3 => p_R_putNumber (by unfold rl_; omega) b3 (by decide) fun M5 f5 b5 => ⟨p0, p5, fun v6 e6 g6 => ?_⟩
  rw [f5.1 38 (by decide) (by decide), f3.1 38 (by decide) (by decide), hF1.1 38 (by decide) (by decide), ← hb.1] at e6
  refine p_R_putNumber (ri_rl g6) b5 (by decide) fun M8 f8 b8 => ?_
  unfold w_X12_putPicture_b32
  refine loop3 _ (fun (x t : Int) M => p = x ∧ 0 ≤ t ∧ t ≤ C c 0 ∧ Fr98 R M ∧ Br M (eH C c ++ eT C c t.toNat)) (fun (_ t : Int) _ => (C c 0 - t).toNat) ?_ _ _ _ ⟨rfl, by omega, n0, Fr98_t hF1 (Fr98_t f3 (Fr98_t f5 f8)), by rw [e6] at b8; show Br M8 (eH C c ++ []); rw [List.append_nil]; exact b8⟩
  rintro _ t M f ⟨rfl, t0, t1, hF, hB⟩ ih
  have hbM := Fr98_b hb hF
  have tl := eTl hY hw t.toNat (by omega)
  have tt : ((t.toNat : Nat) : Int) = t := by omega
  have ll : (eH C c ++ eT C c t.toNat).length < 60000 := by rw [List.length_append]; omega
  unfold wb_X12_putPicture_b32
  refine ⟨p0, p5, fun v1 ev1 _ => ?_⟩
  rw [← hbM.1] at ev1
  subst ev1
  refine ⟨fun z => ⟨p0, p5, fun v3 e3 g3 => ?_⟩, fun z => p_at p0 p5 t0 (by omega) fun _ => ⟨by omega, by omega, fun v8 e8 g8 => ?_⟩⟩
  · rw [← hbM.2.2.2.1] at e3
    refine p_R_putNumber (ri_rl g3) hB (by omega) fun M' hF' hB' => roots M' (Fr98_t hF hF') ?_
    rw [e3, show t.toNat = (C c 0).toNat from by omega, List.append_assoc] at hB'
    exact hB'
  · obtain ⟨x1, x2, x3, x4⟩ := hbM.2.1 t t0 (by omega)
    rw [← x1] at e8
    have pb := pw_bd hY hw t0 (t := t) (by omega)
    have l8 := nb_len v8
    refine p_R_putNumber (ri_rl g8) hB (by omega) fun M2 hF2 hB2 => p_at p0 p5 t0 (by omega) fun _ => ⟨by omega, by omega, fun v13 e13 g13 => ?_⟩
    rw [hF2.1 40 (by decide) (by decide), ← x2] at e13
    have l13 := nb_len v13
    refine p_R_putNumber (ri_rl g13) hB2 (by rw [List.length_append]; omega) fun M3 hF3 hB3 => p_at p0 p5 t0 (by omega) fun _ => ⟨by omega, by omega, fun v18 e18 g18 => ?_⟩
    rw [hF3.1 41 (by decide) (by decide), hF2.1 41 (by decide) (by decide), ← x3] at e18
    have l18 := nb_len v18
    refine p_R_putNumber (ri_rl g18) hB3 (by simp only [List.length_append] at ll ⊢; omega) fun M4 hF4 hB4 => ?_
    have hF' := Fr98_t hF (Fr98_t hF2 (Fr98_t hF3 hF4))
    unfold w_X12_putPicture_b92
    refine loop4 _ (fun (x a k : Int) M' => p = x ∧ t = a ∧ 0 ≤ k ∧ k ≤ pcn C c t ∧ Fr98 R M' ∧ Br M' ((eH C c ++ eT C c t.toNat) ++ (nb v8 ++ (nb v13 ++ (nb v18 ++ eS C c t k.toNat))))) (fun (_ _ k : Int) _ => (pcn C c t - k).toNat) ?_ _ _ _ _ ⟨rfl, rfl, by omega, pb.1, hF', by show Br M4 (_ ++ (_ ++ (_ ++ (_ ++ [])))); rw [List.append_nil]; simp only [List.append_assoc] at hB4 ⊢; exact hB4⟩
    rintro _ _ k M' g ⟨rfl, rfl, k0, k1, hFx, hBx⟩ ih2
    have hYx := Fr98_Y hY hFx
    have hbx := Fr98_b hb hFx
    unfold wb_X12_putPicture_b92
    refine p_slotsIn hYx hw hbx p0 p5 t0 (by omega) fun _ => ⟨fun y => ⟨by unfold ri_; omega, ih _ _ _ ⟨rfl, by omega, by omega, hFx, ?_⟩ (by omega)⟩, fun y => ?_⟩
    · rw [show k.toNat = (pcn C c t).toNat from by omega, e8, e13, e18] at hBx
      rw [show (t + 1).toNat = t.toNat + 1 from by omega, eT_s, tt, ← List.append_assoc]
      exact hBx
    · have sl := eS_len C c t k.toNat
      have gv := nv_rl hw t0 (t := t) (k := k) (by omega) k0 (by omega)
      have put : ∀ s, s = nv C c t k → w_X12_putPicture_b153 Q f g p t k s M' := fun s es => by
        unfold w_X12_putPicture_b153
        rw [es]
        refine p_R_putNumber gv hBx (by simp only [List.length_append] at ll ⊢; omega) fun M'' hF'' hB'' => ⟨by unfold ri_; omega, ih2 _ _ _ _ ⟨rfl, rfl, by omega, by omega, Fr98_t hFx hF'', ?_⟩ (by omega)⟩
        rw [show (k + 1).toNat = k.toNat + 1 from by omega, eS_s, show ((k.toNat : Nat) : Int) = k from by omega]
        simp only [List.append_assoc] at hB'' ⊢
        exact hB''
      refine p_valueIn hYx hw hbx p0 p5 t0 (by omega) k0 (by omega) fun _ _ => p_linksIn hYx hw hbx p0 p5 t0 (by omega) k0 (by omega) (fun nk _ => ⟨fun w => absurd w (by decide), fun _ => put _ ?_⟩) (fun nk _ => ⟨fun _ => ⟨fun w => put _ ?_, fun w => put _ ?_⟩, fun w => absurd rfl w⟩)
      · unfold nv at gv ⊢; rw [if_pos nk] at gv ⊢
        exact w64_of gv
      · unfold nv; rw [if_neg nk]; exact zg_r.1 w
      · unfold nv; rw [if_neg nk]; exact zg_r.2 w
