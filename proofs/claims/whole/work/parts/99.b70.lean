/-! keep, on both sides -/
set_option maxHeartbeats 1000000 in
theorem p_encodeV {Q : Int → MM → Prop} {C R0 : MM} {c : Nat} (hY : Rty C R0) (hw : PW C c) (hc : isP c) (hq : ∀ M x, Fb C M → Bc M (eB C c ++ ck4 x) → ((eB C c).length ≤ 4000 → x = ckL (eB C c)) → (∀ t k, 0 ≤ t → t < C c 0 → 0 ≤ k → k < pcn C c t → rl_ (C (c + 9) (C (c + 4) t + k))) → Q ((eB C c ++ ck4 x).length : Int) M) : w_X0_encode c Q C := by
  have n0 := hw.1
  have n4 := hw.2.1
  have r0 := hw.2.2.2.2.2.2.2.1
  have r1 := hw.2.2.2.2.2.2.2.2.1
  have hr := hw.2.2.2.2.2.2.2.2.2.1
  have mc := isP_m hc
  have hl := eH_len C c
  have last : ∀ M x, (∀ t k, 0 ≤ t → t < C c 0 → 0 ≤ k → k < pcn C c t → rl_ (C (c + 9) (C (c + 4) t + k))) → Fb C M → Bc M (eB C c) → (eB C c).length < 800000 → ((eB C c).length ≤ 4000 → x = ckL (eB C c)) → w_X0_encode_b208 c Q x 0 M := fun M x hv hF hB hL hx => by
    unfold w_X0_encode_b208
    refine loop3 _ (fun (y k : Int) M1 => x = y ∧ 0 ≤ k ∧ k ≤ 4 ∧ Fb C M1 ∧ Bc M1 (eB C c ++ (ck4 x).take k.toNat)) (fun (_ k : Int) _ => (4 - k).toNat) ?_ _ _ _ ⟨rfl, by omega, by omega, hF, by show Bc M (eB C c ++ []); rw [List.append_nil]; exact hB⟩
    rintro _ k M1 f ⟨rfl, k0, k4, hF1, hB1⟩ ih
    unfold wb_X0_encode_b208
    refine ⟨fun z v2 e2 _ => ?_, fun z => ⟨by unfold ri_; omega, p_put hB1 ?_ ?_ ?_ fun M' hF' hB' => ⟨by unfold ri_; omega, ih _ _ _ ⟨rfl, by omega, by omega, Fb_t hF1 hF', ?_⟩ (by omega)⟩⟩⟩
    · have : (ck4 x).take k.toNat = ck4 x := by rw [show k.toNat = 4 from by omega]; rfl
      rw [this] at hB1
      rw [e2, hB1.1]; exact hq M1 x hF1 hB1 hx hv
    · rw [List.length_append, List.length_take]; have : (ck4 x).length = 4 := rfl; omega
    · rw [jand_255]; omega
    · rw [jand_255]; omega
    · have ek : k = 0 ∨ k = 1 ∨ k = 2 ∨ k = 3 := by omega
      rw [List.append_assoc] at hB'
      have : (ck4 x).take k.toNat ++ [jand (jushr x (8 * k)) 255] = (ck4 x).take (k + 1).toNat := by
        rcases ek with rfl | rfl | rfl | rfl <;> rfl
      rw [this] at hB'; exact hB'
  have roots : ∀ M, (∀ t k, 0 ≤ t → t < C c 0 → 0 ≤ k → k < pcn C c t → rl_ (C (c + 9) (C (c + 4) t + k))) → Fb C M → Bc M (eH C c ++ (eT C c (C c 0).toNat ++ nb (C c 11))) → w_X0_encode_b149 c Q 0 M := fun M hv hF hB => by
    have tl := eTl hY hw (C c 0).toNat (by omega)
    have nl := nb_len (C c 11)
    unfold w_X0_encode_b149
    refine loop2 _ (fun (r : Int) M1 => 0 ≤ r ∧ r ≤ C c 11 ∧ Fb C M1 ∧ Bc M1 (eH C c ++ (eT C c (C c 0).toNat ++ (nb (C c 11) ++ eR C c r.toNat)))) (fun (r : Int) _ => (C c 11 - r).toNat) ?_ _ _ ⟨by omega, r0, hF, by show Bc M (_ ++ (_ ++ (_ ++ []))); rw [List.append_nil]; exact hB⟩
    rintro r M1 f ⟨q0, q1, hF1, hB1⟩ ih
    have rl := eR_len C c r.toNat
    have ll : (eH C c ++ (eT C c (C c 0).toNat ++ (nb (C c 11) ++ eR C c r.toNat))).length < 800000 := by simp only [List.length_append]; omega
    unfold wb_X0_encode_b149
    intro v1 e1 _
    rw [hF1.1 c (by omega) (by omega)] at e1
    subst e1
    refine ⟨fun z v3 e3 _ => ?_, fun z => ⟨q0, by omega, fun v6 e6 g6 => ?_⟩⟩
    · have er : r = C c 11 := by omega
      rw [er] at hB1 ll
      have hB2 : Bc M1 (eB C c) := hB1
      have ll2 : (eB C c).length < 800000 := ll
      rw [hB2.1] at e3
      have m0 : 0 ≤ min v3 ((4000 : Nat) : Int) ∧ min v3 ((4000 : Nat) : Int) ≤ ((4000 : Nat) : Int) ∧ min v3 ((4000 : Nat) : Int) ≤ (eB C c).length ∧ ((eB C c).length ≤ 4000 → min v3 ((4000 : Nat) : Int) = (eB C c).length) := by omega
      refine p_checkOf (L := eB C c) (by decide) m0.1 m0.2.1 m0.2.2.1 (fun i h q => hB2.2 i h (by omega)) fun _ => last M1 _ hv hF1 hB2 ll2 fun q => ?_
      rw [m0.2.2.2 q, show (((eB C c).length : Int)).toNat = (eB C c).length from by omega, List.take_length]
    · have hr' := hr r q0 (by omega)
      rw [hF1.1 (c + 11) (by omega) (by omega)] at e6
      refine p_putNumber (ri_rl g6) hB1 (by omega) fun M2 hF2 hB2 => ⟨q0, by omega, fun v9 e9 g9 => ?_⟩
      rw [hF2.1 (c + 12) (by omega) (by omega), hF1.1 (c + 12) (by omega) (by omega)] at e9
      have b2 := nb_len v6
      refine p_putNumber (ri_rl g9) hB2 (by rw [List.length_append]; omega) fun M3 hF3 hB3 => ⟨by unfold ri_; omega, ih _ _ ⟨by omega, by omega, Fb_t hF1 (Fb_t hF2 hF3), ?_⟩ (by omega)⟩
      rw [show (r + 1).toNat = r.toNat + 1 from by omega, eR_s, show ((r.toNat : Nat) : Int) = r from by omega, ← e6, ← e9]
      simp only [List.append_assoc] at hB3 ⊢
      exact hB3
  unfold w_X0_encode
  intro M1 e1
  have hF1 : Fb C M1 := ⟨fun k a b => by rw [e1]; funext i; exact ux_c _ _ _ _ a, fun i a => by rw [e1]; exact ux_i _ _ _ a⟩
  have hB1 : Bc M1 [] := ⟨by rw [e1, ux_s]; rfl, laid_e _ _ _ _⟩
  refine p_put hB1 (by simp) (by omega) (by omega) fun M3 f3 b3 => p_put b3 (by simp) (by omega) (by omega) fun M5 f5 b5 => ?_
  intro v6 e6 g6
  rw [f5.1 c (by omega) (by omega), f3.1 c (by omega) (by omega), hF1.1 c (by omega) (by omega)] at e6
  refine p_putNumber (ri_rl g6) b5 (by simp) fun M8 f8 b8 => ?_
  unfold w_X0_encode_b28
  refine loop2 _ (fun (t : Int) M => 0 ≤ t ∧ t ≤ C c 0 ∧ Fb C M ∧ Bc M (eH C c ++ eT C c t.toNat) ∧ ∀ u k, 0 ≤ u → u < t → 0 ≤ k → k < pcn C c u → rl_ (C (c + 9) (C (c + 4) u + k))) (fun (t : Int) _ => (C c 0 - t).toNat) ?_ _ _ ⟨by omega, n0, Fb_t hF1 (Fb_t f3 (Fb_t f5 f8)), by rw [e6] at b8; show Bc M8 (eH C c ++ []); rw [List.append_nil]; exact b8, fun u k a b => by omega⟩
  rintro t M f ⟨t0, t1, hF, hB, hv⟩ ih
  have tl := eTl hY hw t.toNat (by omega)
  have tt : ((t.toNat : Nat) : Int) = t := by omega
  have ll : (eH C c ++ eT C c t.toNat).length < 60000 := by rw [List.length_append]; omega
  unfold wb_X0_encode_b28
  intro v1 ev1 _
  rw [hF.1 c (by omega) (by omega)] at ev1
  subst ev1
  refine ⟨fun z v3 e3 g3 => ?_, fun z => ⟨t0, by omega, fun v6 e6 g6 => ?_⟩⟩
  · rw [hF.1 c (by omega) (by omega)] at e3
    refine p_putNumber (ri_rl g3) hB (by omega) fun M' hF' hB' => roots M' (fun u k a b d e => hv u k a (by omega) d e) (Fb_t hF hF') ?_
    rw [e3, show t.toNat = (C c 0).toNat from by omega, List.append_assoc] at hB'
    exact hB'
  · rw [hF.1 (c + 1) (by omega) (by omega)] at e6
    have pe := pw_end hY hw t0 (t := t) (by omega)
    have pb := pw_bd hY hw t0 (t := t) (by omega)
    have l6 := nb_len v6
    refine p_putNumber (ri_rl g6) hB (by omega) fun M2 hF2 hB2 => ⟨t0, by omega, fun v9 e9 g9 => ?_⟩
    rw [hF2.1 (c + 2) (by omega) (by omega), hF.1 (c + 2) (by omega) (by omega)] at e9
    have l9 := nb_len v9
    refine p_putNumber (ri_rl g9) hB2 (by rw [List.length_append]; omega) fun M3 hF3 hB3 => ⟨t0, by omega, fun v12 e12 g12 => ?_⟩
    rw [hF3.1 (c + 3) (by omega) (by omega), hF2.1 (c + 3) (by omega) (by omega), hF.1 (c + 3) (by omega) (by omega)] at e12
    have l12 := nb_len v12
    refine p_putNumber (ri_rl g12) hB3 (by simp only [List.length_append] at ll ⊢; omega) fun M4 hF4 hB4 => ⟨t0, by omega, fun v15 e15 _ => ?_⟩
    have hF' := Fb_t hF (Fb_t hF2 (Fb_t hF3 hF4))
    rw [hF'.1 (c + 4) (by omega) (by omega)] at e15
    subst e15
    unfold w_X0_encode_b76
    refine loop3 _ (fun (a x : Int) M' => t = a ∧ C (c + 4) t ≤ x ∧ x ≤ C (c + 4) t + pcn C c t ∧ Fb C M' ∧ Bc M' ((eH C c ++ eT C c t.toNat) ++ (nb v6 ++ (nb v9 ++ (nb v12 ++ eS C c t (x - C (c + 4) t).toNat)))) ∧ ∀ k, 0 ≤ k → C (c + 4) t + k < x → rl_ (C (c + 9) (C (c + 4) t + k))) (fun (_ x : Int) _ => (C (c + 4) t + pcn C c t - x).toNat) ?_ _ _ _ ⟨rfl, by omega, by omega, hF', by rw [show (C (c + 4) t - C (c + 4) t).toNat = 0 from by omega]; show Bc M4 (_ ++ (_ ++ (_ ++ (_ ++ [])))); rw [List.append_nil]; simp only [List.append_assoc] at hB4 ⊢; exact hB4, fun k a b => by omega⟩
    rintro _ x M' g ⟨rfl, x0, x1, hFx, hBx, hvx⟩ ih2
    unfold wb_X0_encode_b76
    refine ⟨by unfold ri_; omega, by omega, by omega, fun v2 e2 _ => ?_⟩
    rw [hFx.1 (c + 4) (by omega) (by omega), pe.2.1] at e2
    refine ⟨fun y => ⟨by unfold ri_; omega, ih _ _ ⟨by omega, by omega, hFx, ?_, fun u k a b d e => by by_cases w : u = t; (rw [w] at e ⊢; exact hvx k d (by omega)); (exact hv u k a (by omega) d e)⟩ (by omega)⟩, fun y => ⟨by omega, by omega, fun v5 e5 g5 => ⟨by omega, by omega, fun v6' e6' _ => ?_⟩⟩⟩
    · rw [show (x - C (c + 4) t).toNat = (pcn C c t).toNat from by omega, e6, e9, e12] at hBx
      rw [show (t + 1).toNat = t.toNat + 1 from by omega, eT_s, tt, ← List.append_assoc]
      exact hBx
    · obtain ⟨k, ek⟩ : ∃ k : Nat, x = C (c + 4) t + k := ⟨(x - C (c + 4) t).toNat, by omega⟩
      rw [hFx.1 (c + 9) (by omega) (by omega), ek] at e5
      rw [hFx.1 (c + 10) (by omega) (by omega), ek] at e6'
      rw [show (x - C (c + 4) t).toNat = k from by omega] at hBx
      have pv := hw.2.2.2.2.2.1 t k t0 (by omega) (by omega) (by omega)
      have sl := eS_len C c t k
      have gv := nv_rl hw t0 (t := t) (k := k) (by omega) (by omega) (by omega)
      have put : ∀ s, s = nv C c t k → w_X0_encode_b123 c Q f g t x s M' := fun s es => by
        unfold w_X0_encode_b123
        rw [es]
        refine p_putNumber gv hBx (by simp only [List.length_append] at ll ⊢; omega) fun M'' hF'' hB'' => ⟨by unfold ri_; omega, ih2 _ _ _ ⟨rfl, by omega, by omega, Fb_t hFx hF'', ?_, fun k' a b => by by_cases w : k' = k; (rw [w, ← e5]; exact g5); (exact hvx k' a (by omega))⟩ (by omega)⟩
        rw [show (x + 1 - C (c + 4) t).toNat = k + 1 from by omega, eS_s]
        simp only [List.append_assoc] at hB'' ⊢
        exact hB''
      refine ⟨fun w => put _ ?_, fun w => put _ ?_⟩
      · have nk : kA C (C (c + 2) t) k ≠ 5 := fun r => by rw [e6', pv.1] at w; unfold lf at w; rw [if_pos r] at w; omega
        unfold nv; rw [if_neg nk, ← e5]
        exact zg_c g5
      · have nk : kA C (C (c + 2) t) k = 5 := by
          by_cases r : kA C (C (c + 2) t) k = 5
          · exact r
          · rw [e6', pv.1] at w; unfold lf at w; rw [if_neg r] at w; exact absurd rfl w
        unfold nv at gv ⊢; rw [if_pos nk] at gv ⊢; rw [← e5] at gv ⊢
        exact w64_of gv
/-- the log of both -/
def lnL (C : MM) (a : Int) : Int := C 282 a + 256 * C 282 (a + 1)
/-- the bytes of the record that begins at a -/
def bL (C : MM) (a i : Int) : Int := if 0 ≤ i ∧ i < lnL C a then C 282 (a + 2 + i) else 0
def Rlg (C R : MM) : Prop := C 280 4 = R 0 148 ∧ C 280 5 = R 0 149 ∧ 0 ≤ C 280 5 ∧ 10 * C 280 5 ≤ C 280 4 ∧ C 280 4 ≤ 8000 ∧ (∀ i, 0 ≤ i → i < C 280 4 → C 282 i = R 99 i % 256) ∧ (∀ i, -128 ≤ R 99 i ∧ R 99 i ≤ 127) ∧ ∃ ps : Nat → Int, ps 0 = 0 ∧ ps (C 280 5).toNat = C 280 4 ∧ ∀ k : Nat, (k : Int) < C 280 5 → R 102 k = ps k ∧ 0 ≤ ps k ∧ 8 ≤ lnL C (ps k) ∧ ps (k + 1) = ps k + 2 + lnL C (ps k) ∧ ps (k + 1) ≤ C 280 4 ∧ Gd C (bL C (ps k)) (lnL C (ps k))
theorem eA_len8 (C : MM) (c : Nat) : 8 ≤ (eA C c).length := by
  unfold eA eB eH
  have a := nb_len (C c 0)
  have b := nb_len (C c 11)
  have d : (ck4 (ckL (eH C c ++ (eT C c (C c 0).toNat ++ (nb (C c 11) ++ eR C c (C c 11).toNat))))).length = 4 := rfl
  unfold eH at d
  simp only [List.length_append, List.length_cons, List.length_nil] at d ⊢
  omega
theorem jshr8n {x : Int} (x0 : 0 ≤ x) (x1 : x ≤ 4000) : jand x 255 + 256 * jshr x 8 = x ∧ 0 ≤ jand x 255 ∧ jand x 255 < 256 ∧ 0 ≤ jshr x 8 ∧ jshr x 8 < 16 ∧ ji2b x % 256 = jand x 255 ∧ ji2b (jshr x 8) % 256 = jshr x 8 := by
  rw [jshr_8 (by unfold ri_; omega), jand_255, ji2b_mod, ji2b_mod]
  omega
