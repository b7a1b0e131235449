theorem RD_FO {C R M N : MM} {cs : Int → Nat} (hB : RB C R) (hJ : Rjn C R) (hcs : pcs C R cs) (hF : FOc C M (cs 4)) (hP : PF M (cs 4)) (hN : FOr R N) : RD M N := by
  have hY := hB.1.2.2.2.2
  have mc := isP_m (hcs.2.2.2.1 4 (by omega) (by omega))
  have h16 := hY.2.2.1
  have m12 : M 12 = C 12 := hF.1 12 (by omega) (by omega) (by omega) (by omega)
  obtain ⟨nB, nJ, tl⟩ := RB_ld (C' := M) (R' := N) hB hJ (fun k a b d => hF.1 k (by omega) (by omega) (by omega) (by omega)) (fun i a b => by
    have cl := (hY.2.2.2.1 i a b).1
    unfold Rcls at cl
    rw [m12, hN.2.2.2 i a (by omega)]
    exact ⟨cl.2.2.2.2.2.1, fun q => q⟩) (fun i _ _ => by rw [m12]) (fun k a b => hN.1 k (by simp only [List.mem_cons, List.not_mem_nil, or_false] at a ⊢; omega)) (fun i hi => hN.2.2.1 i (by simp only [List.mem_cons, List.not_mem_nil, or_false] at hi ⊢; omega))
  exact ⟨nB, nJ, ps_sp hY hcs tl hP (fun q a b d => hF.1 q (by omega) (by omega) (by omega) (by omega)) (by rw [hF.1 0 (by omega) (by omega) (by omega) (by omega)]) (fun k i q a b q0 q4 w => hN.2.1 k i q a b q0 q4 w)⟩
theorem LG_10 {C : MM} {ps : Nat → Int} {K : Nat} {g : Int} (h : LG C ps K g) : ∀ j : Nat, j ≤ K → 10 * (j : Int) ≤ ps j
  | 0, _ => by rw [h.1]; decide
  | j + 1, q => by
    have a := LG_10 h j (by omega)
    have b := h.2.2.2.2.2 j (by omega)
    omega
theorem LG_of {C R : MM} (h : Rlg C R) : ∃ (ps : Nat → Int) (K : Nat), C 280 5 = K ∧ LG C ps K (C 280 4) ∧ ∀ k : Nat, k < K → R 102 k = ps k := by
  obtain ⟨l1, l2, l3, l4, l5, l6, l7, ps, p0', p1', hps⟩ := h
  refine ⟨ps, (C 280 5).toNat, by omega, ⟨p0', p1', l5, by omega, fun i a b => ?_, fun k hk => ?_⟩, fun k hk => (hps k (by omega)).1⟩
  · rw [l6 i a b]; omega
  · exact (hps k (by omega)).2
theorem Rlg_of {C R M N R0 : MM} {ps : Nat → Int} {K j : Nat} {g : Int} (hY : Rty C R0) (hY' : Rty M R0) (tl : tyLe C M) (e : M 282 = C 282) (h : LG C ps K g) (hj : j ≤ K) (by_ : ∀ i, 0 ≤ i → i < g → C 282 i = R 99 i % 256) (b99 : ∀ i, -128 ≤ R 99 i ∧ R 99 i ≤ 127) (r102 : ∀ k : Nat, k < K → R 102 k = ps k) (e99 : N 99 = R 99) (e102 : N 102 = R 102) (m4 : M 280 4 = ps j) (m5 : M 280 5 = j) (n4 : N 0 148 = ps j) (n5 : N 0 149 = j) : Rlg M N := by
  have a := LG_e hY hY' tl e h
  have b := LG_0 h hj
  have c := LG_10 h j hj
  refine ⟨by rw [m4, n4], by rw [m5, n5], by omega, by omega, by have := h.2.2.1; omega, fun i i0 i1 => by rw [e, e99]; exact by_ i i0 (by omega), by rw [e99]; exact b99, ps, a.1, by rw [m5, m4]; rfl, fun k hk => ?_⟩
  have x := a.2.2.2.2.2 k (by omega)
  refine ⟨by rw [e102]; exact r102 k (by omega), x.1, x.2.1, x.2.2.1, ?_, x.2.2.2.2⟩
  have y := LG_mono h (k + 1) (j - (k + 1)) (by omega)
  rw [show k + 1 + (j - (k + 1)) = j from by omega] at y
  omega
theorem t_reopen {C R : MM} {p : Int} (h : RD C R) (hg : Rlg C R) : w_X11_reopen (fun r C' => w_X12_reopen (fun r' R' => r = r' ∧ R' 0 0 = 0 ∧ RD C' R' ∧ Rlg C' R' ∧ (∃ c, isP c ∧ FOc C C' c) ∧ FOr R R') p R) p C := by
  obtain ⟨hB, hJ, cs, hcs⟩ := h
  have hY := hB.1.2.2.2.2
  have hL := hB.2.1
  obtain ⟨ps, K, eK, hG, h102⟩ := LG_of hg
  have ic := hcs.2.2.2.1 4 (by omega) (by omega)
  have mc := isP_m ic
  unfold w_X11_reopen
  refine ⟨cs 4, hcs.2.1, ic, p_reopC hY hL ic hcs.2.2.1 hG rfl fun j M hS hF hP m4 m5 _ => ?_⟩
  refine p_reopR hY hL hG hg.1.symm (fun i a b => hg.2.2.2.2.2.1 i a b) h102 fun j' N hS' hN n0 n4 n5 => ?_
  have ej := SPj_u hG hS hS'
  subst ej
  exact ⟨rfl, n0, RD_FO hB hJ hcs hF hP hN, Rlg_of hY (Rty_FO hY hF mc.2.1) (tyLe_FO hF mc.2.1) (hF.1 282 (by omega) (by decide) (by decide) (by decide)) hG hS.1 (fun i a b => hg.2.2.2.2.2.1 i a b) hg.2.2.2.2.2.2.1 h102 (hN.1 99 (by decide)) (hN.1 102 (by decide)) m4 m5 n4 n5, ⟨cs 4, ic, hF⟩, hN⟩
