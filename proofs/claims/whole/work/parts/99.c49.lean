/-! promise, on both sides: the call -/
def rpC (c : Nat) (Q : Int → MM → Prop) (M2 : MM) : Prop := w_X6_readE c (fun r3 M4 => (r3 = 0 ∨ r3 = 1) → (r3 = 0 → Q 0 M4) ∧ (¬ r3 = 0 → (∀ v6, v6 = M4 1 9 → ri_ v6 → (v6 = 0 → Q 1 M4) ∧ (¬ v6 = 0 → w_X6_refuse c (fun r8 M9 => (r8 = 0 ∨ r8 = 1) → (r8 = 0 → Q 0 M9) ∧ (¬ r8 = 0 → Q 1 M9)) M4)))) M2
theorem c_rp {c : Nat} {Q : Int → MM → Prop} {M : MM} (h : w_X6_start c (fun _ M2 => rpC c Q M2) M) : w_X6_readPromise c Q M := h
theorem Rpr_add {C R C' R' : MM} {K s0 : Int} (h : Rpr C R) (eK : K = C 0 10) (k3 : K < 3) (c10 : C' 0 10 = K + 1) (r113 : R' 0 113 = K + 1) (e235 : C' 235 = C 235) (c260 : ∀ i, C' 260 i = if i = K then s0 else C 260 i) (r79 : ∀ i, R' 79 i = if i = K then s0 else R 79 i) (r114 : R' 0 114 = 0 ∨ R' 0 114 = 1) (r1 : R 0 114 = 1 → R' 0 114 = 1) (nw : PRk C' R' K (pcl K)) (old : ∀ q : Nat, 236 ≤ q → (q : Int) < 236 + 8 * K → C' q = C q) (n : ∀ j i, 66 ≤ j → j ≤ 70 → i < 120 * (K + 1) → R' j i = R j i) (r78 : ∀ i, i ≠ K → R' 78 i = R 78 i) : Rpr C' R' := by
  obtain ⟨h1, h2, h3, h4, h6, h7, h8⟩ := h
  refine ⟨by rw [c10, r113], by omega, by omega, fun k a d => by rw [e235]; exact h4 k a d, fun k a d => ?_, r114, fun k a d => ?_⟩
  · rw [c260, r79]
    by_cases y : k = K
    · rw [if_pos y, if_pos y]
    · rw [if_neg y, if_neg y]; exact h6 k a (by omega)
  · by_cases y : k = K
    · rw [y]; exact nw
    · obtain ⟨q1, q2, q3, q4⟩ := pcl_G a (show k < 3 by omega)
      exact PRk_fr (h8 k a (by omega)) (fun q s t => old q (by omega) (by omega)) (fun j i s t u v => n j i s t (by omega)) (r78 k y) r1
theorem PRd_mv {C C' R R' : MM} {k : Int} {c : Nat} {n' st x : Int} {P : CD} {N : MM} {sf : Int → Int} (h : PRd C R k c n' st x P N sf) (e : ∀ q, c ≤ q → q ≤ c + 4 → C' q = C q) (hn : ∀ j i, 66 ≤ j → j ≤ 70 → 120 * (k + 1) ≤ i → i < 120 * (k + 1) + n' → R' j i = N j i) (r78 : R' 78 k = x) (r114 : has8 P st → R' 0 114 = 1) : PRk C' R' k c := by
  obtain ⟨h1, h2, h3, h4, h5, h6, h7, h8, h9, h10⟩ := h
  refine ⟨n', st, x, P, N, sf, h1, h2, h3, h4, ?_, by rw [e c (by omega) (by omega)]; exact h6, fun j i a b d f => by rw [e (c + j) (by omega) (by omega)]; exact h7 j i a b d f, hn, r78, r114⟩
  unfold Us at h5 ⊢
  rw [e c (by omega) (by omega), e (c + 1) (by omega) (by omega)]
  exact h5
set_option maxHeartbeats 2000000 in
theorem t_promise {C R : MM} {B : Int} (h : RD C R) (hK : Kd R) (hP : Rpr C R) (hX : SXq B C) (B0 : 0 ≤ B) (B1 : B + 30001 ≤ 2147483646) : w_X11_promise (fun r C' => w_X12_promise (fun r' R' => r = r' ∧ R' 0 0 = 0 ∧ RD C' R' ∧ Rft C' R' ∧ Rpr C' R' ∧ SXq (B + 30001) C' ∧ FZc C C' ∧ FZr R R') R) (fun E C' => w_X12_promise (fun r' R' => (E = "java/lang/IllegalStateException" ∧ C' = C ∧ R' = ux_ R 0 0 1) ∨ (E = "java/lang/IllegalArgumentException" ∧ R' 0 0 = 2 ∧ RD C' R' ∧ Rft C' R' ∧ Rpr C' R' ∧ SXq (B + 30001) C' ∧ FZc C C' ∧ FZr R R')) R) C := by
  obtain ⟨h1, h2, h3, h4, h6, h7, h8⟩ := id hP
  obtain ⟨K, eK⟩ : ∃ K, K = C 0 10 := ⟨_, rfl⟩
  unfold w_X11_promise
  intro v1 e1 _
  refine ⟨fun z v3 e3 _ => ?_, fun z => ?_⟩
  rotate_left
  · unfold w_X12_promise w_X12_promise_b14
    intro v1' e1' _
    refine ⟨fun y => by omega, fun _ M1 em v2 e2 _ => ⟨fun y => by rw [e2, em, ux_s] at y; omega, fun _ => Or.inl ⟨rfl, rfl, em⟩⟩⟩
  have k0 : 0 ≤ K := by omega
  have k3 : K < 3 := by omega
  have ev3 : v3 = K := by omega
  subst ev3
  obtain ⟨g1, g2, g3, g4⟩ := pcl_G k0 k3
  obtain ⟨c, ec⟩ : ∃ c, c = pcl v3 := ⟨_, rfl⟩
  rw [← ec] at g1 g2 g3 g4
  refine ⟨k0, k3, c, by rw [ec]; exact h4 v3 k0 k3, g1, ?_⟩
  refine c_rp (c_start (c := c) (by omega) (okT_D h rfl rfl) (fun C0 E L hF hTK c6 c7 hSC => ?_))
  obtain ⟨R4, eR⟩ : ∃ R4, R4 = ux_ R 0 0 0 := ⟨_, rfl⟩
  obtain ⟨b, eb⟩ : ∃ b, b = 120 * (v3 + 1) := ⟨_, rfl⟩
  have r4k : ∀ k, k ≠ 0 → R4 k = R k := fun k hk => by rw [eR, ux_g _ _ _ hk]
  have r4i : ∀ i, i ≠ 0 → R4 0 i = R 0 i := fun i a => by rw [eR, ux_i _ _ _ a]
  have hTX : TX C0 R4 E L := TX_of h hK hTK (by rw [hF.2.1 1 (by decide)]) (hF.1 2 (by omega) (by omega) (by omega) (by omega) (by omega)) (hF.1 7 (by omega) (by omega) (by omega) (by omega) (by omega)) (r4k 1 (by decide)) (r4k 3 (by decide)) (r4i 3 (by decide))
  have ref : ∀ Q : Int → MM → Prop, (∀ M9, SR C0 R4 E b 0 0 0 0 0 (fun _ => 0) M9 → w_X12_readE (fun r10 M11 => ri_ r10 → w_X12_endText (fun _ M13 => (fun r10 M13 => ∀ v14, v14 = M13 0 81 → ri_ v14 → (v14 ≤ 0 → w_X12_promise_b66 Q r10 0 M13) ∧ (¬ v14 ≤ 0 → w_X12_promise_b66 Q r10 2 M13)) r10 M13) M11) M9) → w_X12_promise Q R := fun Q hq => by
    unfold w_X12_promise w_X12_promise_b14
    intro w1 d1 _
    refine ⟨fun _ M1 em v2 e2 _ => ⟨fun _ v4 e4 _ => ?_, fun y => absurd (by rw [e2, em, ux_s]; decide) y⟩, fun y => by omega⟩
    rw [em, ux_i _ _ _ (by decide), ← h1, ← eK] at e4
    rw [← eR] at em
    subst em
    refine ⟨by unfold ri_; omega, by unfold ri_; omega, ?_⟩
    rw [e4, ← eb]
    exact r_begin hTX (Fpr_rf b _) (fun R' hR' M7 e7 => hq M7 (hR' _ M7 e7))
  -- the frames
  have fr : ∀ C1, Fpc c C0 C1 → (∀ k, k ∉ [1, 4, 5, 6] → (k < c ∨ c + 7 < k) → C1 k = C k) ∧ (∀ i, i ∉ ([4, 8, 9, 10, 11] : List Int) → C1 1 i = C 1 i) := fun C1 hPc => by
    obtain ⟨a, b', d⟩ := rd_fr hF hPc (fun _ _ => rfl)
    refine ⟨fun k hk hr => ?_, b'⟩
    by_cases y : k = 219
    · rw [y]; exact d (by omega)
    · exact a k (by simp only [List.mem_cons, List.not_mem_nil, or_false] at hk ⊢; omega) hr
  have base : ∀ C1 (a b : Int), Fpc c C0 C1 → ∀ M8, M8 = ux_ (ux_ C1 0 16 a) 0 17 b → RD M8 R ∧ M8 0 16 = a ∧ M8 0 17 = b ∧ (∀ k, k ≠ 0 → M8 k = C1 k) ∧ (∀ k, k ∉ [0, 1, 4, 5, 6] → (k < c ∨ c + 7 < k) → M8 k = C k) ∧ (∀ i, i ≠ 16 → i ≠ 17 → M8 0 i = C 0 i) ∧ (∀ i, i ∉ ([4, 8, 9, 10, 11] : List Int) → M8 1 i = C 1 i) := fun C1 a b hPc M8 e8 => by
    obtain ⟨f1, f2⟩ := fr C1 hPc
    have g : ∀ k, k ≠ 0 → M8 k = C1 k := fun k hk => by rw [e8, ux_g _ _ _ hk, ux_g _ _ _ hk]
    have gi : ∀ i, i ≠ 16 → i ≠ 17 → M8 0 i = C 0 i := fun i x y => by rw [e8, ux_i _ _ _ y, ux_i _ _ _ x, f1 0 (by decide) (by omega)]
    refine ⟨RD_rd h (fun k x y => by rw [g k (by omega)]; exact f1 k (by simp; omega) (by omega)) (by rw [g 2 (by decide)]; exact f1 2 (by decide) (by omega)) (by rw [g 3 (by decide)]; exact f1 3 (by decide) (by omega)) (gi 5 (by decide) (by decide)) (by rw [g 1 (by decide)]; exact f2 1 (by decide)), by rw [e8, ux_i _ _ _ (by decide), ux_s], by rw [e8, ux_s], g, fun k hk hr => ?_, gi, fun i hi => by rw [g 1 (by decide)]; exact f2 i hi⟩
    simp only [List.mem_cons, List.not_mem_nil, or_false] at hk
    rw [g k (by omega)]; exact f1 k (by simp; omega) hr
  have rfr : ∀ R1 R', Fpr b R4 R1 → R' = R1 → (∀ k, k ≠ 0 → (k < 66 ∨ 71 < k) → R' k = R k) ∧ (∀ k i, 66 ≤ k → k ≤ 70 → (i < b ∨ b + 120 ≤ i) → R' k i = R k i) ∧ ∀ i, i ∉ ([0, 78, 79, 80, 83, 84, 85, 91, 92, 93, 94, 95] : List Int) → R' 0 i = R 0 i := fun R1 R' f e => by
    rw [e]
    refine ⟨fun k a d => by rw [f.1 k a d, r4k k a], fun k i a d g => by rw [f.2.1 k a d i g, r4k k (by omega)], fun i hi => ?_⟩
    have hi' := hi
    simp only [List.mem_cons, List.not_mem_nil, or_false] at hi'
    rw [f.2.2 i (by simp only [List.mem_cons, List.not_mem_nil, or_false]; omega), r4i i (by omega)]
  rcases rp_spec (c := c) (b := b) hTX (by omega) (by omega) (fun _ => 0) (fun _ => 0) (fun _ => 0) (fun _ => 0) with ⟨n', st, x, P, N, n0, n1, n2, bx, xb, hS, cC, rR⟩ | ⟨f, pl, f0, cC, rR⟩
  · have cC' : ∀ Q : Int → MM → Prop, (∀ C', Fpc c C0 C' → Us c st C' → C' c 5 = st → (∀ j i, 0 < j → j ≤ 4 → 0 ≤ i → i < st → C' (c + j) i = P j i) → Q 1 C') → rpC c Q C0 := fun Q hq => cC C0 (hSC _ _ _) Q hq
    refine cC' _ (fun C1 f1 u1 s1 q1 _ v7 e7 _ v8 e8 _ => ?_)
    have z7 : v7 = 0 := by rw [e7]; exact u1.2.2.1
    unfold w_X11_tellFault w_X11_tellFault_b15
    intro M9 e9
    refine ⟨fun z => absurd z7 z, fun _ M10 e10 => ⟨fun _ => ?_, fun z => absurd z (by decide)⟩⟩
    rw [e9, z7] at e10
    obtain ⟨hD, a16, a17, gk, gC, gi, gj⟩ := base C1 0 (-1) f1 M10 e10
    obtain ⟨hB, hJ, cs, hcs⟩ := id hD
    have hY := hB.1.2.2.2.2
    have hH := hB.2.2
    obtain ⟨w1, w2, w3, w4, w5⟩ := id hcs
    have ip := w4 4 (by omega) (by omega)
    have ip' := ip
    unfold isP at ip'
    obtain ⟨pc, ep⟩ : ∃ pc, pc = cs 4 := ⟨_, rfl⟩
    rw [← ep] at w2 w3 ip ip'
    refine ⟨pc, w2, ip, ?_⟩
    refine p_take4 ip hY hH w3 (fun Mt t1 t2 t6 t3 => ?_)
    intro v15 e15 _
    rw [t1 0 (by omega), gi 10 (by decide) (by decide), ← eK] at e15
    subst e15
    refine ⟨pc, by rw [t1 0 (by omega)]; exact w2, ip, ?_⟩
    obtain ⟨g, hg01, hg⟩ : ∃ g : Int, (g = 0 ∨ g = 1) ∧ (g = 1 ↔ (R 0 114 = 1 ∨ has20 N b n')) := by
      by_cases y : R 0 114 = 1 ∨ has20 N b n'
      · exact ⟨1, Or.inr rfl, fun _ => y, fun _ => rfl⟩
      · exact ⟨0, Or.inl rfl, fun w => by omega, fun w => absurd w y⟩
    obtain ⟨Rv, eRv⟩ : ∃ Rv, Rv = prv R N b n' v15 x g := ⟨_, rfl⟩
    have mtk : ∀ k, c ≤ k → k ≤ c + 7 → Mt k = C1 k := fun k a d => by rw [t1 k (by omega), gk k (by omega)]
    have hUt : Us c st Mt := by
      unfold Us at u1 ⊢
      rw [mtk c (by omega) (by omega), mtk (c + 1) (by omega) (by omega)]; exact u1
    have kpt : has8 P st → g = 1 := fun y => by
      obtain ⟨i, i0, i1, i2⟩ := y
      obtain ⟨j, j0, j1, j2⟩ := hS.2.2.2.2.1 i i0 i1 i2
      exact hg.mpr (Or.inr ⟨j, j0, j1, j2⟩)
    have hPd : PRd Mt Rv v15 c n' st x P N (fun _ => 0) := by
      refine ⟨n0, n1, n2, by rw [← eb]; exact hS, hUt, by rw [mtk c (by omega) (by omega)]; exact s1, fun j i a d e f => by rw [mtk (c + j) (by omega) (by omega)]; exact q1 j i a d e f, fun j i a d e f => ?_, by rw [eRv]; exact prv_8, fun y => by rw [eRv, prv_4]; exact kpt y⟩
      rw [eRv]; exact prv_n a d (by omega) (by omega)
    have hYt : Rty Mt Rv := Rty_C (Rty_R hY (fun k a d _ => by rw [eRv]; exact prv_k (by omega) (by omega) (by omega)) (by rw [eRv]; exact prv_i (by decide))) (fun k a d => t1 k (by omega))
    have sxt : SXq B Mt := SXq_e hX (fun k hk => by rw [t1 k (by omega)]; exact gC k (by simp; omega) (by omega))
    refine prm_run (S := fun i => b ≤ i ∧ i < b + n') hYt ip g1 g2 t2 t6 k0 k3 hPd (fun i a d => ⟨by omega, by omega⟩) sxt B0 B1 (fun z M' hz fR' sx' sh' hZ => ?_)
    -- the ends of both
    have fin : ∀ s0 : Int, (s0 = if z = 1 then -2 else -1) → w_X11_promise_b105 (fun r C' => w_X12_promise (fun r' R' => r = r' ∧ R' 0 0 = 0 ∧ RD C' R' ∧ Rft C' R' ∧ Rpr C' R' ∧ SXq (B + 30001) C' ∧ FZc C C' ∧ FZr R R') R) (fun E C' => w_X12_promise (fun r' R' => (E = "java/lang/IllegalStateException" ∧ C' = C ∧ R' = ux_ R 0 0 1) ∨ (E = "java/lang/IllegalArgumentException" ∧ R' 0 0 = 2 ∧ RD C' R' ∧ Rft C' R' ∧ Rpr C' R' ∧ SXq (B + 30001) C' ∧ FZc C C' ∧ FZr R R')) R) s0 v15 M' := fun s0 es => by
      unfold w_X11_promise_b105
      refine ⟨k0, k3, fun M1 em v2 e2 _ => ⟨?_, fun M4 e4 v5 e5 _ => ⟨?_, ?_⟩⟩⟩
      · unfold ri_; rw [em, ux_c _ _ _ _ (by decide), fR'.1 0 (by omega) (by omega), t1 0 (by omega), gi 10 (by decide) (by decide), ← eK] at e2; omega
      · unfold ri_; rw [e4, ux_s, e2, em, ux_c _ _ _ _ (by decide), fR'.1 0 (by omega) (by omega), t1 0 (by omega), gi 10 (by decide) (by decide), ← eK] at e5; omega
      rw [em, ux_c _ _ _ _ (by decide), fR'.1 0 (by omega) (by omega), t1 0 (by omega), gi 10 (by decide) (by decide), ← eK] at e2
      rw [e4, ux_s, e2] at e5
      rw [e5, show v15 + 1 - 1 = v15 from by omega]
      rw [e2] at e4
      -- C' = M4
      have m4k : ∀ k, k ≠ 0 → k ≠ 260 → M4 k = M' k := fun k a d => by rw [e4, ux_g _ _ _ a, em, ux_g _ _ _ d]
      have m4i : ∀ i, i ≠ 10 → M4 0 i = M' 0 i := fun i a => by rw [e4, ux_i _ _ _ a, em, ux_c _ _ _ _ (by decide)]
      have mC : ∀ k, k ≠ 0 → ¬ (pc ≤ k ∧ k ≤ pc + 32) → k < 219 ∨ 231 < k → k ≠ 260 → M4 k = M10 k := fun k a d e f => by rw [m4k k a f, fR'.1 k (by omega) e, t1 k (by omega)]
      have mi : ∀ i, i ≠ 10 → M4 0 i = M10 0 i := fun i a => by rw [m4i i a, fR'.1 0 (by omega) (by omega), t1 0 (by omega)]
      have m260 : ∀ i, M4 260 i = if i = v15 then s0 else C 260 i := fun i => by
        rw [e4, ux_c _ _ _ _ (by decide), em]
        by_cases y : i = v15
        · rw [if_pos y, y, ux_s]
        · rw [if_neg y, ux_i _ _ _ y, fR'.1 260 (by omega) (by omega), t1 260 (by omega), gC 260 (by decide) (by omega)]
      have m10 : M4 0 10 = v15 + 1 := by rw [e4, ux_s]
      have w' : PW M' pc := pw_fr (Rty_C hY (fun k a d => t1 k (by omega))) t2 (tyLe_of (by rw [fR'.1 8 (by omega) (by omega)]) (fun k a d => fR'.1 k (by omega) (by omega))) (by rw [fR'.1 pc (by omega) (by omega)]) (by rw [fR'.1 pc (by omega) (by omega)]) (fun q a d => fR'.1 q (by omega) (by omega)) (fun t a d => by rw [fR'.1 (pc + 13) (by omega) (by omega)]; exact t2.2.2.2.2.2.2.2.2.2.2.2.1 t a d)
      have pf4 : PF M4 pc := PF_e (PF_of w') (fun k a d => m4k k (by omega) (by omega))
      have fz : FZc C M4 := by
        refine ⟨fun k hk hr => ?_, fun i hi => ?_, fun i hi => ?_, ?_⟩
        · have hk' := hk
          simp only [List.mem_cons, List.not_mem_nil, or_false] at hk'
          rw [mC k (by omega) (by omega) (by omega) (by omega)]; exact gC k (by simp; omega) (by omega)
        · have hi' := hi
          simp only [List.mem_cons, List.not_mem_nil, or_false] at hi'
          rw [mi i (by omega)]; exact gi i (by omega) (by omega)
        · rw [mC 1 (by omega) (by omega) (by omega) (by omega)]; exact gj i hi
        · rw [m4k 219 (by omega) (by omega), fR'.2, t1 219 (by omega), gC 219 (by decide) (by omega)]
      have sx4 : SXq (B + 30001) M4 := SXq_e sx' (fun k hk => m4k k (by omega) (by omega))
      -- the reference
      refine ref _ (fun M9 h9 => rR M9 h9 _ (fun R1 R' fR h83 h92 h91 hN er v14 e14 _ => ?_))
      have z14 : v14 = 0 := by rw [e14, er, ux_i _ _ _ (by decide), ux_s]
      refine ⟨fun _ => ?_, fun y => by omega⟩
      obtain ⟨x1, x2, x3⟩ := rfr R1 R1 fR rfl
      have r'k : ∀ k, k ≠ 0 → R' k = R1 k := fun k a => by rw [er, ux_g _ _ _ a, ux_g _ _ _ a]
      have r'i : ∀ i, i ≠ 81 → i ≠ 82 → R' 0 i = R1 0 i := fun i a d => by rw [er, ux_i _ _ _ d, ux_i _ _ _ a]
      unfold w_X12_promise_b66
      intro N1 f1' v2' e2' _
      refine ⟨fun _ v4' e4' _ => ?_, fun y => absurd (by rw [e2', f1', ux_s]; decide) y⟩
      have v4K : v4' = v15 := by rw [e4', f1', ux_i _ _ _ (by decide), r'i 113 (by decide) (by decide), x3 113 (by decide), ← h1, ← eK]
      rw [v4K]
      refine ⟨k0, k3, fun N5 f5 => ?_⟩
      have n5k : ∀ k, k ≠ 0 → k ≠ 78 → N5 k = R1 k := fun k a d => by rw [f5, ux_g _ _ _ d, f1', ux_g _ _ _ a, r'k k a]
      have n5i : ∀ i, i ≠ 0 → i ≠ 81 → i ≠ 82 → N5 0 i = R1 0 i := fun i a d e => by rw [f5, ux_c _ _ _ _ (by decide), f1', ux_i _ _ _ a, r'i i d e]
      have n578 : ∀ i, N5 78 i = if i = v15 then x else R 78 i := fun i => by
        rw [f5]
        by_cases y : i = v15
        · rw [if_pos y, y, ux_s]
        · rw [if_neg y, ux_i _ _ _ y, f1', ux_g _ _ _ (by decide), r'k 78 (by decide), x1 78 (by decide) (by omega)]
      have n5z : N5 0 0 = 0 ∧ N5 0 81 = 0 ∧ N5 0 82 = -1 := by
        refine ⟨?_, ?_, ?_⟩
        · rw [f5, ux_c _ _ _ _ (by decide), f1', ux_s]
        · rw [f5, ux_c _ _ _ _ (by decide), f1', ux_i _ _ _ (by decide), er, ux_i _ _ _ (by decide), ux_s]
        · rw [f5, ux_c _ _ _ _ (by decide), f1', ux_i _ _ _ (by decide), er, ux_s]
      have n5q : N5 0 114 = R 0 114 := by rw [n5i 114 (by decide) (by decide) (by decide), x3 114 (by decide)]
      refine r_kept (N := N) (b := b) (n' := n') (by omega) (by omega) (by omega) (by rw [n5i 91 (by decide) (by decide) (by decide)]; exact h91) (by rw [n5i 92 (by decide) (by decide) (by decide)]; exact h92) (by rw [n5q]; exact h7) (fun i a d => by rw [n5k 66 (by decide) (by decide)]; exact hN 66 i (by omega) (by omega) a d) (fun N6 y1 y2 y3 y4 => ?_)
      have g6 : N6 0 114 = g := by
        rw [n5q] at y4
        rcases y3 with y3 | y3
        · rcases hg01 with q | q
          · omega
          · have := y4.mpr (hg.mp q); omega
        · have := hg.mpr (y4.mp y3); omega
      have n6ty : ∀ k, k ≠ 0 → k < 66 → N6 k = R k := fun k a d => by rw [y1 k a, n5k k a (by omega), x1 k a (by omega)]
      have n6i : ∀ i, i ∉ ([0, 78, 79, 80, 81, 82, 83, 84, 85, 91, 92, 93, 94, 95, 114] : List Int) → N6 0 i = R 0 i := fun i hi => by
        simp only [List.mem_cons, List.not_mem_nil, or_false] at hi
        rw [y2 i (by omega), n5i i (by omega) (by omega) (by omega), x3 i (by simp only [List.mem_cons, List.not_mem_nil, or_false]; omega)]
      have hY6 : Rty M10 N6 := Rty_R hY (fun k a d _ => n6ty k (by omega) (by omega)) (n6i 20 (by decide))
      have hH6 : Rhp M10 N6 := Rhp_R hH (fun k hk => n6ty k (by intro y; rw [y] at hk; revert hk; decide) (by simp at hk; omega)) (fun i hi => n6i i (by simp only [List.mem_cons, List.not_mem_nil, or_false] at hi ⊢; omega))
      refine t3 N6 _ hY6 hH6 (by rw [g6]; exact hg01) (fun N7 hr7 ft7 => ?_)
      intro v5' e5' _ v6' e6' _
      have v5K : v5' = v15 := by rw [e5', ft7.2.2 113 (by decide), n6i 113 (by decide), ← h1, ← eK]
      have v6K : v6' = v15 := by rw [e6', ft7.2.2 113 (by decide), n6i 113 (by decide), ← h1, ← eK]
      rw [v5K, v6K]
      have rdy : RdyP Mt Rv N7 pc (fun i => b ≤ i ∧ i < b + n') := by
        obtain ⟨r1, r2, r3, r4, r5, r6, r7⟩ := hr7
        refine ⟨fun k a d e => by rw [r1 k a d e, n6ty k (by omega) (by omega), eRv, prv_k (by omega) (by omega) (by omega)], by rw [r2, n6i 20 (by decide), eRv, prv_i (by decide)], r3, r4, fun y => r5 (by rw [g6]; rw [eRv, prv_4] at y; exact y), fun j i a d e => ?_, ?_⟩
        · rw [r6 j i a d trivial, y1 j (by omega), n5k j (by omega) (by omega), eRv, prv_n a d e.1 e.2]; exact hN j i a d e.1 e.2
        · rw [r7, y1 78 (by decide)]
          funext i
          rw [n578 i, eRv]
          by_cases y : i = v15
          · rw [if_pos y, y, prv_8]
          · rw [if_neg y, prv_78 y]
      refine hZ N7 rdy _ (fun N8 ep8 _ => ?_)
      -- the last step
      have n8k : ∀ k, k ∉ [0, 36, 37, 60, 62, 66, 67, 68, 69, 70, 71, 72, 73, 74, 78, 79] → k < 38 ∨ 59 < k → N8 k = R k := fun k hk hr => by
        simp only [List.mem_cons, List.not_mem_nil, or_false] at hk
        rw [ep8.1 k (by simp; omega), ft7.1 k (by simp; omega) hr, y1 k (by omega), n5k k (by omega) (by omega), x1 k (by omega) (by omega)]
      have n8i : ∀ i, i ∉ ([0, 47, 73, 78, 79, 80, 81, 82, 83, 84, 85, 91, 92, 93, 94, 95, 97, 98, 99, 101, 102, 103, 113, 114] : List Int) → N8 0 i = R 0 i := fun i hi => by
        simp only [List.mem_cons, List.not_mem_nil, or_false] at hi
        rw [ep8.2 i (by simp only [List.mem_cons, List.not_mem_nil, or_false]; omega), ft7.2.2 i (by simp only [List.mem_cons, List.not_mem_nil, or_false]; omega), n6i i (by simp only [List.mem_cons, List.not_mem_nil, or_false]; omega)]
      have n8p : ∀ k i, 38 ≤ k → k ≤ 59 → ¬ rw_ k 4 i → N8 k i = R k i := fun k i a d e => by
        rw [ep8.1 k (by simp; omega), ft7.2.1 k i a d e, n6ty k (by omega) (by omega)]
      have n8e : ∀ i, i ∉ ([47, 73, 97, 98, 99, 101, 102, 103] : List Int) → N8 0 i = N6 0 i := fun i hi => by
        simp only [List.mem_cons, List.not_mem_nil, or_false] at hi
        rw [ep8.2 i (by simp only [List.mem_cons, List.not_mem_nil, or_false]; omega), ft7.2.2 i (by simp only [List.mem_cons, List.not_mem_nil, or_false]; omega)]
      have n8n : ∀ j i, 66 ≤ j → j ≤ 70 → N8 j i = R1 j i := fun j i a d => by
        rw [ep8.1 j (by simp; omega), ft7.1 j (by simp; omega) (by omega), y1 j (by omega), n5k j (by omega) (by omega)]
      have n878 : N8 78 = N5 78 := by rw [ep8.1 78 (by decide), ft7.1 78 (by decide) (by omega), y1 78 (by decide)]
      have n879 : N8 79 = R 79 := by rw [ep8.1 79 (by decide), ft7.1 79 (by decide) (by omega), y1 79 (by decide), n5k 79 (by decide) (by decide), x1 79 (by decide) (by omega)]
      have last : w_X12_promise_b165 (fun r' R' => v15 = r' ∧ R' 0 0 = 0 ∧ RD M4 R' ∧ Rft M4 R' ∧ Rpr M4 R' ∧ SXq (B + 30001) M4 ∧ FZc C M4 ∧ FZr R R') s0 v15 N8 := by
        have c113 : N8 0 113 = v15 := by rw [n8e 113 (by decide), n6i 113 (by decide), ← h1, ← eK]
        unfold w_X12_promise_b165
        refine ⟨k0, k3, fun P1 d1 w2 d2 _ => ⟨?_, fun P4 d4 w5 d5 _ => ⟨?_, ?_⟩⟩⟩
        · unfold ri_; rw [d1, ux_c _ _ _ _ (by decide), c113] at d2; omega
        · unfold ri_; rw [d4, ux_s, d2, d1, ux_c _ _ _ _ (by decide), c113] at d5; omega
        rw [d1, ux_c _ _ _ _ (by decide), c113] at d2
        rw [d4, ux_s, d2] at d5
        rw [d2] at d4
        have p4k : ∀ k, k ≠ 0 → k ≠ 79 → P4 k = N8 k := fun k a d => by rw [d4, ux_g _ _ _ a, d1, ux_g _ _ _ d]
        have p4i : ∀ i, i ≠ 113 → P4 0 i = N8 0 i := fun i a => by rw [d4, ux_i _ _ _ a, d1, ux_c _ _ _ _ (by decide)]
        have p479 : ∀ i, P4 79 i = if i = v15 then s0 else R 79 i := fun i => by
          rw [d4, ux_c _ _ _ _ (by decide), d1]
          by_cases y : i = v15
          · rw [if_pos y, y, ux_s]
          · rw [if_neg y, ux_i _ _ _ y, n879]
        refine ⟨by omega, ?_, ?_, ⟨?_, ?_⟩, ?_, sx4, fz, ⟨fun k hk hr => ?_, fun k i a d e => by rw [p4k k (by omega) (by omega)]; exact n8p k i a d e, fun i hi => ?_⟩⟩
        · rw [p4i 0 (by decide), n8e 0 (by decide), y2 0 (by decide)]; exact n5z.1
        · refine RD_t4 hB hJ hcs (fun k a d e => by rw [← ep] at e; exact mC k a e (by omega) (by omega)) (mi 5 (by decide)) (by rw [← ep]; exact pf4) (fun k hk hl => ?_) (fun i _ hi => ?_) (fun k i a d e => by rw [p4k k (by omega) (by omega)]; exact n8p k i a d e)
          · simp only [List.mem_cons, List.not_mem_nil, or_false] at hk
            rw [p4k k (by omega) (by omega)]; exact n8k k (by simp; omega) (by omega)
          · simp only [List.mem_cons, List.not_mem_nil, or_false] at hi
            rw [p4i i (by omega)]; exact n8i i (by simp only [List.mem_cons, List.not_mem_nil, or_false]; omega)
        · rw [mi 16 (by decide), a16, p4i 81 (by decide), n8e 81 (by decide), y2 81 (by decide)]; exact n5z.2.1.symm
        · rw [mi 17 (by decide), a17, p4i 82 (by decide), n8e 82 (by decide), y2 82 (by decide)]; exact n5z.2.2.symm
        · have q114 : P4 0 114 = g := by rw [p4i 114 (by decide), n8e 114 (by decide), g6]
          have nwP : PRk M4 P4 v15 c := PRd_mv hPd (fun q a d => by rw [m4k q (by omega) (by omega), fR'.1 q (by omega) (by omega)]) (fun j i a d e f => by rw [p4k j (by omega) (by omega), n8n j i a d]; exact hN j i a d (by omega) (by omega)) (by rw [p4k 78 (by decide) (by decide), n878, n578, if_pos rfl]) (fun w => by rw [q114]; exact kpt w)
          rw [ec] at nwP
          refine Rpr_add hP eK k3 m10 (by rw [d4, ux_s]) ?_ m260 p479 (by rw [q114]; exact hg01) (fun w => by rw [q114]; exact hg.mpr (Or.inl w)) nwP (fun q s t => ?_) (fun j i s t u => ?_) (fun i y => ?_)
          · rw [mC 235 (by omega) (by omega) (by omega) (by omega), gC 235 (by decide) (by omega)]
          · rw [mC q (by omega) (by omega) (by omega) (by omega), gC q (by simp; omega) (by omega)]
          · rw [p4k j (by omega) (by omega), n8n j i s t, x2 j i s t (by omega)]
          · rw [p4k 78 (by decide) (by decide), n878, n578, if_neg y]
        · simp only [List.mem_cons, List.not_mem_nil, or_false] at hk
          rw [p4k k (by omega) (by omega)]; exact n8k k (by simp; omega) hr
        · simp only [List.mem_cons, List.not_mem_nil, or_false] at hi
          rw [p4i i (by omega)]; exact n8i i (by simp only [List.mem_cons, List.not_mem_nil, or_false]; omega)
      refine ⟨fun y => ?_, fun y => ?_⟩
      · rw [if_neg (by omega)] at es
        rw [← es]; exact last
      · rw [if_pos (by omega)] at es
        rw [← es]; exact last
    refine ⟨fun y => ?_, fun y => ?_⟩
    · unfold w_X11_promise_b104
      exact fin (-1) (by rw [if_neg (by omega)])
    · exact fin (-2) (by rw [if_pos y])
  · have cC' : ∀ Q : Int → MM → Prop, (∀ C', CF c C0 f pl C' → Q 0 C') → rpC c Q C0 := fun Q hq => cC C0 (hSC _ _ _) Q hq
    refine cC' _ (fun C1 hCF _ v7 e7 _ v8 e8 _ => ?_)
    obtain ⟨f1, q6, q7⟩ := hCF
    unfold w_X11_tellFault w_X11_tellFault_b15
    intro M9 e9
    refine ⟨fun _ M10 e10 => ⟨fun z => absurd rfl z, fun _ => ?_⟩, fun z => by omega⟩
    rw [e9] at e10
    obtain ⟨hD, a16, a17, gk, gC, gi, gj⟩ := base C1 v7 v8 f1 M10 e10
    refine ref _ (fun M9 h9 => rR M9 h9 _ (fun y R1 R' fR er v14 e14 _ => ?_))
    have z14 : v14 = f := by rw [e14, er, ux_i _ _ _ (by decide), ux_s]
    refine ⟨fun y => by omega, fun _ => ?_⟩
    unfold w_X12_promise_b66
    intro N1 d1 w2 d2 _
    refine ⟨fun y => by rw [d2, d1, ux_s] at y; omega, fun _ => Or.inr ⟨rfl, by rw [d1, ux_s], ?_⟩⟩
    obtain ⟨x1, x2, x3⟩ := rfr R1 R1 fR rfl
    have nk : ∀ k, k ≠ 0 → N1 k = R1 k := fun k a => by rw [d1, ux_g _ _ _ a, er, ux_g _ _ _ a, ux_g _ _ _ a]
    have ni : ∀ i, i ≠ 0 → i ≠ 81 → i ≠ 82 → N1 0 i = R1 0 i := fun i a d e => by rw [d1, ux_i _ _ _ a, er, ux_i _ _ _ e, ux_i _ _ _ d]
    refine ⟨RD_lg hD (fun _ _ => rfl) (fun k a d => by rw [nk k a, x1 k a (by omega)]) (fun i hi => ?_), ⟨?_, ?_⟩, ?_, SXq_m (SXq_e hX (fun k hk => gC k (by simp; omega) (by omega))) (by omega), ⟨fun k hk hr => ?_, fun i hi => ?_, gj, by rw [gC 219 (by decide) (by omega)]⟩, ⟨fun k hk hr => ?_, fun k i a d e => by rw [nk k (by omega), x1 k (by omega) (by omega)], fun i hi => ?_⟩⟩
    · simp only [List.mem_cons, List.not_mem_nil, or_false] at hi
      rw [ni i (by omega) (by omega) (by omega), x3 i (by simp only [List.mem_cons, List.not_mem_nil, or_false]; omega)]
    · rw [a16, d1, ux_i _ _ _ (by decide), er, ux_i _ _ _ (by decide), ux_s, e7, q6]
    · rw [a17, d1, ux_i _ _ _ (by decide), er, ux_s, e8, q7]
    · refine ⟨by rw [gi 10 (by decide) (by decide), ni 113 (by decide) (by decide) (by decide), x3 113 (by decide)]; exact h1, by rw [gi 10 (by decide) (by decide)]; exact h2, by rw [gi 10 (by decide) (by decide)]; exact h3, fun k a d => by rw [gC 235 (by decide) (by omega)]; exact h4 k a d, fun k a d => ?_, by rw [ni 114 (by decide) (by decide) (by decide), x3 114 (by decide)]; exact h7, fun k a d => ?_⟩
      · rw [gi 10 (by decide) (by decide)] at d
        rw [gC 260 (by decide) (by omega), nk 79 (by decide), x1 79 (by decide) (by omega)]; exact h6 k a d
      · rw [gi 10 (by decide) (by decide)] at d
        obtain ⟨q1', q2', q3', q4'⟩ := pcl_G a (show k < 3 by omega)
        refine PRk_fr (h8 k a d) (fun q s t => gC q (by simp; omega) (by omega)) (fun j i s t u v => ?_) (by rw [nk 78 (by decide), x1 78 (by decide) (by omega)]) (fun w => by rw [ni 114 (by decide) (by decide) (by decide), x3 114 (by decide)]; exact w)
        rw [nk j (by omega), x2 j i s t (by omega)]
    · have hk' := hk
      simp only [List.mem_cons, List.not_mem_nil, or_false] at hk'
      exact gC k (by simp; omega) (by omega)
    · simp only [List.mem_cons, List.not_mem_nil, or_false] at hi
      exact gi i (by omega) (by omega)
    · simp only [List.mem_cons, List.not_mem_nil, or_false] at hk
      rw [nk k (by omega), x1 k (by omega) (by omega)]
    · simp only [List.mem_cons, List.not_mem_nil, or_false] at hi
      rw [ni i (by omega) (by omega) (by omega), x3 i (by simp only [List.mem_cons, List.not_mem_nil, or_false]; omega)]
