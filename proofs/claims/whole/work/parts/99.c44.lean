/-! promises: what stands between calls; one promise looked at, on both sides -/
def has8 (P : CD) (st : Int) : Prop := ∃ i, 0 ≤ i ∧ i < st ∧ P 1 i = 8
def PRd (C R : MM) (k : Int) (c : Nat) (n' st x : Int) (P : CD) (N : MM) (sf : Int → Int) : Prop := 0 < n' ∧ n' ≤ 120 ∧ st ≤ 3 * n' ∧ Sem P N 0 sf 0 0 x 0 st (120 * (k + 1)) (120 * (k + 1) + n') ∧ Us c st C ∧ C c 5 = st ∧ (∀ j i, 0 < j → j ≤ 4 → 0 ≤ i → i < st → C (c + j) i = P j i) ∧ (∀ j i, 66 ≤ j → j ≤ 70 → 120 * (k + 1) ≤ i → i < 120 * (k + 1) + n' → R j i = N j i) ∧ R 78 k = x ∧ (has8 P st → R 0 114 = 1)
def PRk (C R : MM) (k : Int) (c : Nat) : Prop := ∃ (n' st x : Int) (P : CD) (N : MM) (sf : Int → Int), PRd C R k c n' st x P N sf
def pcl (k : Int) : Nat := (236 + 8 * k).toNat
def Rpr (C R : MM) : Prop := C 0 10 = R 0 113 ∧ 0 ≤ C 0 10 ∧ C 0 10 ≤ 3 ∧ (∀ k, 0 ≤ k → k < 3 → C 235 k = (pcl k : Int)) ∧ (∀ k, 0 ≤ k → k < C 0 10 → C 260 k = R 79 k) ∧ (R 0 114 = 0 ∨ R 0 114 = 1) ∧ ∀ k, 0 ≤ k → k < C 0 10 → PRk C R k (pcl k)
theorem pcl_G {k : Int} (k0 : 0 ≤ k) (k3 : k < 3) : isG (pcl k) ∧ 236 ≤ pcl k ∧ pcl k + 7 ≤ 259 ∧ (pcl k : Int) = 236 + 8 * k := by
  unfold pcl isG
  omega
theorem PRk_fr {C C' R R' : MM} {k : Int} {c : Nat} (h : PRk C R k c) (e : ∀ q, c ≤ q → q ≤ c + 4 → C' q = C q) (n : ∀ j i, 66 ≤ j → j ≤ 70 → 120 * (k + 1) ≤ i → i < 120 * (k + 1) + 120 → R' j i = R j i) (r78 : R' 78 k = R 78 k) (r114 : R 0 114 = 1 → R' 0 114 = 1) : PRk C' R' k c := by
  obtain ⟨n', st, x, P, N, sf, h1, h2, h3, h4, h5, h6, h7, h8, h9, h10⟩ := h
  refine ⟨n', st, x, P, N, sf, h1, h2, h3, h4, ?_, by rw [e c (by omega) (by omega)]; exact h6, fun j i a b d f => by rw [e (c + j) (by omega) (by omega)]; exact h7 j i a b d f, fun j i a b d f => by rw [n j i a b d (by omega)]; exact h8 j i a b d f, by rw [r78]; exact h9, fun z => r114 (h10 z)⟩
  unfold Us at h5 ⊢
  rw [e c (by omega) (by omega), e (c + 1) (by omega) (by omega)]
  exact h5
theorem Rpr_fr {C C' R R' : MM} (h : Rpr C R) (e0 : C' 0 10 = C 0 10) (e : ∀ q, 235 ≤ q → q ≤ 260 → C' q = C q) (n : ∀ j i, 66 ≤ j → j ≤ 70 → 120 ≤ i → R' j i = R j i) (r78 : R' 78 = R 78) (r79 : R' 79 = R 79) (r113 : R' 0 113 = R 0 113) (r114 : R' 0 114 = R 0 114) : Rpr C' R' := by
  obtain ⟨h1, h2, h3, h4, h5, h6, h7⟩ := h
  unfold Rpr
  rw [e0, r113, r79, r114, e 235 (by omega) (by omega), e 260 (by omega) (by omega)]
  refine ⟨h1, h2, h3, h4, h5, h6, fun k a b => ?_⟩
  have g := pcl_G a (by omega)
  exact PRk_fr (h7 k a b) (fun q x y => e q (by omega) (by omega)) (fun j i x y z w => n j i x y (by omega)) (by rw [r78]) (fun z => by rw [r114]; exact z)
def RdyP (M R R' : MM) (pc : Nat) (S : Int → Prop) : Prop := (∀ k, 4 ≤ k → k ≤ 18 → k ≠ 6 → R' k = R k) ∧ R' 0 20 = R 0 20 ∧ Rpb M R' pc 4 ∧ (∀ t, 0 ≤ t → t < M pc 0 → R' 43 (400 * 4 + t) = M (pc + 5) t) ∧ (R 0 114 = 1 → DTf M pc (fun t => R' 46 (400 * 4 + t)) (fun t => R' 47 (400 * 4 + t)) (fun t => R' 48 (400 * 4 + t))) ∧ (∀ j i, 66 ≤ j → j ≤ 70 → S i → R' j i = R j i) ∧ R' 78 = R 78
theorem RdyP_P {M R R1 R2 : MM} {pc : Nat} {S : Int → Prop} (h : RdyP M R R1 pc S) (e : EP R1 R2) : RdyP M R R2 pc S := by
  obtain ⟨h1, h2, h3, h4, h5, h6, h7⟩ := h
  refine ⟨fun k a b d => by rw [e.1 k (by simp; omega)]; exact h1 k a b d, by rw [e.2 20 (by decide)]; exact h2, Rpb_M h3 (fun k hk => e.1 k (by intro y; simp at y hk; omega)), ?_, ?_, fun j i a b d => by rw [e.1 j (by simp; omega)]; exact h6 j i a b d, by rw [e.1 78 (by decide)]; exact h7⟩
  · rw [e.1 43 (by decide)]; exact h4
  · rw [e.1 46 (by decide), e.1 47 (by decide), e.1 48 (by decide)]; exact h5
theorem RdyP_C {M M0 R R' R0 : MM} {pc : Nat} {S : Int → Prop} (hY : Rty M R0) (hw : PW M pc) (tl : tyLe M M0) (eqs : ∀ q, pc ≤ q → q ≤ pc + 13 → M0 q = M q) (h : RdyP M R R' pc S) : RdyP M0 R R' pc S := by
  obtain ⟨r1, r2, r3, r4, r5, r6, r7⟩ := h
  have e0 : M0 pc 0 = M pc 0 := by rw [eqs pc (by omega) (by omega)]
  have e11 : M0 pc 11 = M pc 11 := by rw [eqs pc (by omega) (by omega)]
  have e : ∀ q, pc < q → q ≤ pc + 12 → M0 q = M q := fun q a b => eqs q (by omega) (by omega)
  refine ⟨r1, r2, ?_, fun t a b => ?_, fun y => (sp_eq hY hw tl e0 e11 e).1 _ _ _ (r5 y), r6, r7⟩
  · obtain ⟨hp, -, -⟩ := gr_eq hY hw tl e0 e11 e
    obtain ⟨b1, b2, b3, b4, b5⟩ := r3
    unfold Rpb
    rw [eqs pc (by omega) (by omega), eqs (pc + 1) (by omega) (by omega), eqs (pc + 2) (by omega) (by omega), eqs (pc + 3) (by omega) (by omega), eqs (pc + 4) (by omega) (by omega), eqs (pc + 9) (by omega) (by omega), eqs (pc + 11) (by omega) (by omega), eqs (pc + 12) (by omega) (by omega)]
    exact ⟨b1, b2, fun t q a b d g => b3 t q a b d (by rw [← (hp t a b).1]; exact g), b4, b5⟩
  · rw [e0] at b
    rw [r4 t a b, eqs (pc + 5) (by omega) (by omega)]
def FRn (C M : MM) (pc : Nat) : Prop := (∀ k, ¬ (pc + 18 ≤ k ∧ k ≤ pc + 32) → k < 219 ∨ 231 < k → M k = C k) ∧ M 219 20 = C 219 20
theorem FRn_t {C M N : MM} {pc : Nat} (h : FRn C M pc) (h' : FRn M N pc) : FRn C N pc := ⟨fun k a b => by rw [h'.1 k a b, h.1 k a b], by rw [h'.2, h.2]⟩
set_option maxHeartbeats 1000000 in
theorem prm_run {C R : MM} {c pc : Nat} {k B n' st x : Int} {P : CD} {N : MM} {sf : Int → Int} {S : Int → Prop} (hY : Rty C R) (hpc : isP pc) (hg : isG c) (h236 : 236 ≤ c) (hw : PW C pc) (hs : ShH C pc) (k0 : 0 ≤ k) (k3 : k < 3) (hP : PRd C R k c n' st x P N sf) (hSr : ∀ i, 120 * (k + 1) ≤ i → i < 120 * (k + 1) + n' → S i) (hX : SXq B C) (B0 : 0 ≤ B) (B1 : B + 30001 ≤ 2147483646) {F T : MM → Prop} (hq : ∀ z M', (z = 0 ∨ z = 1) → FRn C M' pc → SXq (B + 30001) M' → ShH M' pc → (∀ R', RdyP C R R' pc S → ∀ Q : Int → MM → Prop, (∀ R'', EP R' R'' → Q z R'') → w_X12_isTrueNow Q k R') → (z = 0 → F M') ∧ (z = 1 → T M')) : w_X4_run c pc (fun r17 M18 => (r17 = 0 ∨ r17 = 1) → (r17 = 0 → F M18) ∧ (¬ r17 = 0 → w_X4_saysTrue (fun r20 M21 => (r20 = 0 ∨ r20 = 1) → (r20 = 0 → F M21) ∧ (¬ r20 = 0 → T M21)) M18)) C := by
  obtain ⟨h1, h2, h3, h4, h5, h6, h7, h8, h9, h10⟩ := hP
  have hg' := hg
  have hpc' := hpc
  unfold isG at hg'
  unfold isP at hpc'
  have hc : 25 < pc := by omega
  refine run_pre hY hpc hg hw hs h5 (fun M0 fS fF hSh hd ht => ?_)
  have hY4 : Rty (rn4 C c pc) R := Rty_C hY (fun q a b => rn4_k (by omega))
  have w4 : PW (rn4 C c pc) pc := pw_fr hY hw (tyLe_of (by rw [rn4_k (by omega)]) (fun q a b => rn4_k (by omega))) (by rw [rn4_k (by omega)]) (by rw [rn4_k (by omega)]) (fun q a b => rn4_k (by omega)) (fun t a b => by rw [rn4_k (by omega)]; exact hw.2.2.2.2.2.2.2.2.2.2.2.1 t a b)
  have hY0 := SHf_Y hc fS hY4
  have w0 := PW_sh hY4 hc fS w4
  have q0 : ∀ q, ¬ (pc + 18 ≤ q ∧ q ≤ pc + 32) → q ≠ 219 → M0 q = C q := fun q a b => by rw [fS q a, rn4_k b]
  have q9 : ∀ i, M0 219 i = rn4 C c pc 219 i := fun i => by rw [fS 219 (by omega)]
  have v2 : M0 219 2 = c := by rw [q9]; exact rn4_v.2.1
  have v3 : M0 219 3 = 0 := by rw [q9]; exact rn4_v.2.2.1
  have d5 : M0 c 5 = st := by rw [q0 c (by omega) (by omega)]; exact h6
  obtain ⟨f, hf1, hf0⟩ : ∃ f : Int, (has8 P st → f = 1) ∧ (f = 1 → has8 P st) := by
    by_cases y : has8 P st
    · exact ⟨1, fun _ => rfl, fun _ => y⟩
    · exact ⟨0, fun w => absurd w y, fun w => by omega⟩
  have nDT : f = 1 → DTf M0 pc (M0 (pc + 22)) (M0 (pc + 23)) (M0 (pc + 24)) := fun w => by
    obtain ⟨i, i0, i1, e8⟩ := hf0 w
    exact ht ((h5.2.2.2 i i0 i1).2 (by rw [h7 1 i (by omega) (by omega) i0 i1]; exact e8))
  obtain ⟨R0, eR0⟩ : ∃ R0, R0 = vw (pvq R M0 pc) N (120 * (k + 1)) (120 * (k + 1) + n') f := ⟨_, rfl⟩
  have pvR := pvq_R R M0 pc
  have pvv := @pvq_v R M0 pc
  have hE : EnvQ c pc M0 R0 4 B := by
    refine ⟨hg, hpc, v2, by rw [q9]; exact rn4_v.1, by omega, ?_, w0, ?_, by omega, by omega, fun t a b => ?_, B0, B1⟩
    · rw [eR0]
      exact Rty_R hY0 (fun q a b _ => by rw [vw_k (by omega) (by omega), pvq_k (by omega)]) (by rw [vw_0 (by decide), pvq_k (by omega)])
    · rw [eR0]
      exact Rpb_M pvR (fun q hq => vw_k (by intro y; rw [y] at hq; revert hq; decide) (by simp at hq; omega))
    · rw [eR0, vw_k (by decide) (by decide)]
      exact (pvv.2.2.2.2.2.1 t).symm
  have hcA : cAg P M0 c 0 st := fun j i j0 j4 i0 i1 => by rw [q0 (c + j) (by omega) (by omega)]; exact h7 j i j0 j4 i0 i1
  have hn : nAg N R0 (120 * (k + 1)) (120 * (k + 1) + n') := by rw [eR0]; exact vw_A
  have hu : UsQ P 0 st M0 R0 pc 4 := by
    refine ⟨fun i i0 i1 e => ⟨by rw [eR0]; exact hf1 ⟨i, i0, i1, e⟩, fun t a b => ?_⟩, fun i i0 i1 e => ?_⟩
    · rw [eR0, vw_k (by decide) (by decide)]
      exact (pvv.2.2.2.2.2.2.1 t).symm
    · exact hd ((h5.2.2.2 i i0 i1).1 (Or.inl (by rw [h7 1 i (by omega) (by omega) i0 i1]; exact e)))
  obtain ⟨z, hz, pC, pR⟩ := pr_spec h4 hE d5.symm (by omega) (by omega) (by omega) hcA hn hu k0 k3
  refine pC M0 ⟨fun _ _ => rfl, fun _ _ _ _ => rfl⟩ (SXq_I hX (fun q hq => q0 q (by omega) (by omega)) v3) v3 (by rw [q9]; exact rn4_v.2.2.2) F T (fun M' hC hSI t0 t1 => ?_)
  have ne : M0 219 2 ≠ 211 := by omega
  refine hq z M' hz ⟨fun q a b => ?_, ?_⟩ (SIq_X hSI t1) ?_ (fun R' hR Q hQ => ?_)
  · rw [hC.1 q (by omega), q0 q a (by omega)]
  · rw [hC.2 20 (by decide) (by decide) (Or.inr ne), q9, rn4_i (by decide)]
  · exact ShH_e hY0 w0 (tyLe_of (by rw [hC.1 8 (by omega)]) (fun q a b => hC.1 q (by omega))) (fun q a b => hC.1 q (by omega)) hSh
  · have tl0 : tyLe C M0 := tyLe_of (by rw [q0 8 (by omega) (by omega)]) (fun q a b => q0 q (by omega) (by omega))
    obtain ⟨r1, r2, r3, r4, r5, r6, r7⟩ := RdyP_C hY hw tl0 (fun q a b => q0 q (by omega) (by omega)) hR
    refine pR R' ?_ (by rw [r7]; exact h9) Q hQ
    rw [eR0]
    refine pvq_B r1 r2 hY0 w0 r3 r4 (fun w t a b => ?_) (fun j i a b d g => ?_)
    · exact (DTf_u (r5 (h10 (hf0 w))) (nDT w) a b).2.1
    · rw [r6 j i a b (hSr i d g)]; exact h8 j i a b d g
