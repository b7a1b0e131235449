/-! reopen, on both sides -/
theorem p_recEnd {Q : Int → MM → Prop} {M : MM} {a n : Int} (a0 : 0 ≤ a) (a8 : a ≤ 8000) (hn : M 280 4 = n) (n8 : n ≤ 8000) (by_ : ∀ i, 0 ≤ i → i < n → 0 ≤ M 282 i ∧ M 282 i < 256) (k1 : n < a + 2 → Q (-1) M) (k2 : a + 2 ≤ n → n < a + 2 + lnL M a → Q (-1) M) (k3 : a + 2 ≤ n → a + 2 + lnL M a ≤ n → Q (a + 2 + lnL M a) M) : w_X0_recordEnd Q a M := by
  unfold w_X0_recordEnd
  refine ⟨by unfold ri_; omega, fun v2 e2 _ => ?_⟩
  rw [hn] at e2
  refine ⟨fun z => ⟨by unfold ri_; omega, a0, by omega, fun v5 e5 _ => ?_⟩, fun z => k1 (by omega)⟩
  have b1 := by_ a a0 (by omega)
  have b2 := by_ (a + 1) (by omega) (by omega)
  refine ⟨by unfold ri_; omega, by unfold ri_; omega, by omega, by omega, fun v8 e8 _ => ⟨by unfold ri_; omega, by unfold ri_; omega, fun v11 e11 _ => ?_⟩⟩
  rw [hn] at e11
  have el : a + 2 + v5 + 256 * v8 = a + 2 + lnL M a := by unfold lnL; omega
  rw [el]
  exact ⟨fun y => k2 (by omega) (by omega), fun y => k3 (by omega) (by omega)⟩
/-- the log's records begin at ps -/
def LG (C : MM) (ps : Nat → Int) (K : Nat) (g : Int) : Prop := ps 0 = 0 ∧ ps K = g ∧ g ≤ 8000 ∧ 10 * (K : Int) ≤ g ∧ (∀ i, 0 ≤ i → i < g → 0 ≤ C 282 i ∧ C 282 i < 256) ∧ ∀ k : Nat, k < K → 0 ≤ ps k ∧ 8 ≤ lnL C (ps k) ∧ ps (k + 1) = ps k + 2 + lnL C (ps k) ∧ ps (k + 1) ≤ g ∧ Gd C (bL C (ps k)) (lnL C (ps k))
/-- how many records a cut leaves -/
def SPj (ps : Nat → Int) (K : Nat) (n : Int) (j : Nat) : Prop := j ≤ K ∧ ps j ≤ n ∧ (j = K ∨ n < ps (j + 1))
theorem LG_mono {C : MM} {ps : Nat → Int} {K : Nat} {g : Int} (h : LG C ps K g) (i : Nat) : ∀ d, i + d ≤ K → ps i ≤ ps (i + d)
  | 0, _ => Int.le_refl _
  | d + 1, q => by
    have a := LG_mono h i d (by omega)
    have b := h.2.2.2.2.2 (i + d) (by omega)
    have c : ps (i + d + 1) = ps (i + d) + 2 + lnL C (ps (i + d)) := b.2.2.1
    rw [show i + (d + 1) = i + d + 1 from by omega]
    omega
theorem LG_0 {C : MM} {ps : Nat → Int} {K : Nat} {g : Int} (h : LG C ps K g) {i : Nat} (q : i ≤ K) : 0 ≤ ps i ∧ ps i ≤ g := by
  have a := LG_mono h 0 i (by omega)
  have b := LG_mono h i (K - i) (by omega)
  rw [Nat.zero_add, h.1] at a
  rw [show i + (K - i) = K from by omega, h.2.1] at b
  exact ⟨a, b⟩
theorem SPj_u {C : MM} {ps : Nat → Int} {K : Nat} {g n : Int} (h : LG C ps K g) {j j' : Nat} (a : SPj ps K n j) (b : SPj ps K n j') : j = j' := by
  have m : ∀ x y : Nat, x < y → SPj ps K n x → SPj ps K n y → False := fun x y hxy p q => by
    have c := LG_mono h (x + 1) (y - (x + 1)) (by have := q.1; omega)
    rw [show x + 1 + (y - (x + 1)) = y from by omega] at c
    have p3 := p.2.2
    have q1 := q.1
    have q2 := q.2.1
    omega
  rcases Nat.lt_trichotomy j j' with w | w | w
  · exact (m _ _ w a b).elim
  · exact w
  · exact (m _ _ w b a).elim
/-- what the class touches where it opens the log again -/
def FOc (C M : MM) (c : Nat) : Prop := (∀ k, ¬ (c ≤ k ∧ k ≤ c + 18) → k ≠ 280 → k ≠ 283 → k ≠ 284 → M k = C k) ∧ ∀ i, i ∉ ([4, 5, 6, 7, 8, 9, 10, 13, 14] : List Int) → M 280 i = C 280 i
theorem Rty_FO {C M R0 : MM} {c : Nat} (h : Rty C R0) (hF : FOc C M c) (mc : 46 ≤ c) : Rty M R0 := Rty_C h (fun k x y => hF.1 k (by omega) (by omega) (by omega) (by omega))
theorem Rlk_FO {C M : MM} {c : Nat} (h : Rlk C) (hF : FOc C M c) (mc : 46 ≤ c) : Rlk M := Rlk_of h (by rw [hF.1 8 (by omega) (by omega) (by omega) (by omega)]) (hF.1 14 (by omega) (by omega) (by omega) (by omega)) (hF.1 19 (by omega) (by omega) (by omega) (by omega)) (hF.1 20 (by omega) (by omega) (by omega) (by omega))
theorem tyLe_FO {C M : MM} {c : Nat} (hF : FOc C M c) (mc : 46 ≤ c) : tyLe C M := tyLe_of (by rw [hF.1 8 (by omega) (by omega) (by omega) (by omega)]) (fun k x y => hF.1 k (by omega) (by omega) (by omega) (by omega))
theorem LG_e {C M R0 R1 : MM} {ps : Nat → Int} {K : Nat} {g : Int} (hY : Rty C R0) (hY' : Rty M R1) (tl : tyLe C M) (e : M 282 = C 282) (h : LG C ps K g) : LG M ps K g := by
  obtain ⟨h1, h2, h3, h4, h5, h6⟩ := h
  refine ⟨h1, h2, h3, h4, by rw [e]; exact h5, fun k hk => ?_⟩
  obtain ⟨x1, x2, x3, x4, x5⟩ := h6 k hk
  obtain ⟨f1, f2⟩ := bL_eq (C := C) (C' := M) (a := ps k) (by rw [e]) (by rw [e]) (fun i _ _ => by rw [e])
  rw [f1, f2]
  exact ⟨x1, x2, x3, x4, (Gd_le hY hY' tl x5).1⟩
theorem bL_b {C : MM} {a g i : Int} (h : ∀ i, 0 ≤ i → i < g → 0 ≤ C 282 i ∧ C 282 i < 256) (a0 : 0 ≤ a) (ha : a + 2 + lnL C a ≤ g) (i0 : 0 ≤ i) (i1 : i < lnL C a) : C 282 (a + 2 + i) = bL C a i ∧ 0 ≤ bL C a i ∧ bL C a i < 256 := by
  have := h (a + 2 + i) (by omega) (by omega)
  unfold bL
  rw [if_pos ⟨i0, i1⟩]
  exact ⟨rfl, this.1, this.2⟩
theorem p_reopC {Q : Int → MM → Prop} {C R0 : MM} {c K : Nat} {g p : Int} {ps : Nat → Int} (hY : Rty C R0) (hL : Rlk C) (hc : isP c) (hP : PF C c) (hG : LG C ps K g) (h4 : C 280 4 = g) (hq : ∀ (j : Nat) M, SPj ps K (max 0 (min p g)) j → FOc C M c → PF M c → M 280 4 = ps j → M 280 5 = j → Q j M) : w_X0_reopenAt c Q p C := by
  have mc := isP_m hc
  have g0 : 0 ≤ g := by have := hG.2.2.2.1; omega
  have g8 := hG.2.2.1
  obtain ⟨n, en⟩ : ∃ n, max 0 (min p g) = n := ⟨_, rfl⟩
  have n0 : 0 ≤ n ∧ n ≤ g := by omega
  unfold w_X0_reopenAt
  intro v1 e1 _ M2 e2 M3 e3
  rw [h4] at e1
  rw [e1, en] at e2
  rw [en] at hq
  have fo3 : FOc C M3 c := ⟨fun k a b _ _ => by rw [e3, e2]; funext i; rw [ux_c _ _ _ _ b, ux_c _ _ _ _ b], fun i hi => by rw [e3, e2, ux_i _ _ _ (fun y => hi (by rw [y]; decide)), ux_i _ _ _ (fun y => hi (by rw [y]; decide))]⟩
  unfold w_X0_reopenAt_b26
  refine loop3 _ (fun (x3 x4 : Int) M => ∃ j : Nat, x4 = j ∧ j ≤ K ∧ x3 = ps j ∧ ps j ≤ n ∧ FOc C M c ∧ PF M c ∧ M 280 4 = n ∧ M 280 5 = j) (fun (_ x4 : Int) _ => (K - x4).toNat) ?_ _ _ _ ⟨0, rfl, by omega, hG.1.symm, by rw [hG.1]; exact n0.1, fo3, PF_e hP (fun k a b => by rw [e3, e2]; funext i; rw [ux_c _ _ _ _ (by omega), ux_c _ _ _ _ (by omega)]), by rw [e3, ux_i _ _ _ (by decide), e2, ux_s], by rw [e3, ux_s]; rfl⟩
  rintro x3 x4 M f ⟨j, rfl, jK, rfl, jn, hF, hPF, m4, m5⟩ ih
  have K8 := hG.2.2.2.1
  have pj := LG_0 hG jK
  have hGM : LG M ps K g := LG_e hY (Rty_FO hY hF mc.2.1) (tyLe_FO hF mc.2.1) (hF.1 282 (by omega) (by decide) (by decide) (by decide)) hG
  -- the end
  have fin : ∀ M', (∀ k, M' k = M k) → (j = K ∨ n < ps (j + 1)) → w_X0_reopenAt_b86 c Q (ps j) M' := fun M' hM' hj => by
    obtain rfl : M' = M := funext hM'
    unfold w_X0_reopenAt_b86
    intro N1 g1 v2 f2 _
    rw [g1, ux_i _ _ _ (by decide), m5] at f2
    rw [f2]
    exact hq j N1 ⟨jK, jn, hj⟩ ⟨fun k a b d e => by rw [g1]; funext i; rw [ux_c _ _ _ _ b, hF.1 k a b d e], fun i hi => by rw [g1, ux_i _ _ _ (fun y => hi (by rw [y]; decide)), hF.2 i hi]⟩ (PF_e hPF (fun k a b => by rw [g1]; funext i; rw [ux_c _ _ _ _ (by omega)])) (by rw [g1, ux_s]) (by rw [g1, ux_i _ _ _ (by decide), m5])
  unfold wb_X0_reopenAt_b26
  refine ⟨fun z => by omega, fun z => p_recEnd (n := n) pj.1 (by omega) m4 (by omega) (fun i a b => hGM.2.2.2.2.1 i a (by omega)) (fun y _ => ⟨fun _ => fin M (fun _ => rfl) ?_, fun y => absurd rfl y⟩) (fun y1 y2 _ => ⟨fun _ => fin M (fun _ => rfl) ?_, fun y => absurd rfl y⟩) (fun y1 y2 _ => ⟨fun y => ?_, fun _ => ⟨by unfold ri_; omega, ?_⟩⟩)⟩
  · by_cases w : j = K
    · exact Or.inl w
    · have := hGM.2.2.2.2.2 j (by omega)
      exact Or.inr (by omega)
  · by_cases w : j = K
    · exact Or.inl w
    · have := hGM.2.2.2.2.2 j (by omega)
      exact Or.inr (by omega)
  · have jk : j < K := by
      by_cases w : j = K
      · have := hG.2.1; rw [← w] at this; omega
      · omega
    have := hGM.2.2.2.2.2 j jk
    omega
  · have jk : j < K := by
      by_cases w : j = K
      · have := hG.2.1; rw [← w] at this; omega
      · omega
    obtain ⟨x1, x2, x3, x4, x5⟩ := hGM.2.2.2.2.2 j jk
    refine p_decR (B := bL M (ps j)) (Rty_FO hY hF mc.2.1) (Rlk_FO hL hF mc.2.1) hc hPF pj.1 (by omega) (by omega) (fun i i0 i1 => bL_b hGM.2.2.2.2.1 x1 (by omega) i0 i1) x5 (fun E M7 _ _ _ _ _ _ _ hM hI hw _ => ⟨fun _ v9 e9 _ => ?_, fun y => absurd y (by decide)⟩)
    rw [hI 5 (by decide), m5] at e9
    refine ⟨by unfold ri_; omega, fun M11 e11 => ⟨by unfold ri_; omega, ih _ _ _ ⟨j + 1, by omega, by omega, x3.symm, by omega, ⟨fun k a b d e => ?_, fun i hi => ?_⟩, PF_e (PF_of hw) (fun k a b => by rw [e11]; funext i; rw [ux_c _ _ _ _ (by omega)]), ?_, ?_⟩ (by omega)⟩⟩
    · rw [e11]; funext i; rw [ux_c _ _ _ _ b, hM k a b d e, hF.1 k a b d e]
    · rw [e11, ux_i _ _ _ (fun y => hi (by rw [y]; decide)), hI i (fun y => hi (by simp only [List.mem_cons, List.not_mem_nil, or_false] at y ⊢; omega)), hF.2 i hi]
    · rw [e11, ux_i _ _ _ (by decide), hI 4 (by decide), m4]
    · rw [e11, ux_s, e9]; omega
