/-! swap: the slots, in the reference -/
theorem tn_ne {a b v : Int} (ab : a ≠ b) : tn a b v ≠ v ↔ (v = a ∨ v = b) := by
  unfold tn
  by_cases z : v = a
  · rw [if_pos z]; exact ⟨fun _ => Or.inl z, fun _ q => ab (by rw [← z, ← q])⟩
  · rw [if_neg z]
    by_cases y : v = b
    · rw [if_pos y]; exact ⟨fun _ => Or.inr y, fun _ q => z q.symm⟩
    · rw [if_neg y]; exact ⟨fun q => absurd rfl q, fun q => q.elim (fun w => absurd w z) (fun w => absurd w y)⟩
theorem RST_o {a b e o k n : Int} {E X : MM} {m : Nat} (h : RST a b E e m X o k n) (ho : o < X 26 1) (hq : ¬ hOk X o ∨ ln X o ≤ k) : ∃ m', RST a b E e m' X (o + 1) 0 n := by
  cases m with
  | zero => exact h.elim
  | succ m =>
    rcases h with h | ⟨-, -, h⟩ | ⟨h1, h2, h3, -⟩
    · omega
    · exact ⟨m, h⟩
    · rcases hq with q | q
      · exact absurd h1 q
      · omega
theorem RST_k {a b e o k n : Int} {E X : MM} {m : Nat} (h : RST a b E e m X o k n) (ho : hOk X o) (hk : k < ln X o) : (swp X a b o k ∧ ∃ X' m', WS X X' o k (tn a b (X 30 (X 29 o + k))) ∧ FWc X X' ∧ RST a b E e m' X' o (k + 1) (n + 1)) ∨ (¬ swp X a b o k ∧ ∃ m', RST a b E e m' X o (k + 1) n) := by
  cases m with
  | zero => exact h.elim
  | succ m =>
    have h1 := ho.2.1
    rcases h with h | ⟨-, h, -⟩ | ⟨-, -, -, h⟩
    · omega
    · rcases h with h | h
      · exact absurd ho h
      · omega
    · rcases h with ⟨s, X', w1, w2, w3⟩ | ⟨s, w⟩
      · exact Or.inl ⟨s, X', m, w1, w2, w3⟩
      · exact Or.inr ⟨s, m, w⟩
theorem RST_e {a b e o k n : Int} {E X : MM} {m : Nat} (h : RST a b E e m X o k n) (ho : X 26 1 ≤ o) : X = E ∧ n = e := by
  cases m with
  | zero => exact h.elim
  | succ m =>
    rcases h with ⟨-, h1, h2⟩ | ⟨h, -⟩ | ⟨h, -⟩
    · exact ⟨h1, h2⟩
    · omega
    · have := h.2.1; omega
def SLR (a b : Int) (C E : MM) (e : Int) (R M : MM) (o k n : Int) : Prop := ∃ X m, FWc C X ∧ RB X M ∧ Rjn X M ∧ FWr R M ∧ RST a b E e m X o k n
set_option maxHeartbeats 1000000 in
theorem r_swapSlots {Q : Int → MM → Prop} {C E R : MM} {a b e : Int} {m : Nat} (hB : RB C R) (hJ : Rjn C R) (ab : a ≠ b) (hr : RST a b E e m C 0 0 0) (hq : ∀ R', RB E R' → Rjn E R' → FWr R R' → 0 ≤ e → e ≤ 50000 → w_X12_swap_b431 Q a b e 0 R') : w_X12_swap_b309 Q a b 0 0 R := by
  have hY := hB.1.2.2.2.2
  have hH := hB.2.2
  have n0 := hH.2.1
  have n4 := hH.2.2.1
  unfold w_X12_swap_b309
  refine loop5 _ (fun (x1 x2 n o : Int) M => a = x1 ∧ b = x2 ∧ 0 ≤ o ∧ o ≤ C 26 1 ∧ 0 ≤ n ∧ n ≤ 100 * o ∧ SLR a b C E e R M o 0 n) (fun _ _ _ (o : Int) _ => (C 26 1 - o).toNat) ?_ _ _ _ _ _ ⟨rfl, rfl, by omega, n0, by omega, by omega, C, m, FWc_r C, hB, hJ, FWr_r R, hr⟩
  rintro _ _ n o M f ⟨rfl, rfl, o0, o1, p0, p1, hs⟩ ih
  unfold wb_X12_swap_b309
  intro v1 e1 _
  have e26 : M 0 26 = C 26 1 := by
    obtain ⟨X, m, fw, hBX, -⟩ := hs
    rw [← hBX.2.2.1, fw.1 26 (by decide)]
  rw [e26] at e1
  refine ⟨fun z => ?_, fun z => ?_⟩
  · obtain ⟨X, m, fw, hBX, hJX, fr, hrs⟩ := hs
    obtain ⟨q1, q2⟩ := RST_e hrs (by rw [fw.1 26 (by decide)]; omega)
    rw [q2]
    exact hq M (by rw [← q1]; exact hBX) (by rw [← q1]; exact hJX) fr (by omega) (by omega)
  unfold w_X12_swap_b321
  refine loop6 _ (fun (x1 x2 n x5 k : Int) M => a = x1 ∧ b = x2 ∧ o = x5 ∧ 0 ≤ k ∧ (hOk C o → k ≤ ln C o) ∧ 0 ≤ n ∧ n ≤ 100 * o + k ∧ (¬ hOk C o → k = 0) ∧ SLR a b C E e R M o k n) (fun _ _ _ _ (k : Int) _ => (ln C o - k).toNat) ?_ _ _ _ _ _ _ ⟨rfl, rfl, rfl, by omega, fun q => (hp_at hY hH q).1, p0, by omega, fun _ => rfl, hs⟩
  have o2 : o < C 26 1 := by omega
  clear hs p0 p1 e1 e26
  rintro _ _ n _ k M f2 ⟨rfl, rfl, rfl, k0, k1, p0, p1, k2, X, m, fw, hBX, hJX, fr, hrs⟩ ih2
  have rob := hBX.2.2.2.2.2.2.2.2.2.2.2.1 o o0 (by rw [fw.1 26 (by decide)]; omega)
  have hYX := hBX.1.2.2.2.2
  have hHX := hBX.2.2
  have x26 : X 26 1 = C 26 1 := by rw [fw.1 26 (by decide)]
  have out : (¬ hOk X o ∨ ln X o ≤ k) → w_X12_swap_b422 Q f a b n o M := fun hq => by
    obtain ⟨m', w⟩ := RST_o hrs (by omega) hq
    have n1 : n ≤ 100 * (o + 1) := by
      by_cases q : hOk C o
      · have := k1 q; have := (hp_at hY hH q).2.1; omega
      · have := k2 q; omega
    unfold w_X12_swap_b422
    exact ⟨by unfold ri_; omega, ih _ _ _ _ _ ⟨rfl, rfl, by omega, by omega, p0, n1, X, m', fw, hBX, hJX, fr, w⟩ (by omega)⟩
  unfold wb_X12_swap_b321
  refine ⟨o0, by omega, fun w1 d1 _ => ⟨fun y => ?_, fun y => ⟨o0, by omega, fun v3 e3 _ => ⟨o0, by omega, fun v4 e4 _ => ?_⟩⟩⟩⟩
  · refine out (Or.inl fun q => ?_)
    rw [rob.1, if_neg q.2.2] at d1
    omega
  have ho : hOk X o := by
    refine ⟨o0, by omega, fun q => ?_⟩
    rw [rob.1, if_pos q] at d1
    omega
  obtain ⟨r1, r2, r3, r4, r5, r6, r7, r8, r9, r10⟩ := rob.2 ho.2.2
  have hat := hp_at hYX hHX ho
  have hoC := (fw_ok fw o).mp ho
  have lnX := fw_ln fw o
  rw [← r1] at e3
  rw [← r4] at e4
  rw [e3, e4]
  refine p_R_so hYX r2 (fun _ => ⟨fun w => out (Or.inr w), fun w => ⟨o0, by omega, fun v8 e8 _ => ?_⟩⟩)
  have kl : k < ln X o := by unfold ln; omega
  rw [e8]
  refine ⟨by unfold ri_; omega, by omega, by omega, fun v10 e10 _ => ?_⟩
  rw [← (r10 k k0 kl).1] at e10
  have st := RST_k hrs ho kl
  have skip : ¬ swp X a b o k → w_X12_swap_b416 Q f f2 a b n o k M := fun q => by
    rcases st with ⟨s, -⟩ | ⟨-, m', w⟩
    · exact absurd s q
    · unfold w_X12_swap_b416
      exact ⟨by unfold ri_; omega, ih2 _ _ _ _ _ _ ⟨rfl, rfl, rfl, by omega, fun _ => by omega, p0, by omega, fun q => absurd hoC q, X, m', fw, hBX, hJX, fr, w⟩ (by omega)⟩
  refine p_R_isLK hYX hHX ho k0 kl (fun k5 _ => ⟨fun q => absurd q (by decide), fun _ => ?_⟩) (fun k5 _ => ⟨fun _ => skip fun s => k5 s.1, fun q => absurd rfl q⟩)
  refine p_turned (fun _ => ⟨fun q => p_turned (fun _ => ?_), fun q => skip fun s => ?_⟩)
  · have sw : swp X a b o k := ⟨k5, by rw [← e10]; exact (tn_ne ab).mp q⟩
    rcases st with ⟨-, X', m', w1', w2', w3'⟩ | ⟨s, -⟩
    · rw [e10]
      refine w1' M hBX hJX _ (fun R' hB' hJ' fr' => ⟨by unfold ri_; omega, ?_⟩)
      unfold w_X12_swap_b416
      exact ⟨by unfold ri_; omega, ih2 _ _ _ _ _ _ ⟨rfl, rfl, rfl, by omega, fun _ => by omega, by omega, by omega, fun q => absurd hoC q, X', m', FWc_t fw w2', hB', hJ', FWr_t fr fr', w3'⟩ (by omega)⟩
    · exact absurd sw s
  · have := s.2
    rw [← e10] at this
    exact (tn_ne ab).mpr this q
