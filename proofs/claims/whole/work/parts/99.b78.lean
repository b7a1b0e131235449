/-! the words of a text, by the class: they are all read first, then gone through -/
theorem scw_adv {M : MM} {a e W q D : Int} (h : scw M a e W q D) : a ≤ q ∧ q ≤ e ∧ e ≤ M 1 1 ∧ (W = 0 ↔ q = M 1 1) ∧ (W ≠ 0 → a < e) := by
  obtain ⟨⟨s1, s2, s3, s4⟩, h⟩ := h
  rcases h with ⟨x1, x2, x3, x4⟩ | ⟨x1, x2, ⟨y1, y2, y3, y4⟩, x4, x5⟩ | ⟨x1, x2, ⟨y1, y2, y3, y4⟩, x4, x5⟩ | ⟨x1, x2, x3, x4⟩
  · exact ⟨s1, by omega, by omega, ⟨fun _ => x1, fun _ => x3⟩, fun z => absurd x3 z⟩
  · have ne : q ≠ e := fun w => y4 (by omega) (by rw [← w]; exact x2)
    refine ⟨s1, y1, y2, ⟨fun z => ?_, fun z => by omega⟩, fun _ => by omega⟩
    rw [z] at x4
    split at x4 <;> omega
  · have ne : q ≠ e := fun w => y4 (by omega) (by rw [← w]; exact Or.inl x2)
    refine ⟨s1, y1, y2, ⟨fun z => ?_, fun z => by omega⟩, fun _ => by omega⟩
    rcases x4 with ⟨_, z2⟩ | ⟨_, z2⟩
    · omega
    · unfold kw at z2
      rcases z2 with ⟨w, _⟩ | ⟨k, w1, w2, w3, _⟩ <;> omega
  · unfold sgn at x3
    have : W ≠ 0 ∧ q < e ∧ e ≤ M 1 1 := by
      rcases x3 with ⟨z1, _, z3, z4⟩ | ⟨_, z2, z3⟩
      · exact ⟨by omega, by omega, by omega⟩
      · unfold sg0 at z3
        refine ⟨?_, by omega, by omega⟩
        rcases z3 with ⟨w, _⟩ | ⟨j, w1, w2, w3, _⟩ <;> omega
    exact ⟨s1, by omega, this.2.2, ⟨fun z => absurd z this.1, fun z => by omega⟩, fun _ => by omega⟩
theorem scw_e {M M' : MM} {a e W q D : Int} (h : scw M a e W q D) (e1 : M' 1 1 = M 1 1) (e2 : M' 2 = M 2) (e7 : M' 7 = M 7) : scw M' a e W q D := by
  unfold scw kw at h ⊢
  rw [e1, e2, e7]
  exact h
/-- the words stand in rows 4, 5, 6; the one with number k is read from E k on -/
def TKS (M : MM) (E : Nat → Int) (L : Nat) : Prop := E 0 = 0 ∧ L ≤ 4000 ∧ M 4 L = 0 ∧ (∀ k : Nat, k < L → M 4 k ≠ 0) ∧ ∀ k : Nat, k ≤ L → 0 ≤ E k ∧ E k ≤ M 1 1 ∧ scw M (E k) (E (k + 1)) (M 4 k) (M 5 k) (M 6 k)
theorem TKS_e {M M' : MM} {E : Nat → Int} {L : Nat} (h : TKS M E L) (e1 : M' 1 1 = M 1 1) (e2 : M' 2 = M 2) (e7 : M' 7 = M 7) (e4 : M' 4 = M 4) (e5 : M' 5 = M 5) (e6 : M' 6 = M 6) : TKS M' E L := by
  obtain ⟨h1, h2, h3, h4, h5⟩ := h
  refine ⟨h1, h2, by rw [e4]; exact h3, by rw [e4]; exact h4, fun k hk => ?_⟩
  obtain ⟨a, b, c⟩ := h5 k hk
  rw [e4, e5, e6]
  exact ⟨a, by omega, scw_e c e1 e2 e7⟩
/-- the word with number k is at hand -/
def PCw (M : MM) (E : Nat → Int) (L k : Nat) : Prop := TKS M E L ∧ k ≤ L ∧ M 1 9 = M 4 k ∧ M 1 10 = M 5 k ∧ M 1 11 = M 6 k ∧ M 1 8 = if M 4 k = 0 then (k : Int) else k + 1
def Fwd (M M' : MM) : Prop := (∀ k, k ≠ 1 → M' k = M k) ∧ ∀ i, i ∉ ([8, 9, 10, 11] : List Int) → M' 1 i = M 1 i
theorem p_nextW {Q : Int → MM → Prop} {M : MM} {E : Nat → Int} {L k : Nat} (hT : TKS M E L) (hk : k ≤ L) (h8 : M 1 8 = k) (hq : ∀ M', Fwd M M' → PCw M' E L k → Q 0 M') : w_X9_nextWord Q M := by
  have L4 := hT.2.1
  unfold w_X9_nextWord
  intro v1 e1 _
  refine ⟨by omega, by omega, fun v2 e2 _ M3 e3 v4 e4 _ => ?_⟩
  rw [e3, ux_i _ _ _ (by decide)] at e4
  refine ⟨by omega, by omega, fun v5 e5 _ M6 e6 v7 e7 _ => ?_⟩
  rw [e6, e3, ux_i _ _ _ (by decide), ux_i _ _ _ (by decide)] at e7
  refine ⟨by omega, by omega, fun v8 e8 _ M9 e9 v10 e10 _ => ?_⟩
  have k1 : v1 = k := by omega
  have k4 : v4 = k := by omega
  have k7 : v7 = k := by omega
  subst k1 k4 k7
  rw [e3, ux_c _ _ _ _ (by decide)] at e5
  rw [e6, e3, ux_c _ _ _ _ (by decide), ux_c _ _ _ _ (by decide)] at e8
  have o9 : ∀ q, q ≠ 1 → M9 q = M q := fun q a => by rw [e9, e6, e3]; funext i; rw [ux_c _ _ _ _ a, ux_c _ _ _ _ a, ux_c _ _ _ _ a]
  have i9 : ∀ i, i ∉ ([9, 10, 11] : List Int) → M9 1 i = M 1 i := fun i hi => by rw [e9, e6, e3, ux_i _ _ _ (fun y => hi (by rw [y]; decide)), ux_i _ _ _ (fun y => hi (by rw [y]; decide)), ux_i _ _ _ (fun y => hi (by rw [y]; decide))]
  have w9 : M9 1 9 = M 4 k := by rw [e9, e6, e3, ux_i _ _ _ (by decide), ux_i _ _ _ (by decide), ux_s, e2]
  have w10 : M9 1 10 = M 5 k := by rw [e9, e6, ux_i _ _ _ (by decide), ux_s, e5]
  have w11 : M9 1 11 = M 6 k := by rw [e9, ux_s, e8]
  have t9 : TKS M9 E L := TKS_e hT (i9 1 (by decide)) (o9 2 (by decide)) (o9 7 (by decide)) (o9 4 (by decide)) (o9 5 (by decide)) (o9 6 (by decide))
  rw [w9] at e10
  refine ⟨fun z => ?_, fun z v12 e12 _ => ?_⟩
  · exact hq M9 ⟨o9, fun i hi => i9 i (fun y => hi (by simp only [List.mem_cons, List.not_mem_nil, or_false] at y ⊢; omega))⟩ ⟨t9, hk, by rw [w9, o9 4 (by decide)], by rw [w10, o9 5 (by decide)], by rw [w11, o9 6 (by decide)], by rw [o9 4 (by decide), if_pos (by omega), i9 8 (by decide), h8]⟩
  · rw [i9 8 (by decide), h8] at e12
    have kL : k < L := by
      by_cases w : k = L
      · rw [w] at e10; have := hT.2.2.1; omega
      · omega
    refine ⟨fun y => by omega, fun _ v14 e14 _ => ⟨by rw [i9 8 (by decide), h8] at e14; unfold ri_; omega, fun M16 e16 => ?_⟩⟩
    rw [i9 8 (by decide), h8] at e14
    have o16 : ∀ q, q ≠ 1 → M16 q = M q := fun q a => by rw [e16]; funext i; rw [ux_c _ _ _ _ a, o9 q a]
    have i16 : ∀ i, i ≠ 8 → M16 1 i = M9 1 i := fun i hi => by rw [e16, ux_i _ _ _ hi]
    refine hq M16 ⟨o16, fun i hi => ?_⟩ ⟨TKS_e hT (by rw [i16 1 (by decide), i9 1 (by decide)]) (o16 2 (by decide)) (o16 7 (by decide)) (o16 4 (by decide)) (o16 5 (by decide)) (o16 6 (by decide)), hk, by rw [i16 9 (by decide), w9, o16 4 (by decide)], by rw [i16 10 (by decide), w10, o16 5 (by decide)], by rw [i16 11 (by decide), w11, o16 6 (by decide)], by rw [o16 4 (by decide), if_neg (by omega), e16, ux_s, e14]⟩
    rw [i16 i (fun y => hi (by rw [y]; decide)), i9 i (fun y => hi (by simp only [List.mem_cons, List.not_mem_nil, or_false] at y ⊢; omega))]
/-- the next word, where one is at hand that isn't the last -/
theorem p_next {Q : Int → MM → Prop} {M : MM} {E : Nat → Int} {L k : Nat} (h : PCw M E L k) (hw : M 4 k ≠ 0) (hq : ∀ M', Fwd M M' → PCw M' E L (k + 1) → Q 0 M') : w_X9_nextWord Q M := by
  have kL : k < L := by
    by_cases w : k = L
    · rw [w] at hw; exact absurd h.1.2.2.1 hw
    · have := h.2.1; omega
  have h8 := h.2.2.2.2.2
  rw [if_neg hw] at h8
  exact p_nextW h.1 (by omega) (by rw [h8]; omega) hq
def Fsw (M M' : MM) : Prop := (∀ k, k ≠ 1 → k ≠ 4 → k ≠ 5 → k ≠ 6 → M' k = M k) ∧ ∀ i, i ∉ ([4, 8, 9, 10, 11] : List Int) → M' 1 i = M 1 i
theorem p_startWords {Q : Int → MM → Prop} {M : MM} (hT : okT M) (hq : ∀ M' E L, Fsw M M' → PCw M' E L 0 → Q 0 M') : w_X9_startWords Q M := by
  obtain ⟨t1, t2, t3⟩ := id hT
  unfold w_X9_startWords
  intro M1 e1
  unfold w_X9_startWords_b7
  refine loop2 _ (fun (x : Int) N => ∃ (k : Nat) (E : Nat → Int), x = k ∧ k ≤ 4000 ∧ Fsw M N ∧ E 0 = 0 ∧ N 1 4 = E k ∧ (k : Int) ≤ E k ∧ E k ≤ M 1 1 ∧ ∀ j : Nat, j < k → N 4 j ≠ 0 ∧ 0 ≤ E j ∧ E j ≤ M 1 1 ∧ scw M (E j) (E (j + 1)) (N 4 j) (N 5 j) (N 6 j)) (fun (x : Int) _ => (4001 - x).toNat) ?_ _ _ ⟨0, fun _ => 0, rfl, by omega, ⟨fun k a _ _ _ => by rw [e1]; funext i; rw [ux_c _ _ _ _ a], fun i hi => by rw [e1, ux_i _ _ _ (fun y => hi (by rw [y]; decide))]⟩, rfl, by rw [e1, ux_s], Int.le_refl _, t1, fun j hj => absurd hj (by omega)⟩
  rintro x N f ⟨k, E, rfl, k4, hF, E0, n4, kE, Es, hj⟩ ih
  have n1 : N 1 1 = M 1 1 := hF.2 1 (by decide)
  have n2 : N 2 = M 2 := hF.1 2 (by decide) (by decide) (by decide) (by decide)
  have n7 : N 7 = M 7 := hF.1 7 (by decide) (by decide) (by decide) (by decide)
  unfold wb_X9_startWords_b7
  rw [sc_self N]
  refine p_scanWord (M := N) ⟨by omega, by omega, fun i a b => by rw [n2]; exact t3 i a (by omega)⟩ (by omega) (by omega) fun e W q D hs v3 e3 _ => ?_
  rw [n4] at hs
  have hs' : scw M (E k) e W q D := scw_e hs n1.symm n2.symm n7.symm
  have ad := scw_adv hs'
  rw [sc_w] at e3
  refine ⟨by omega, by omega, fun M4 e4 v5 e5 _ => ?_⟩
  rw [e4, ux_c _ _ _ _ (by decide), sc_p] at e5
  refine ⟨by omega, by omega, fun M6 e6 v7 e7 _ => ?_⟩
  rw [e6, e4, ux_c _ _ _ _ (by decide), ux_c _ _ _ _ (by decide), sc_d] at e7
  refine ⟨by omega, by omega, fun M8 e8 => ⟨by unfold ri_; omega, fun v10 e10 _ => ?_⟩⟩
  rw [e8, e6, e4, ux_c _ _ _ _ (by decide), ux_c _ _ _ _ (by decide), ux_c _ _ _ _ (by decide), sc_w] at e10
  have f8 : Fsw M M8 := ⟨fun q a b d g => by rw [e8, e6, e4]; funext i; rw [ux_c _ _ _ _ g, ux_c _ _ _ _ d, ux_c _ _ _ _ b, sc_o _ _ _ _ _ a, hF.1 q a b d g], fun i hi => by
    rw [e8, e6, e4, ux_c _ _ _ _ (by decide), ux_c _ _ _ _ (by decide), ux_c _ _ _ _ (by decide)]
    simp only [List.mem_cons, List.not_mem_nil, or_false, not_or] at hi
    unfold sc
    rw [if_neg (fun y => hi.1 y.2), if_neg (fun y => hi.2.2.1 y.2), if_neg (fun y => hi.2.2.2.1 y.2), if_neg (fun y => hi.2.2.2.2 y.2)]
    exact hF.2 i (by simp only [List.mem_cons, List.not_mem_nil, or_false, not_or]; exact hi)⟩
  have r4 : ∀ j : Int, M8 4 j = if j = k then W else N 4 j := fun j => by
    rw [e8, e6, ux_c _ _ _ _ (by decide), ux_c _ _ _ _ (by decide), e4]
    by_cases w : j = k
    · rw [w, ux_s, if_pos rfl, e3]
    · rw [ux_i _ _ _ w, if_neg w, sc_o _ _ _ _ _ (by decide)]
  have r5 : ∀ j : Int, M8 5 j = if j = k then q else N 5 j := fun j => by
    rw [e8, ux_c _ _ _ _ (by decide), e6]
    by_cases w : j = k
    · rw [w, ux_s, if_pos rfl, e5]
    · rw [ux_i _ _ _ w, if_neg w, e4, ux_c _ _ _ _ (by decide), sc_o _ _ _ _ _ (by decide)]
  have r6 : ∀ j : Int, M8 6 j = if j = k then D else N 6 j := fun j => by
    rw [e8]
    by_cases w : j = k
    · rw [w, ux_s, if_pos rfl, e7]
    · rw [ux_i _ _ _ w, if_neg w, e6, e4, ux_c _ _ _ _ (by decide), ux_c _ _ _ _ (by decide), sc_o _ _ _ _ _ (by decide)]
  have r14 : M8 1 4 = e := by rw [e8, e6, e4, ux_c _ _ _ _ (by decide), ux_c _ _ _ _ (by decide), ux_c _ _ _ _ (by decide), sc_at]
  obtain ⟨G, g1, g2⟩ : ∃ G : Nat → Int, G (k + 1) = e ∧ ∀ j, j ≠ k + 1 → G j = E j := ⟨fun j => if j = k + 1 then e else E j, if_pos rfl, fun j h => if_neg h⟩
  have all : ∀ j : Nat, j ≤ k → 0 ≤ G j ∧ G j ≤ M 1 1 ∧ scw M (G j) (G (j + 1)) (M8 4 j) (M8 5 j) (M8 6 j) := fun j jk => by
    rw [r4, r5, r6, g2 j (by omega)]
    by_cases w : j = k
    · rw [if_pos (by omega), if_pos (by omega), if_pos (by omega), w, g1]
      exact ⟨by omega, Es, hs'⟩
    · rw [if_neg (by omega), if_neg (by omega), if_neg (by omega), g2 (j + 1) (by omega)]
      have := hj j (by omega)
      exact ⟨this.2.1, this.2.2.1, this.2.2.2⟩
  have fin : W = 0 → w_X9_startWords_b58 Q M8 := fun z => by
    unfold w_X9_startWords_b58
    intro A1 g3
    have oA : ∀ q, q ≠ 1 → A1 q = M8 q := fun q a => by rw [g3]; funext i; rw [ux_c _ _ _ _ a]
    have iA : ∀ i, i ≠ 8 → A1 1 i = M8 1 i := fun i a => by rw [g3, ux_i _ _ _ a]
    have tA : TKS A1 G k := by
      refine ⟨by rw [g2 0 (by omega)]; exact E0, k4, by rw [oA 4 (by decide), r4, if_pos rfl]; exact z, fun j jk => ?_, fun j jk => ?_⟩
      · rw [oA 4 (by decide), r4, if_neg (by omega)]; exact (hj j jk).1
      · obtain ⟨a1, a2, a3⟩ := all j jk
        rw [oA 4 (by decide), oA 5 (by decide), oA 6 (by decide)]
        exact ⟨a1, by rw [iA 1 (by decide), f8.2 1 (by decide)]; exact a2, scw_e a3 (by rw [iA 1 (by decide), f8.2 1 (by decide)]) (by rw [oA 2 (by decide), f8.1 2 (by decide) (by decide) (by decide) (by decide)]) (by rw [oA 7 (by decide), f8.1 7 (by decide) (by decide) (by decide) (by decide)])⟩
    refine p_nextW (k := 0) tA (by omega) (by rw [g3, ux_s]; rfl) fun B hB hP => hq B G k ⟨fun q a b d g => by rw [hB.1 q a, oA q a, f8.1 q a b d g], fun i hi => ?_⟩ hP
    rw [hB.2 i (fun y => hi (by simp only [List.mem_cons, List.not_mem_nil, or_false] at y ⊢; omega)), iA i (fun y => hi (by rw [y]; decide)), f8.2 i hi]
  refine ⟨fun z => fin (by omega), fun z => ⟨fun y => ih _ _ ⟨k + 1, G, by omega, by omega, f8, by rw [g2 0 (by omega)]; exact E0, by rw [r14, g1], by rw [g1]; have := ad.2.2.2.2 (by omega); omega, by rw [g1]; exact ad.2.2.1, fun j jk => ?_⟩ (by omega), fun y => ?_⟩⟩
  · obtain ⟨a1, a2, a3⟩ := all j (by omega)
    refine ⟨?_, a1, a2, a3⟩
    rw [r4]
    by_cases w : j = k
    · rw [if_pos (by omega)]; omega
    · rw [if_neg (by omega)]; exact (hj j (by omega)).1
  · have := ad.2.2.2.2 (by omega)
    omega
