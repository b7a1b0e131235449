/-! keep, on both sides -/
def FKc (C C' : MM) : Prop := (∀ k, k ≠ 280 → k ≠ 281 → k ≠ 282 → C' k = C k) ∧ ∀ i, i ∉ ([2, 4, 5] : List Int) → C' 280 i = C 280 i
def FKr (R R' : MM) : Prop := (∀ k, k ∉ [0, 98, 99, 102] → R' k = R k) ∧ ∀ i, i ∉ ([0, 141, 148, 149] : List Int) → R' 0 i = R 0 i
theorem RD_lg {C R C' R' : MM} (h : RD C R) (c : ∀ k, k < 211 → C' k = C k) (r : ∀ k, k ≠ 0 → k < 60 → R' k = R k) (r0 : ∀ i, i ∈ ([3, 20, 26, 27, 28, 29, 31, 36, 44] : List Int) → R' 0 i = R 0 i) : RD C' R' := by
  have hA := h.1.1
  refine RD_tp h ?_ (by rw [r 1 (by omega) (by omega)]; exact hA.2.1) (by rw [r 2 (by omega) (by omega)]; exact hA.2.2.1) (fun k a b => c k (by omega)) (by rw [c 0 (by omega)]) (fun k a b => r k (by omega) (by omega)) (fun i hi => r0 i (by simp only [List.mem_cons, List.not_mem_nil, or_false] at hi ⊢; omega))
  have t := hA.1
  unfold Rtape at t ⊢
  rw [c 1 (by omega), c 2 (by omega), c 3 (by omega), r 1 (by omega) (by omega), r 2 (by omega) (by omega), r0 3 (by decide)]
  exact t
theorem bL_eq {C C' : MM} {a : Int} (h1 : C' 282 a = C 282 a) (h2 : C' 282 (a + 1) = C 282 (a + 1)) (h3 : ∀ i, 0 ≤ i → i < lnL C a → C' 282 (a + 2 + i) = C 282 (a + 2 + i)) : lnL C' a = lnL C a ∧ bL C' a = bL C a := by
  have e : lnL C' a = lnL C a := by unfold lnL; rw [h1, h2]
  refine ⟨e, funext fun i => ?_⟩
  unfold bL
  rw [e]
  by_cases z : 0 ≤ i ∧ i < lnL C a
  · rw [if_pos z, if_pos z]; exact h3 i z.1 z.2
  · rw [if_neg z, if_neg z]
theorem p_R_keepcp {Q : Int → MM → Prop} {M : MM} {g n : Int} (g0 : 0 ≤ g) (n0 : 0 ≤ n) (hg : g + 2 + n ≤ 8000) (h148 : M 0 148 = g) (h141 : M 0 141 = n) (hb : ∀ i, -128 ≤ M 99 i ∧ M 99 i ≤ 127) (hq : ∀ M', (∀ k, k ≠ 0 → k ≠ 99 → M' k = M k) → (∀ i, i ≠ 148 → M' 0 i = M 0 i) → M' 0 148 = g + (2 + n) → (∀ i, 0 ≤ i → i < n → M' 99 (g + 2 + i) = M 98 i) → (∀ i, i < g + 2 ∨ g + 2 + n ≤ i → M' 99 i = M 99 i) → (∀ i, -128 ≤ M' 99 i ∧ M' 99 i ≤ 127) → Q (M 0 149) M') : w_X12_keep_b127 Q 0 M := by
  unfold w_X12_keep_b127
  refine loop2 _ (fun (k : Int) M1 => 0 ≤ k ∧ k ≤ n ∧ (∀ q, q ≠ 99 → M1 q = M q) ∧ (∀ i, 0 ≤ i → i < k → M1 99 (g + 2 + i) = M 98 i) ∧ (∀ i, i < g + 2 ∨ g + 2 + k ≤ i → M1 99 i = M 99 i) ∧ (∀ i, -128 ≤ M1 99 i ∧ M1 99 i ≤ 127)) (fun (k : Int) _ => (n - k).toNat) ?_ _ _ ⟨by omega, n0, fun _ _ => rfl, fun i a b => by omega, fun _ _ => rfl, hb⟩
  rintro k M1 f ⟨k0, k1, o1, v1, u1, b1⟩ ih
  unfold wb_X12_keep_b127
  intro w1 e1 _
  rw [o1 0 (by decide), h141] at e1
  refine ⟨fun z w3 e3 _ w4 e4 _ => ?_, fun z w9 e9 _ => ?_⟩
  · rw [o1 0 (by decide), h148] at e3
    rw [o1 0 (by decide), h141] at e4
    refine ⟨by unfold ri_; omega, by unfold ri_; omega, fun M7 e7 w8 e8 _ => ?_⟩
    rw [e7, ux_i _ _ _ (by decide), o1 0 (by decide)] at e8
    rw [e8]
    refine hq M7 (fun q a b => by rw [e7]; funext i; rw [ux_c _ _ _ _ a, o1 q b]) (fun i a => by rw [e7, ux_i _ _ _ a, o1 0 (by decide)]) (by rw [e7, ux_s, e3, e4]) (fun i a b => by rw [e7, ux_c _ _ _ _ (by decide)]; exact v1 i a (by omega)) (fun i a => by rw [e7, ux_c _ _ _ _ (by decide)]; exact u1 i (by omega)) (fun i => by rw [e7, ux_c _ _ _ _ (by decide)]; exact b1 i)
  · rw [o1 0 (by decide), h148] at e9
    refine ⟨by unfold ri_; omega, by unfold ri_; omega, k0, by omega, fun w12 e12 r12 => ⟨by omega, by omega, fun M13 e13 => ⟨by unfold ri_; omega, ih _ _ ⟨by omega, by omega, fun q a => by rw [e13]; funext i; rw [ux_c _ _ _ _ a, o1 q a], fun i a b => ?_, fun i a => ?_, fun i => ?_⟩ (by omega)⟩⟩⟩
    · rw [e13]
      by_cases w : i = k
      · rw [w, show g + 2 + k = w9 + 2 + k from by omega, ux_s, e12, o1 98 (by decide)]
      · rw [ux_i _ _ _ (by omega)]; exact v1 i a (by omega)
    · rw [e13, ux_i _ _ _ (by omega)]; exact u1 i (by omega)
    · rw [e13]
      by_cases w : i = w9 + 2 + k
      · rw [w, ux_s]; exact r12
      · rw [ux_i _ _ _ w]; exact b1 i
theorem Rlg_add {C R C' R' R0 R1 : MM} {g m : Int} (hg : Rlg C R) (hY : Rty C R0) (hY' : Rty C' R1) (tl : tyLe C C') (eg : C 280 4 = g) (m8 : 8 ≤ m) (gm : g + 2 + m ≤ 8000) (c4 : C' 280 4 = g + (2 + m)) (c5 : C' 280 5 = C 280 5 + 1) (a1 : ∀ i, i < g → C' 282 i = C 282 i) (lng : lnL C' g = m) (newGd : Gd C' (bL C' g) m) (r4 : R' 0 148 = g + (2 + m)) (r5 : R' 0 149 = C 280 5 + 1) (by_ : ∀ i, 0 ≤ i → i < g + 2 + m → C' 282 i = R' 99 i % 256) (b99 : ∀ i, -128 ≤ R' 99 i ∧ R' 99 i ≤ 127) (q102 : ∀ i, R' 102 i = if i = C 280 5 then g else R 102 i) : Rlg C' R' := by
  obtain ⟨l1, l2, l3, l4, l5, l6, l7, ps, p0', p1', hps⟩ := hg
  have K0 : ((C 280 5).toNat : Int) = C 280 5 := by omega
  refine ⟨by rw [c4, r4], by rw [c5, r5], by omega, by omega, by omega, fun i i0 i1 => by_ i i0 (by omega), b99, ?_⟩
  obtain ⟨qs, hq1, hq2⟩ : ∃ qs : Nat → Int, qs ((C 280 5).toNat + 1) = g + 2 + m ∧ ∀ k, k ≠ (C 280 5).toNat + 1 → qs k = ps k := ⟨fun k => if k = (C 280 5).toNat + 1 then g + 2 + m else ps k, if_pos rfl, fun k hk => if_neg hk⟩
  refine ⟨qs, by rw [hq2 0 (by omega)]; exact p0', by rw [c5, show (C 280 5 + 1).toNat = (C 280 5).toNat + 1 from by omega, hq1, c4]; omega, fun k hk => ?_⟩
  rw [c5] at hk
  rw [hq2 k (by omega), c4, q102]
  by_cases w : k = (C 280 5).toNat
  · have pk : ps k = g := by rw [w, p1']; exact eg
    rw [if_pos (by omega), pk, lng, w, hq1]
    exact ⟨rfl, by omega, by omega, by omega, by omega, newGd⟩
  · obtain ⟨x1, x2, x3, x4, x5, x6⟩ := hps k (by omega)
    rw [if_neg (by omega), hq2 (k + 1) (by omega)]
    obtain ⟨f1, f2⟩ := bL_eq (C := C) (C' := C') (a := ps k) (a1 _ (by omega)) (a1 _ (by omega)) (fun i _ _ => a1 _ (by omega))
    rw [f1, f2]
    exact ⟨x1, x2, x3, x4, by omega, (Gd_le hY hY' tl x6).1⟩
theorem p_append {Q : Int → MM → Prop} {C M : MM} {L : List Int} {g : Int} (hF : Fb C M) (hB : Bc M L) (g4 : C 280 4 = g) (g0 : 0 ≤ g) (g1 : g ≤ 8000) (l0 : L.length ≤ 4000) (c5 : 0 ≤ C 280 5 ∧ C 280 5 ≤ 8000)
    (hq : g + 2 + L.length ≤ 8000 → ∀ M', (∀ k, k ≠ 280 → k ≠ 281 → k ≠ 282 → M' k = C k) → (∀ i, i ∉ ([2, 4, 5] : List Int) → M' 280 i = C 280 i) → M' 280 4 = g + (2 + L.length) → M' 280 5 = C 280 5 + 1 → (∀ i, i < g → M' 282 i = C 282 i) → M' 282 g = jand L.length 255 → M' 282 (g + 1) = jshr L.length 8 → (∀ i : Nat, (hi : i < L.length) → M' 282 (g + 2 + i) = L[i]) → Q 1 M')
    (hn : 8000 < g + 2 + L.length → Q 0 M) : w_X0_append Q (L.length : Int) M := by
  obtain ⟨m, hm⟩ : ∃ m : Int, (L.length : Int) = m := ⟨_, rfl⟩
  rw [hm] at hq hn ⊢
  have m4 : M 280 4 = g := by rw [hF.2 4 (by decide)]; exact g4
  have m5 : M 280 5 = C 280 5 := hF.2 5 (by decide)
  unfold w_X0_append
  intro v1 e1 _
  rw [m4] at e1
  refine ⟨by unfold ri_; omega, by unfold ri_; omega, fun y v5 e5 _ => ?_, fun y => hn (by omega)⟩
  rw [m4] at e5
  refine ⟨by omega, by omega, fun M6 e6 v7 e7 _ => ?_⟩
  rw [e6, ux_c _ _ _ _ (by decide), m4] at e7
  refine ⟨by unfold ri_; omega, by omega, by omega, fun M9 e9 v10 e10 _ => ?_⟩
  rw [e9, e6, ux_c _ _ _ _ (by decide), ux_c _ _ _ _ (by decide), m4] at e10
  refine ⟨by unfold ri_; omega, by omega, by omega, by omega, by omega, fun M12 e12 v13 e13 _ => ?_⟩
  have q12 : ∀ k, k ≠ 282 → M12 k = M k := fun k hk => by
    rw [e12]; funext i; unfold jcp
    rw [if_neg (fun q => hk q.1), e9, e6, ux_c _ _ _ _ hk, ux_c _ _ _ _ hk]
  rw [q12 280 (by decide), m4] at e13
  refine ⟨by unfold ri_; omega, by unfold ri_; omega, fun M16 e16 v17 e17 _ => ?_⟩
  rw [e16, ux_i _ _ _ (by decide), q12 280 (by decide), m5] at e17
  refine ⟨by unfold ri_; omega, fun M19 e19 => ?_⟩
  have L282 : ∀ i, M19 282 i = M12 282 i := fun i => by rw [e19, e16, ux_c _ _ _ _ (by decide), ux_c _ _ _ _ (by decide)]
  refine hq (by omega) M19 (fun k a b d => ?_) (fun i hi => ?_) ?_ ?_ (fun i hi => ?_) ?_ ?_ (fun i hi => ?_)
  · rw [e19, e16]; funext i; rw [ux_c _ _ _ _ a, ux_c _ _ _ _ a, q12 k d, hF.1 k a b]
  · rw [e19, ux_i _ _ _ (fun y => hi (by rw [y]; decide)), e16, ux_i _ _ _ (fun y => hi (by rw [y]; decide)), q12 280 (by decide), hF.2 i (fun y => hi (by rw [y]; decide))]
  · rw [e19, ux_i _ _ _ (by decide), e16, ux_s, e13]
  · rw [e19, ux_s, e17]
  · rw [L282, e12]; unfold jcp
    rw [if_neg (by omega), e9, e6, ux_i _ _ _ (by omega), ux_i _ _ _ (by omega), hF.1 282 (by decide) (by decide)]
  · rw [L282, e12]; unfold jcp
    rw [if_neg (by omega), e9, ux_i _ _ _ (by omega), e6, ← e5, ux_s]
  · rw [L282, e12]; unfold jcp
    rw [if_neg (by omega), e9, ← e7, ux_s]
  · have := hB.2 i hi (by omega)
    rw [L282, e12]; unfold jcp
    rw [if_pos ⟨rfl, by omega, by omega⟩, show (0 : Int) + (g + 2 + (i : Int) - (v10 + 2)) = i from by omega, e9, e6, ux_c _ _ _ _ (by decide), ux_c _ _ _ _ (by decide)]
    exact this
theorem p_R_keepS {Q : Int → MM → Prop} {R N : MM} {L : List Int} {g K : Int} (hN : Fr98 (ux_ R 0 0 0) N) (hB : Br N L) (g0 : 0 ≤ g) (l0 : L.length ≤ 4000) (gl : g + 2 + L.length ≤ 8000) (h148 : R 0 148 = g) (h149 : R 0 149 = K) (K0 : 0 ≤ K) (K1 : K < 1000) (hb : ∀ i, -128 ≤ R 99 i ∧ R 99 i ≤ 127)
    (hq : ∀ M', (∀ k, k ∉ [0, 98, 99, 102] → M' k = R k) → (∀ i, i ∉ ([0, 141, 148, 149] : List Int) → M' 0 i = R 0 i) → M' 0 0 = 0 → M' 0 148 = g + (2 + L.length) → M' 0 149 = K + 1 → (∀ i, M' 102 i = if i = K then g else R 102 i) → (∀ i, i < g → M' 99 i = R 99 i) → M' 99 g = ji2b L.length → M' 99 (g + 1) = ji2b (jshr L.length 8) → (∀ i : Nat, (hi : i < L.length) → M' 99 (g + 2 + i) % 256 = L[i]) → (∀ i, -128 ≤ M' 99 i ∧ M' 99 i ≤ 127) → Q (K + 1) M') : w_X12_keep_b57 Q 0 N := by
  obtain ⟨m, hm⟩ : ∃ m : Int, (L.length : Int) = m := ⟨_, rfl⟩
  rw [hm] at hq
  have nr : ∀ k, k ≠ 0 → k ≠ 98 → N k = R k := fun k a b => by rw [hN.1 k a b]; funext i; rw [ux_c _ _ _ _ a]
  have nz : ∀ i, i ∉ ([0, 141] : List Int) → N 0 i = R 0 i := fun i hi => by rw [hN.2 i (fun y => hi (by rw [y]; decide)), ux_i _ _ _ (fun y => hi (by rw [y]; decide))]
  unfold w_X12_keep_b57
  intro N1 g1 w2 t2 _
  rw [g1, ux_s] at t2
  refine ⟨fun _ w4 t4 _ w5 t5 _ => ?_, fun y => by omega⟩
  rw [g1, ux_i _ _ _ (by decide), nz 149 (by decide), h149] at t4
  rw [g1, ux_i _ _ _ (by decide), nz 148 (by decide), h148] at t5
  refine ⟨by omega, by omega, fun N6 g6 w7 t7 _ => ?_⟩
  rw [g6, g1, ux_c _ _ _ _ (by decide), ux_i _ _ _ (by decide), nz 149 (by decide), h149] at t7
  refine ⟨by unfold ri_; omega, fun N9 g9 w10 t10 _ w11 t11 _ => ?_⟩
  rw [g9, g6, g1, ux_i _ _ _ (by decide), ux_c _ _ _ _ (by decide), ux_i _ _ _ (by decide), nz 148 (by decide), h148] at t10
  rw [g9, g6, g1, ux_i _ _ _ (by decide), ux_c _ _ _ _ (by decide), ux_i _ _ _ (by decide), hB.1, hm] at t11
  refine ⟨by omega, by omega, fun N12 g12 w13 t13 _ => ?_⟩
  rw [g12, g9, g6, g1, ux_c _ _ _ _ (by decide), ux_i _ _ _ (by decide), ux_c _ _ _ _ (by decide), ux_i _ _ _ (by decide), nz 148 (by decide), h148] at t13
  refine ⟨by unfold ri_; omega, fun w15 t15 _ => ⟨by omega, by omega, fun N16 g16 => ?_⟩⟩
  rw [g12, g9, g6, g1, ux_c _ _ _ _ (by decide), ux_i _ _ _ (by decide), ux_c _ _ _ _ (by decide), ux_i _ _ _ (by decide), hB.1, hm] at t15
  have q0 : ∀ i, N16 0 i = if i = 149 then K + 1 else if i = 0 then 0 else N 0 i := fun i => by
    rw [g16, g12, ux_c _ _ _ _ (by decide), ux_c _ _ _ _ (by decide), g9]
    by_cases w : i = 149
    · rw [w, ux_s, if_pos rfl, t7]
    · rw [ux_i _ _ _ w, if_neg w, g6, ux_c _ _ _ _ (by decide), g1]
      by_cases w' : i = 0
      · rw [w', ux_s, if_pos rfl]
      · rw [ux_i _ _ _ w', if_neg w']
  have qk : ∀ k, k ≠ 0 → k ≠ 99 → k ≠ 102 → N16 k = N k := fun k a b d => by rw [g16, g12, g9, g6, g1]; funext i; rw [ux_c _ _ _ _ b, ux_c _ _ _ _ b, ux_c _ _ _ _ a, ux_c _ _ _ _ d, ux_c _ _ _ _ a]
  have q102 : ∀ i, N16 102 i = if i = K then g else R 102 i := fun i => by
    rw [g16, g12, g9, ux_c _ _ _ _ (by decide), ux_c _ _ _ _ (by decide), ux_c _ _ _ _ (by decide), g6]
    by_cases w : i = K
    · rw [if_pos w, w, ← t4, ux_s, t5]
    · rw [if_neg w, ux_i _ _ _ (by omega), g1, ux_c _ _ _ _ (by decide), nr 102 (by decide) (by decide)]
  have q99 : ∀ i, N16 99 i = if i = g + 1 then ji2b (jshr m 8) else if i = g then ji2b m else R 99 i := fun i => by
    rw [g16]
    by_cases w : i = g + 1
    · rw [if_pos w, w, show g + 1 = w13 + 1 from by omega, ux_s, t15]
    · rw [if_neg w, ux_i _ _ _ (by omega), g12]
      by_cases w' : i = g
      · rw [if_pos w', w', ← t10, ux_s, t11]
      · rw [if_neg w', ux_i _ _ _ (by omega), g9, g6, g1, ux_c _ _ _ _ (by decide), ux_c _ _ _ _ (by decide), ux_c _ _ _ _ (by decide), nr 99 (by decide) (by decide)]
  have v148 : N16 0 148 = g := by rw [q0, if_neg (by decide), if_neg (by decide), nz 148 (by decide)]; exact h148
  have v141 : N16 0 141 = m := by rw [q0, if_neg (by decide), if_neg (by decide), hB.1, hm]
  have v149 : N16 0 149 = K + 1 := by rw [q0, if_pos rfl]
  have N98 : N16 98 = N 98 := qk 98 (by decide) (by decide) (by decide)
  clear g16 g12 g9 g6 g1 t15 t13 t11 t10 t7 t5 t4 t2
  refine p_R_keepcp (g := g) (n := m) g0 (by omega) (by omega) v148 v141 (fun i => ?_) fun M' o' z' v148 v99 u99 b99 => ?_
  · rw [q99]
    by_cases w : i = g + 1
    · rw [if_pos w]; exact ji2b_b _
    · rw [if_neg w]
      by_cases w' : i = g
      · rw [if_pos w']; exact ji2b_b _
      · rw [if_neg w']; exact hb i
  rw [v149]
  refine hq M' (fun k hk => ?_) (fun i hi => ?_) ?_ v148 ?_ (fun i => ?_) (fun i hi => ?_) ?_ ?_ (fun i hi => ?_) b99
  · simp only [List.mem_cons, List.not_mem_nil, or_false, not_or] at hk
    rw [o' k hk.1 hk.2.2.1, qk k hk.1 hk.2.2.1 hk.2.2.2, nr k hk.1 hk.2.1]
  · simp only [List.mem_cons, List.not_mem_nil, or_false, not_or] at hi
    rw [z' i hi.2.2.1, q0, if_neg hi.2.2.2, if_neg hi.1, nz i (by simp only [List.mem_cons, List.not_mem_nil, or_false, not_or]; exact ⟨hi.1, hi.2.1⟩)]
  · rw [z' 0 (by decide), q0, if_neg (by decide), if_pos rfl]
  · rw [z' 149 (by decide)]; exact v149
  · rw [o' 102 (by decide) (by decide)]; exact q102 i
  · rw [u99 i (Or.inl (by omega)), q99, if_neg (by omega), if_neg (by omega)]
  · rw [u99 g (Or.inl (by omega)), q99, if_neg (by omega), if_pos rfl]
  · rw [u99 (g + 1) (Or.inl (by omega)), q99, if_pos rfl]
  · rw [v99 i (by omega) (by omega), N98]
    exact hB.2 i hi (by omega)
theorem kp_lg {C R R0 M M' : MM} {c : Nat} (hg : Rlg C R) (hY : Rty C R0) (hw : PW C c) (hv : ∀ t k, 0 ≤ t → t < C c 0 → 0 ≤ k → k < pcn C c t → rl_ (C (c + 9) (C (c + 4) t + k))) (hl : (eA C c).length ≤ 4000) (hl2 : C 280 4 + 2 + (eA C c).length ≤ 8000)
    (kC : ∀ k, k ≠ 280 → k ≠ 281 → k ≠ 282 → M k = C k) (c4 : M 280 4 = C 280 4 + (2 + (eA C c).length)) (c5 : M 280 5 = C 280 5 + 1) (a1 : ∀ i, i < C 280 4 → M 282 i = C 282 i) (a2 : M 282 (C 280 4) = jand (eA C c).length 255) (a3 : M 282 (C 280 4 + 1) = jshr (eA C c).length 8) (a4 : ∀ i : Nat, (hi : i < (eA C c).length) → M 282 (C 280 4 + 2 + i) = (eA C c)[i])
    (v148 : M' 0 148 = C 280 4 + (2 + (eA C c).length)) (v149 : M' 0 149 = C 280 5 + 1) (q102 : ∀ i, M' 102 i = if i = C 280 5 then C 280 4 else R 102 i) (u1 : ∀ i, i < C 280 4 → M' 99 i = R 99 i) (u2 : M' 99 (C 280 4) = ji2b (eA C c).length) (u3 : M' 99 (C 280 4 + 1) = ji2b (jshr (eA C c).length 8)) (u4 : ∀ i : Nat, (hi : i < (eA C c).length) → M' 99 (C 280 4 + 2 + i) % 256 = (eA C c)[i]) (b99 : ∀ i, -128 ≤ M' 99 i ∧ M' 99 i ≤ 127) : Rlg M M' := by
  have a8 := eA_len8 C c
  have jb := jshr8n (x := (eA C c).length) (by omega) (by omega)
  have hY19 : Rty M R0 := Rty_C hY (fun k a b => kC k (by omega) (by omega) (by omega))
  have tl19 : tyLe C M := tyLe_of (by rw [kC 8 (by decide) (by decide) (by decide)]) (fun k a b => kC k (by omega) (by omega) (by omega))
  have lng : lnL M (C 280 4) = (eA C c).length := by unfold lnL; rw [a2, a3]; exact jb.1
  have l3 := hg.2.2.1
  have l4 := hg.2.2.2.1
  have l6 := hg.2.2.2.2.2.1
  have newGd : Gd M (bL M (C 280 4)) (eA C c).length := by
    obtain ⟨d1, d2⟩ := dc_ok (B := bL M (C 280 4)) (n := (eA C c).length) hY hw hv rfl (fun i hi => by
      unfold bL
      rw [lng, if_pos ⟨by omega, by omega⟩, a4 i hi]
      exact (List.getElem_eq_getD 0))
    refine (Gd_le hY hY19 tl19 ⟨d1, fun u hu q => ?_⟩).1
    obtain ⟨s0, -, st, -⟩ := d2
    rw [s0] at hu
    rw [(st u hu).2.1] at q ⊢
    exact ((hw.2.2.2.1 u (by omega) hu).2.2.2.1 q).1
  refine Rlg_add hg hY hY19 tl19 (g := C 280 4) (m := (eA C c).length) rfl (by omega) (by omega) c4 c5 a1 lng newGd v148 v149 (fun i i0 i1 => ?_) b99 q102
  by_cases w : i < C 280 4 + 2
  · by_cases w1 : i = C 280 4 + 1
    · rw [w1, a3, u3]; exact jb.2.2.2.2.2.2.symm
    · by_cases w2 : i = C 280 4
      · rw [w2, a2, u2]; exact jb.2.2.2.2.2.1.symm
      · rw [a1 i (by omega), u1 i (by omega)]; exact l6 i i0 (by omega)
  · obtain ⟨J, eJ⟩ : ∃ J : Nat, i = C 280 4 + 2 + J := ⟨(i - (C 280 4 + 2)).toNat, by omega⟩
    have hJ' : J < (eA C c).length := by omega
    rw [eJ, a4 J hJ', u4 J hJ']
set_option maxHeartbeats 2000000 in
theorem t_keep {C R : MM} {p : Int} (h : RD C R) (hg : Rlg C R) : w_X11_keep (fun r C' => w_X12_keep (fun r' R' => r = r' ∧ R' 0 0 = 0 ∧ RD C' R' ∧ Rlg C' R' ∧ FKc C C' ∧ FKr R R') p R) (fun X C' => w_X12_keep (fun r' R' => (X = "java/lang/IndexOutOfBoundsException" ∧ R' 0 0 = 1 ∨ X = "java/lang/IllegalStateException" ∧ R' 0 0 = 2) ∧ RD C' R' ∧ Rlg C' R' ∧ FKc C C' ∧ FKr R R') p R) p C := by
  have h' := h
  obtain ⟨hB, hJ, cs, hcs⟩ := h
  have hY := hB.1.2.2.2.2
  obtain ⟨l1, l2, l3, l4, l5, l6, l7, ps, p0', p1', hps⟩ := id hg
  -- the log is as it was
  have same : ∀ C' R' : MM, (∀ k, k < 211 → C' k = C k) → C' 282 = C 282 → C' 280 4 = C 280 4 → C' 280 5 = C 280 5 → R' 99 = R 99 → R' 102 = R 102 → R' 0 148 = R 0 148 → R' 0 149 = R 0 149 → Rlg C' R' := fun C' R' c e1 e2 e3 e4 e5 e6 e7 => by
    have hYC : Rty C' R := Rty_C hY (fun k a b => c k (by omega))
    unfold Rlg
    rw [e1, e2, e3, e4, e5, e6, e7]
    refine ⟨l1, l2, l3, l4, l5, l6, l7, ps, p0', p1', fun k hk => ?_⟩
    obtain ⟨a1, a2, a3, a4, a5, a6⟩ := hps k hk
    obtain ⟨f1, f2⟩ := bL_eq (C := C) (C' := C') (a := ps k) (by rw [e1]) (by rw [e1]) (fun i _ _ => by rw [e1])
    rw [f1, f2]
    exact ⟨a1, a2, a3, a4, a5, (Gd_le hY hYC (tyLe_of (by rw [c 8 (by omega)]) (fun k a b => c k (by omega))) a6).1⟩
  unfold w_X11_keep w_X11_needPicture
  refine p_isPic (fun p0 p4 _ => ⟨fun _ => ?_, fun y => absurd y (by decide)⟩) (fun hn _ => ⟨fun y => absurd rfl y, fun _ => ?_⟩)
  · have hc := hcs.1 p p0 p4
    have hw := hc.2.1
    have ip := hcs.2.2.2.1 p p0 (by omega)
    have mp := isP_m ip
    have la : (eA C (cs p)).length = (eB C (cs p)).length + 4 := by unfold eA; rw [List.length_append]; rfl
    have a8 := eA_len8 C (cs p)
    -- the reference, up to the room
    have ref : ∀ Q : Int → MM → Prop, (∀ M, Fr98 (ux_ R 0 0 0) M → Br M (eA C (cs p)) → (eA C (cs p)).length ≤ 4000 → C 280 4 + 2 + (eA C (cs p)).length ≤ 8000 → w_X12_keep_b57 Q 0 M) → (∀ M, Fr98 (ux_ R 0 0 0) M → 4000 < (eA C (cs p)).length ∨ 8000 < C 280 4 + 2 + (eA C (cs p)).length → w_X12_keep_b57 Q 2 M) → w_X12_keep Q p R := fun Q k1 k2 => by
      unfold w_X12_keep
      refine p_R_isPic (fun _ _ _ => ⟨fun y => absurd y (by decide), fun _ => ?_⟩) (fun y => absurd ⟨p0, p4⟩ y)
      unfold w_X12_keep_b14 w_X12_keep_b52
      intro M1 e1 v2 e2 _
      rw [e1, ux_s] at e2
      refine ⟨fun _ => ?_, fun y => by omega⟩
      subst e1
      refine p_R_putPicture (RB_00 hB 0).1.2.2.2.2 hw (pic_00 0 hc.2.2.1) p0 (by omega) (fun M hF hBr hl _ => ⟨fun y => absurd y (by decide), fun _ v7 e7 _ => ?_⟩) (fun M hF hl _ => ⟨fun _ => k2 M hF (Or.inl hl), fun y => absurd rfl y⟩)
      rw [hF.2 148 (by decide), ux_i _ _ _ (by decide), ← l1] at e7
      refine ⟨by unfold ri_; omega, fun v9 e9 _ => ?_⟩
      rw [hBr.1] at e9
      exact ⟨by unfold ri_; omega, fun y => k1 M hF hBr hl (by omega), fun y => k2 M hF (Or.inr (by omega))⟩
    have fail : ∀ (M : MM), Fb C M → (4000 < (eA C (cs p)).length ∨ 8000 < C 280 4 + 2 + (eA C (cs p)).length) → w_X12_keep (fun r' R' => ("java/lang/IllegalStateException" = "java/lang/IndexOutOfBoundsException" ∧ R' 0 0 = 1 ∨ "java/lang/IllegalStateException" = "java/lang/IllegalStateException" ∧ R' 0 0 = 2) ∧ RD M R' ∧ Rlg M R' ∧ FKc C M ∧ FKr R R') p R := fun M hF hbig => by
      refine ref _ (fun N hN hBr hl hl2 => by omega) (fun N hN _ => ?_)
      unfold w_X12_keep_b57
      intro M1 e1 v2 e2 _
      rw [e1, ux_s] at e2
      refine ⟨fun y => by omega, fun _ => ⟨Or.inr ⟨rfl, by rw [e1, ux_s]⟩, ?_⟩⟩
      have nR : ∀ k, k ∉ [0, 98, 99, 102] → M1 k = R k := fun k hk => by
        rw [e1]; funext i
        rw [ux_c _ _ _ _ (fun y => hk (by rw [y]; decide)), hN.1 k (fun y => hk (by rw [y]; decide)) (fun y => hk (by rw [y]; decide)), ux_c _ _ _ _ (fun y => hk (by rw [y]; decide))]
      have nR9 : ∀ k, k = 99 ∨ k = 102 → M1 k = R k := fun k hk => by
        rw [e1]; funext i
        rw [ux_c _ _ _ _ (by omega), hN.1 k (by omega) (by omega), ux_c _ _ _ _ (by omega)]
      have nR0 : ∀ i, i ∉ ([0, 141] : List Int) → M1 0 i = R 0 i := fun i hi => by
        rw [e1, ux_i _ _ _ (fun y => hi (by rw [y]; decide)), hN.2 i (fun y => hi (by rw [y]; decide)), ux_i _ _ _ (fun y => hi (by rw [y]; decide))]
      exact ⟨RD_lg h' (fun k hk => hF.1 k (by omega) (by omega)) (fun k a b => nR k (by simp only [List.mem_cons, List.not_mem_nil, or_false]; omega)) (fun i hi => nR0 i (by simp only [List.mem_cons, List.not_mem_nil, or_false] at hi ⊢; omega)), same M M1 (fun k hk => hF.1 k (by omega) (by omega)) (hF.1 282 (by decide) (by decide)) (hF.2 4 (by decide)) (hF.2 5 (by decide)) (nR9 99 (Or.inl rfl)) (nR9 102 (Or.inr rfl)) (nR0 148 (by decide)) (nR0 149 (by decide)), ⟨fun k a b d => hF.1 k a b, fun i hi => hF.2 i (fun y => hi (by rw [y]; decide))⟩, nR, fun i hi => nR0 i (fun y => hi (by simp only [List.mem_cons, List.not_mem_nil, or_false] at y ⊢; omega))⟩
    have fin : ∀ (M19 : MM), (∀ t k, 0 ≤ t → t < C (cs p) 0 → 0 ≤ k → k < pcn C (cs p) t → rl_ (C (cs p + 9) (C (cs p + 4) t + k))) → (eA C (cs p)).length ≤ 4000 → C 280 4 + 2 + (eA C (cs p)).length ≤ 8000 → (∀ k, k ≠ 280 → k ≠ 281 → k ≠ 282 → M19 k = C k) → (∀ i, i ∉ ([2, 4, 5] : List Int) → M19 280 i = C 280 i) → M19 280 4 = C 280 4 + (2 + (eA C (cs p)).length) → M19 280 5 = C 280 5 + 1 → (∀ i, i < C 280 4 → M19 282 i = C 282 i) → M19 282 (C 280 4) = jand (eA C (cs p)).length 255 → M19 282 (C 280 4 + 1) = jshr (eA C (cs p)).length 8 → (∀ i : Nat, (hi : i < (eA C (cs p)).length) → M19 282 (C 280 4 + 2 + i) = (eA C (cs p))[i]) → w_X12_keep (fun r' R' => C 280 5 + 1 = r' ∧ R' 0 0 = 0 ∧ RD M19 R' ∧ Rlg M19 R' ∧ FKc C M19 ∧ FKr R R') p R := fun M19 hv z' hg2 kC cI c4 c5 a1 a2 a3 a4 => by
      refine ref _ (fun N hN hBr hl hl2 => ?_) (fun N hN hbig => by omega)
      refine p_R_keepS (g := C 280 4) (K := C 280 5) hN hBr (by omega) hl hl2 l1.symm l2.symm l3 (by omega) l7 fun M' fR fR0 f00 v148 v149 q102 u1 u2 u3 u4 b99 => ?_
      refine ⟨rfl, f00, RD_lg h' (fun k hk => kC k (by omega) (by omega) (by omega)) (fun k a b => fR k (by simp only [List.mem_cons, List.not_mem_nil, or_false]; omega)) (fun i hi => fR0 i (by simp only [List.mem_cons, List.not_mem_nil, or_false] at hi ⊢; omega)), ?_, ⟨kC, cI⟩, fR, fR0⟩
      exact kp_lg hg hY hw hv hl hl2 kC c4 c5 a1 a2 a3 a4 v148 v149 q102 u1 u2 u3 u4 b99
    refine ⟨p0, p4, cs p, hc.1, ip, p_encodeV hY hw ip fun M x hF hBc hx hv _ => ⟨fun z => ?_, fun z => ?_⟩⟩
    · unfold w_X11_keep_b36
      have lx : (eB C (cs p) ++ ck4 x).length = (eB C (cs p)).length + 4 := by rw [List.length_append]; rfl
      exact fail M hF (Or.inl (by omega))
    · have lx : (eB C (cs p) ++ ck4 x).length = (eB C (cs p)).length + 4 := by rw [List.length_append]; rfl
      have ex := hx (by omega)
      have z' : (eA C (cs p)).length ≤ 4000 := by omega
      rw [ex] at hBc ⊢
      change Bc M (eA C (cs p)) at hBc
      show w_X0_append _ ((eA C (cs p)).length : Int) M
      refine p_append (g := C 280 4) hF hBc rfl (by omega) l5 z' ⟨l3, by omega⟩ (fun hg2 M19 kC cI c4 c5 a1 a2 a3 a4 _ => ⟨fun _ v9 e9 _ => ?_, fun y2 => absurd y2 (by decide)⟩) (fun hbig _ => ⟨fun y2 => absurd rfl y2, fun _ => ?_⟩)
      · rw [c5] at e9
        rw [e9]
        exact fin M19 hv z' hg2 kC cI c4 c5 a1 a2 a3 a4
      · unfold w_X11_keep_b36
        exact fail M hF (Or.inr (by omega))
  · unfold w_X12_keep
    refine p_R_isPic (fun a b => absurd ⟨a, b⟩ hn) (fun _ _ => ⟨fun _ => ?_, fun y => absurd rfl y⟩)
    unfold w_X12_keep_b14
    intro M1 e1 v2 e2 _
    rw [e1, ux_s] at e2
    refine ⟨fun y => by omega, fun _ => ?_⟩
    rw [e1]
    exact ⟨Or.inl ⟨rfl, ux_s _ _ _ _⟩, RD_00 h' 1, same C _ (fun _ _ => rfl) rfl rfl rfl (funext fun i => ux_c _ _ _ _ (by decide)) (funext fun i => ux_c _ _ _ _ (by decide)) (ux_i _ _ _ (by decide)) (ux_i _ _ _ (by decide)), ⟨fun _ _ _ _ => rfl, fun _ _ => rfl⟩, fun k hk => funext fun i => ux_c _ _ _ _ (fun y => hk (by rw [y]; decide)), fun i hi => ux_i _ _ _ (fun y => hi (by rw [y]; decide))⟩
